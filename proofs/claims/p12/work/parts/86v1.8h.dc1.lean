/-! RELATIONS OF METHODS (printed by wip/p8/g8h.py) -/
theorem dc_ite_I {x y : Int} (hx : sv_I x) (hy : sv_I y) : sv_I (if x < y then x else y) := by split <;> assumption
theorem dc_len_I {l : List Nat} (h : l.length < 1000) : sv_I (l.length : Int) := by unfold sv_I; omega
def dc_xs (k : Nat) : List Nat := ae_xr9 (k - 256)
theorem dc_xs_at {k : Nat} (h : 259 ≤ k ∧ k < 265) : ae_exs[k - 256]? = some (dc_xs k) := by
  have hl : k - 256 < ae_exs.length := by show k - 256 < 9; omega
  unfold dc_xs ae_xr9
  rw [List.getD_eq_getElem?_getD, List.getElem?_eq_getElem hl]; rfl
theorem dc_xs_len {k : Nat} (h : 259 ≤ k ∧ k < 265) : (dc_xs k).length < 1000 := (dc_exs_b _ (List.mem_of_getElem? (dc_xs_at h))).1
theorem dc_xs_lt {k : Nat} (h : 259 ≤ k ∧ k < 265) (i : Nat) : (dc_xs k).getD i 0 < 4294967296 := dc_gd (dc_exs_b _ (List.mem_of_getElem? (dc_xs_at h))).2 i
theorem dc_xr_lt (j i : Nat) : (ae_xr9 j).getD i 0 < 4294967296 := by
  unfold ae_xr9
  rw [List.getD_eq_getElem?_getD (l := ae_exs)]
  cases e : ae_exs[j]? with
  | none => show ([] : List Nat).getD i 0 < _; rw [List.getD_eq_getElem?_getD]; simp
  | some l => exact dc_gd (dc_exs_b _ (List.mem_of_getElem? e)).2 i
/-! method 123 -/
theorem xm_123 : ae_m 123 = some (wk_M 123) := rfl
theorem xd_123_0 : decode (wk_M 123).2.2.1 0 = .ok (.aload_n 0, 1) := zd_by (by decide +kernel)
theorem xd_123_1 : decode (wk_M 123).2.2.1 1 = .ok (.iload_n 1, 1) := zd_by (by decide +kernel)
theorem xd_123_2 : decode (wk_M 123).2.2.1 2 = .ok (.putfield 31, 3) := zd_by (by decide +kernel)
theorem xd_123_5 : decode (wk_M 123).2.2.1 5 = .ok (.aload_n 0, 1) := zd_by (by decide +kernel)
theorem xd_123_6 : decode (wk_M 123).2.2.1 6 = .ok (.iload_n 2, 1) := zd_by (by decide +kernel)
theorem xd_123_7 : decode (wk_M 123).2.2.1 7 = .ok (.putfield 34, 3) := zd_by (by decide +kernel)
theorem xd_123_10 : decode (wk_M 123).2.2.1 10 = .ok (.iconst 0, 1) := zd_by (by decide +kernel)
theorem xd_123_11 : decode (wk_M 123).2.2.1 11 = .ok (.ireturn, 1) := zd_by (by decide +kernel)
abbrev D_123 (x0 : Int) (x1 : Int) (m : dc_M) (v : Int) (m' : dc_M) : Prop := ∃ m_10, m_10 = dc_up m 1 8 x0 ∧ (∃ m_23, m_23 = dc_up m_10 1 9 x1 ∧ (v = 0 ∧ m' = m_23))
theorem ds_123 (n : Nat) (x0 : Int) (x1 : Int) {h : ae_H} {r : ae_R} (ok : dc_ok h) (ix0 : sv_I x0) (ix1 : sv_I x1) (hr : ae_exe n 123 0 0 0 (ae_args [wk_r 1, wk_i x0, wk_i x1] 0) [] h = some r) : ∃ v, D_123 x0 x1 (dc_m h) v (dc_m r.2) ∧ r.1 = some (wk_i v) ∧ sv_I v ∧ dc_ok r.2 := by
  have q0 : ae_lk (ae_args [wk_r 1, wk_i x0, wk_i x1] 0) 0 = some (wk_r 1) := rfl
  have q1 : ae_lk (ae_args [wk_r 1, wk_i x0, wk_i x1] 0) 1 = some (wk_i x0) := rfl
  have q2 : ae_lk (ae_args [wk_r 1, wk_i x0, wk_i x1] 0) 2 = some (wk_i x1) := rfl
  obtain ⟨n_1, e_2, hr_3⟩ := iv_aload_n xm_123 xd_123_0 q0 hr
  obtain ⟨n_4, e_5, hr_6⟩ := iv_iload_n xm_123 xd_123_1 q1 hr_3
  obtain ⟨h_7, ok_8, em_9, n_11, e_12, hr_13⟩ := iv_puti (j := 8) (fk := 0) xm_123 xd_123_2 (by decide +kernel) ok (rfl : sv_ty 1 = some 9) dt_9 rfl (by decide +kernel) rfl ix0 hr_6
  obtain ⟨n_14, e_15, hr_16⟩ := iv_aload_n xm_123 xd_123_5 q0 hr_13
  obtain ⟨n_17, e_18, hr_19⟩ := iv_iload_n xm_123 xd_123_6 q2 hr_16
  obtain ⟨h_20, ok_21, em_22, n_24, e_25, hr_26⟩ := iv_puti (j := 9) (fk := 0) xm_123 xd_123_7 (by decide +kernel) ok_8 (rfl : sv_ty 1 = some 9) dt_9 rfl (by decide +kernel) rfl ix1 hr_19
  obtain ⟨n_27, e_28, hr_29⟩ := iv_iconst xm_123 xd_123_10 (by decide) hr_26
  have rr_30 := iv_ireturn xm_123 xd_123_11 hr_29
  subst rr_30
  exact ⟨_, ⟨_, em_9, ⟨_, em_22, ⟨rfl, rfl⟩⟩⟩, rfl, (by unfold sv_I; omega), ok_21⟩
/-! method 124 -/
theorem xm_124 : ae_m 124 = some (wk_M 124) := rfl
theorem xd_124_0 : decode (wk_M 124).2.2.1 0 = .ok (.aload_n 0, 1) := zd_by (by decide +kernel)
theorem xd_124_1 : decode (wk_M 124).2.2.1 1 = .ok (.getfield 15, 3) := zd_by (by decide +kernel)
theorem xd_124_4 : decode (wk_M 124).2.2.1 4 = .ok (.aload_n 0, 1) := zd_by (by decide +kernel)
theorem xd_124_5 : decode (wk_M 124).2.2.1 5 = .ok (.getfield 25, 3) := zd_by (by decide +kernel)
theorem xd_124_8 : decode (wk_M 124).2.2.1 8 = .ok (.if_icmp .le 15, 3) := zd_by (by decide +kernel)
theorem xd_124_11 : decode (wk_M 124).2.2.1 11 = .ok (.aload_n 0, 1) := zd_by (by decide +kernel)
theorem xd_124_12 : decode (wk_M 124).2.2.1 12 = .ok (.iconst 1, 1) := zd_by (by decide +kernel)
theorem xd_124_13 : decode (wk_M 124).2.2.1 13 = .ok (.aload_n 0, 1) := zd_by (by decide +kernel)
theorem xd_124_14 : decode (wk_M 124).2.2.1 14 = .ok (.getfield 55, 3) := zd_by (by decide +kernel)
theorem xd_124_17 : decode (wk_M 124).2.2.1 17 = .ok (.invokevirtual 80, 3) := zd_by (by decide +kernel)
theorem xd_124_20 : decode (wk_M 124).2.2.1 20 = .ok (.ifCond .eq 7, 3) := zd_by (by decide +kernel)
theorem xd_124_23 : decode (wk_M 124).2.2.1 23 = .ok (.iconst 1, 1) := zd_by (by decide +kernel)
theorem xd_124_24 : decode (wk_M 124).2.2.1 24 = .ok (.goto 4, 3) := zd_by (by decide +kernel)
theorem xd_124_27 : decode (wk_M 124).2.2.1 27 = .ok (.iconst 0, 1) := zd_by (by decide +kernel)
theorem xd_124_28 : decode (wk_M 124).2.2.1 28 = .ok (.ireturn, 1) := zd_by (by decide +kernel)
abbrev D_124  (m : dc_M) (v : Int) (m' : dc_M) : Prop := ((((m 1 1) : Int) ≤ (m 1 2) ∧ (v = 1 ∧ m' = m)) ∨ (¬ (((m 1 1) : Int) ≤ (m 1 2)) ∧ (∃ v_41 m_46, D_123 1 ((m 1 5)) m v_41 m_46 ∧ ((((v_41 : Int) = 0 ∧ (v = 0 ∧ m' = m_46)) ∨ (¬ ((v_41 : Int) = 0) ∧ (v = 1 ∧ m' = m_46)))))))
theorem ds_124 (n : Nat)  {h : ae_H} {r : ae_R} (ok : dc_ok h)  (hr : ae_exe n 124 0 0 0 (ae_args [wk_r 1] 0) [] h = some r) : ∃ v, D_124  (dc_m h) v (dc_m r.2) ∧ r.1 = some (wk_i v) ∧ sv_I v ∧ dc_ok r.2 := by
  have q0 : ae_lk (ae_args [wk_r 1] 0) 0 = some (wk_r 1) := rfl
  obtain ⟨n_1, e_2, hr_3⟩ := iv_aload_n xm_124 xd_124_0 q0 hr
  have f_4 := dc_fi (j := 1) ok (rfl : sv_ty 1 = some 9) dt_9 rfl
  obtain ⟨n_5, e_6, hr_7⟩ := iv_getf (j := 1) xm_124 xd_124_1 (by decide +kernel) ok (rfl : sv_ty 1 = some 9) dt_9 f_4.1 hr_3
  obtain ⟨n_8, e_9, hr_10⟩ := iv_aload_n xm_124 xd_124_4 q0 hr_7
  have f_11 := dc_fi (j := 2) ok (rfl : sv_ty 1 = some 9) dt_9 rfl
  obtain ⟨n_12, e_13, hr_14⟩ := iv_getf (j := 2) xm_124 xd_124_5 (by decide +kernel) ok (rfl : sv_ty 1 = some 9) dt_9 f_11.1 hr_10
  rcases iv_icmp 23 xm_124 xd_124_8 (by decide) f_4.2 f_11.2 hr_14 with ⟨c_15, n_16, e_17, hr_18⟩ | ⟨c_15, n_16, e_17, hr_18⟩
  · obtain ⟨n_19, e_20, hr_21⟩ := iv_iconst xm_124 xd_124_23 (by decide) hr_18
    obtain ⟨n_22, e_23, hr_24⟩ := iv_goto 28 xm_124 xd_124_24 (by decide) hr_21
    have rr_25 := iv_ireturn xm_124 xd_124_28 hr_24
    subst rr_25
    exact ⟨_, Or.inl ⟨c_15, ⟨rfl, rfl⟩⟩, rfl, (by unfold sv_I; omega), ok⟩
  · obtain ⟨n_26, e_27, hr_28⟩ := iv_aload_n xm_124 xd_124_11 q0 hr_18
    obtain ⟨n_29, e_30, hr_31⟩ := iv_iconst xm_124 xd_124_12 (by decide) hr_28
    obtain ⟨n_32, e_33, hr_34⟩ := iv_aload_n xm_124 xd_124_13 q0 hr_31
    have f_35 := dc_fi (j := 5) ok (rfl : sv_ty 1 = some 9) dt_9 rfl
    obtain ⟨n_36, e_37, hr_38⟩ := iv_getf (j := 5) xm_124 xd_124_14 (by decide +kernel) ok (rfl : sv_ty 1 = some 9) dt_9 f_35.1 hr_34
    obtain ⟨n_48, r_39, e_49, hc_40, hr_50⟩ := iv_call (Or.inr ⟨rfl, rfl⟩) xm_124 xd_124_17 (by decide +kernel) xm_123 rfl (by decide +kernel) hr_38
    obtain ⟨v_41, d_42, er_43, iv_44, ok_45⟩ := ds_123 _ _ _ ok (by unfold sv_I; omega) f_35.2 hc_40
    obtain ⟨_, h_47⟩ := r_39
    have er_43 : _ = some (wk_i v_41) := er_43
    subst er_43
    have hr_51 : ae_exe n_48 124 (17 + 3) 0 0 (ae_args [wk_r 1] 0) _ h_47 = some r := hr_50
    rcases iv_if 27 xm_124 xd_124_20 (by decide) iv_44 hr_51 with ⟨c_52, n_53, e_54, hr_55⟩ | ⟨c_52, n_53, e_54, hr_55⟩
    · obtain ⟨n_56, e_57, hr_58⟩ := iv_iconst xm_124 xd_124_27 (by decide) hr_55
      have rr_59 := iv_ireturn xm_124 xd_124_28 hr_58
      subst rr_59
      exact ⟨_, Or.inr ⟨c_15, ⟨_, _, d_42, Or.inl ⟨c_52, ⟨rfl, rfl⟩⟩⟩⟩, rfl, (by unfold sv_I; omega), ok_45⟩
    · obtain ⟨n_60, e_61, hr_62⟩ := iv_iconst xm_124 xd_124_23 (by decide) hr_55
      obtain ⟨n_63, e_64, hr_65⟩ := iv_goto 28 xm_124 xd_124_24 (by decide) hr_62
      have rr_66 := iv_ireturn xm_124 xd_124_28 hr_65
      subst rr_66
      exact ⟨_, Or.inr ⟨c_15, ⟨_, _, d_42, Or.inr ⟨c_52, ⟨rfl, rfl⟩⟩⟩⟩, rfl, (by unfold sv_I; omega), ok_45⟩
/-! method 120 -/
theorem xm_120 : ae_m 120 = some (wk_M 120) := rfl
theorem xd_120_0 : decode (wk_M 120).2.2.1 0 = .ok (.aload_n 0, 1) := zd_by (by decide +kernel)
theorem xd_120_1 : decode (wk_M 120).2.2.1 1 = .ok (.aload_n 0, 1) := zd_by (by decide +kernel)
theorem xd_120_2 : decode (wk_M 120).2.2.1 2 = .ok (.getfield 11, 3) := zd_by (by decide +kernel)
theorem xd_120_5 : decode (wk_M 120).2.2.1 5 = .ok (.aload_n 0, 1) := zd_by (by decide +kernel)
theorem xd_120_6 : decode (wk_M 120).2.2.1 6 = .ok (.getfield 28, 3) := zd_by (by decide +kernel)
theorem xd_120_9 : decode (wk_M 120).2.2.1 9 = .ok (.iaload, 1) := zd_by (by decide +kernel)
theorem xd_120_10 : decode (wk_M 120).2.2.1 10 = .ok (.putfield 40, 3) := zd_by (by decide +kernel)
theorem xd_120_13 : decode (wk_M 120).2.2.1 13 = .ok (.aload_n 0, 1) := zd_by (by decide +kernel)
theorem xd_120_14 : decode (wk_M 120).2.2.1 14 = .ok (.dup, 1) := zd_by (by decide +kernel)
theorem xd_120_15 : decode (wk_M 120).2.2.1 15 = .ok (.getfield 28, 3) := zd_by (by decide +kernel)
theorem xd_120_18 : decode (wk_M 120).2.2.1 18 = .ok (.iconst 1, 1) := zd_by (by decide +kernel)
theorem xd_120_19 : decode (wk_M 120).2.2.1 19 = .ok (.iadd, 1) := zd_by (by decide +kernel)
theorem xd_120_20 : decode (wk_M 120).2.2.1 20 = .ok (.putfield 28, 3) := zd_by (by decide +kernel)
theorem xd_120_23 : decode (wk_M 120).2.2.1 23 = .ok (.aload_n 0, 1) := zd_by (by decide +kernel)
theorem xd_120_24 : decode (wk_M 120).2.2.1 24 = .ok (.iconst 1, 1) := zd_by (by decide +kernel)
theorem xd_120_25 : decode (wk_M 120).2.2.1 25 = .ok (.putfield 43, 3) := zd_by (by decide +kernel)
theorem xd_120_28 : decode (wk_M 120).2.2.1 28 = .ok (.aload_n 0, 1) := zd_by (by decide +kernel)
theorem xd_120_29 : decode (wk_M 120).2.2.1 29 = .ok (.aload_n 0, 1) := zd_by (by decide +kernel)
theorem xd_120_30 : decode (wk_M 120).2.2.1 30 = .ok (.getfield 40, 3) := zd_by (by decide +kernel)
theorem xd_120_33 : decode (wk_M 120).2.2.1 33 = .ok (.bipush 45, 2) := zd_by (by decide +kernel)
theorem xd_120_35 : decode (wk_M 120).2.2.1 35 = .ok (.if_icmp .eq 21, 3) := zd_by (by decide +kernel)
theorem xd_120_38 : decode (wk_M 120).2.2.1 38 = .ok (.aload_n 0, 1) := zd_by (by decide +kernel)
theorem xd_120_39 : decode (wk_M 120).2.2.1 39 = .ok (.getfield 40, 3) := zd_by (by decide +kernel)
theorem xd_120_42 : decode (wk_M 120).2.2.1 42 = .ok (.bipush 59, 2) := zd_by (by decide +kernel)
theorem xd_120_44 : decode (wk_M 120).2.2.1 44 = .ok (.if_icmp .eq 12, 3) := zd_by (by decide +kernel)
theorem xd_120_47 : decode (wk_M 120).2.2.1 47 = .ok (.aload_n 0, 1) := zd_by (by decide +kernel)
theorem xd_120_48 : decode (wk_M 120).2.2.1 48 = .ok (.getfield 40, 3) := zd_by (by decide +kernel)
theorem xd_120_51 : decode (wk_M 120).2.2.1 51 = .ok (.bipush 46, 2) := zd_by (by decide +kernel)
theorem xd_120_53 : decode (wk_M 120).2.2.1 53 = .ok (.if_icmp .ne 7, 3) := zd_by (by decide +kernel)
theorem xd_120_56 : decode (wk_M 120).2.2.1 56 = .ok (.iconst 3, 1) := zd_by (by decide +kernel)
theorem xd_120_57 : decode (wk_M 120).2.2.1 57 = .ok (.goto 4, 3) := zd_by (by decide +kernel)
theorem xd_120_60 : decode (wk_M 120).2.2.1 60 = .ok (.iconst 4, 1) := zd_by (by decide +kernel)
theorem xd_120_61 : decode (wk_M 120).2.2.1 61 = .ok (.putfield 46, 3) := zd_by (by decide +kernel)
theorem xd_120_64 : decode (wk_M 120).2.2.1 64 = .ok (.return_, 1) := zd_by (by decide +kernel)
abbrev D_120  (m : dc_M) (v : Int) (m' : dc_M) : Prop := (0 ≤ ((m 1 3) : Int) ∧ ((m 1 3) : Int) < 740) ∧ (∃ m_26, m_26 = dc_up m 1 7 (m 2 (m 1 3)) ∧ (∃ m_49, m_49 = dc_up m_26 1 3 (dc_w ((m_26 1 3) + 1)) ∧ (∃ m_62, m_62 = dc_up m_49 1 6 1 ∧ (((((m_62 1 7) : Int) = 45 ∧ (∃ m_92, m_92 = dc_up m_62 1 4 3 ∧ (v = 0 ∧ m' = m_92))) ∨ (¬ (((m_62 1 7) : Int) = 45) ∧ (((((m_62 1 7) : Int) = 59 ∧ (∃ m_120, m_120 = dc_up m_62 1 4 3 ∧ (v = 0 ∧ m' = m_120))) ∨ (¬ (((m_62 1 7) : Int) = 59) ∧ (((((m_62 1 7) : Int) ≠ 46 ∧ (∃ m_145, m_145 = dc_up m_62 1 4 4 ∧ (v = 0 ∧ m' = m_145))) ∨ (¬ (((m_62 1 7) : Int) ≠ 46) ∧ (∃ m_159, m_159 = dc_up m_62 1 4 3 ∧ (v = 0 ∧ m' = m_159))))))))))))))
theorem ds_120 (n : Nat)  {h : ae_H} {r : ae_R} (ok : dc_ok h)  (hr : ae_exe n 120 0 0 0 (ae_args [wk_r 1] 0) [] h = some r) : ∃ v, D_120  (dc_m h) v (dc_m r.2) ∧ r.1 = none ∧ sv_I v ∧ dc_ok r.2 := by
  have q0 : ae_lk (ae_args [wk_r 1] 0) 0 = some (wk_r 1) := rfl
  obtain ⟨n_1, e_2, hr_3⟩ := iv_aload_n xm_120 xd_120_0 q0 hr
  obtain ⟨n_4, e_5, hr_6⟩ := iv_aload_n xm_120 xd_120_1 q0 hr_3
  have f_7 := dc_fr (j := 0) ok (rfl : sv_ty 1 = some 9) dt_9 rfl
  obtain ⟨n_8, e_9, hr_10⟩ := iv_getf (j := 0) xm_120 xd_120_2 (by decide +kernel) ok (rfl : sv_ty 1 = some 9) dt_9 f_7 hr_6
  obtain ⟨n_11, e_12, hr_13⟩ := iv_aload_n xm_120 xd_120_5 q0 hr_10
  have f_14 := dc_fi (j := 3) ok (rfl : sv_ty 1 = some 9) dt_9 rfl
  obtain ⟨n_15, e_16, hr_17⟩ := iv_getf (j := 3) xm_120 xd_120_6 (by decide +kernel) ok (rfl : sv_ty 1 = some 9) dt_9 f_14.1 hr_13
  obtain ⟨q_18, qi_19, n_20, e_21, hr_22⟩ := iv_iald xm_120 xd_120_9 ok (rfl : sv_ty 2 = some 13) dt_13 (by decide) f_14.2 hr_17
  obtain ⟨h_23, ok_24, em_25, n_27, e_28, hr_29⟩ := iv_puti (j := 7) (fk := 0) xm_120 xd_120_10 (by decide +kernel) ok (rfl : sv_ty 1 = some 9) dt_9 rfl (by decide +kernel) rfl qi_19 hr_22
  obtain ⟨n_30, e_31, hr_32⟩ := iv_aload_n xm_120 xd_120_13 q0 hr_29
  obtain ⟨n_33, e_34, hr_35⟩ := iv_dup xm_120 xd_120_14 rfl hr_32
  have f_36 := dc_fi (j := 3) ok_24 (rfl : sv_ty 1 = some 9) dt_9 rfl
  obtain ⟨n_37, e_38, hr_39⟩ := iv_getf (j := 3) xm_120 xd_120_15 (by decide +kernel) ok_24 (rfl : sv_ty 1 = some 9) dt_9 f_36.1 hr_35
  obtain ⟨n_40, e_41, hr_42⟩ := iv_iconst xm_120 xd_120_18 (by decide) hr_39
  obtain ⟨n_43, e_44, hr_45⟩ := iw_iadd xm_120 xd_120_19 hr_42
  obtain ⟨h_46, ok_47, em_48, n_50, e_51, hr_52⟩ := iv_puti (j := 3) (fk := 0) xm_120 xd_120_20 (by decide +kernel) ok_24 (rfl : sv_ty 1 = some 9) dt_9 rfl (by decide +kernel) rfl (dc_w_I _) hr_45
  obtain ⟨n_53, e_54, hr_55⟩ := iv_aload_n xm_120 xd_120_23 q0 hr_52
  obtain ⟨n_56, e_57, hr_58⟩ := iv_iconst xm_120 xd_120_24 (by decide) hr_55
  obtain ⟨h_59, ok_60, em_61, n_63, e_64, hr_65⟩ := iv_puti (j := 6) (fk := 0) xm_120 xd_120_25 (by decide +kernel) ok_47 (rfl : sv_ty 1 = some 9) dt_9 rfl (by decide +kernel) rfl (by unfold sv_I; omega) hr_58
  obtain ⟨n_66, e_67, hr_68⟩ := iv_aload_n xm_120 xd_120_28 q0 hr_65
  obtain ⟨n_69, e_70, hr_71⟩ := iv_aload_n xm_120 xd_120_29 q0 hr_68
  have f_72 := dc_fi (j := 7) ok_60 (rfl : sv_ty 1 = some 9) dt_9 rfl
  obtain ⟨n_73, e_74, hr_75⟩ := iv_getf (j := 7) xm_120 xd_120_30 (by decide +kernel) ok_60 (rfl : sv_ty 1 = some 9) dt_9 f_72.1 hr_71
  obtain ⟨n_76, e_77, hr_78⟩ := iv_bipush xm_120 xd_120_33 (by decide) hr_75
  rcases iv_icmp 56 xm_120 xd_120_35 (by decide) f_72.2 (by unfold sv_I; omega) hr_78 with ⟨c_79, n_80, e_81, hr_82⟩ | ⟨c_79, n_80, e_81, hr_82⟩
  · obtain ⟨n_83, e_84, hr_85⟩ := iv_iconst xm_120 xd_120_56 (by decide) hr_82
    obtain ⟨n_86, e_87, hr_88⟩ := iv_goto 61 xm_120 xd_120_57 (by decide) hr_85
    obtain ⟨h_89, ok_90, em_91, n_93, e_94, hr_95⟩ := iv_puti (j := 4) (fk := 0) xm_120 xd_120_61 (by decide +kernel) ok_60 (rfl : sv_ty 1 = some 9) dt_9 rfl (by decide +kernel) rfl (by unfold sv_I; omega) hr_88
    have rr_96 := iv_return xm_120 xd_120_64 hr_95 rfl
    subst rr_96
    exact ⟨_, ⟨q_18, ⟨_, em_25, ⟨_, em_48, ⟨_, em_61, Or.inl ⟨c_79, ⟨_, em_91, ⟨rfl, rfl⟩⟩⟩⟩⟩⟩⟩, rfl, (by unfold sv_I; omega), ok_90⟩
  · obtain ⟨n_97, e_98, hr_99⟩ := iv_aload_n xm_120 xd_120_38 q0 hr_82
    have f_100 := dc_fi (j := 7) ok_60 (rfl : sv_ty 1 = some 9) dt_9 rfl
    obtain ⟨n_101, e_102, hr_103⟩ := iv_getf (j := 7) xm_120 xd_120_39 (by decide +kernel) ok_60 (rfl : sv_ty 1 = some 9) dt_9 f_100.1 hr_99
    obtain ⟨n_104, e_105, hr_106⟩ := iv_bipush xm_120 xd_120_42 (by decide) hr_103
    rcases iv_icmp 56 xm_120 xd_120_44 (by decide) f_100.2 (by unfold sv_I; omega) hr_106 with ⟨c_107, n_108, e_109, hr_110⟩ | ⟨c_107, n_108, e_109, hr_110⟩
    · obtain ⟨n_111, e_112, hr_113⟩ := iv_iconst xm_120 xd_120_56 (by decide) hr_110
      obtain ⟨n_114, e_115, hr_116⟩ := iv_goto 61 xm_120 xd_120_57 (by decide) hr_113
      obtain ⟨h_117, ok_118, em_119, n_121, e_122, hr_123⟩ := iv_puti (j := 4) (fk := 0) xm_120 xd_120_61 (by decide +kernel) ok_60 (rfl : sv_ty 1 = some 9) dt_9 rfl (by decide +kernel) rfl (by unfold sv_I; omega) hr_116
      have rr_124 := iv_return xm_120 xd_120_64 hr_123 rfl
      subst rr_124
      exact ⟨_, ⟨q_18, ⟨_, em_25, ⟨_, em_48, ⟨_, em_61, Or.inr ⟨c_79, Or.inl ⟨c_107, ⟨_, em_119, ⟨rfl, rfl⟩⟩⟩⟩⟩⟩⟩⟩, rfl, (by unfold sv_I; omega), ok_118⟩
    · obtain ⟨n_125, e_126, hr_127⟩ := iv_aload_n xm_120 xd_120_47 q0 hr_110
      have f_128 := dc_fi (j := 7) ok_60 (rfl : sv_ty 1 = some 9) dt_9 rfl
      obtain ⟨n_129, e_130, hr_131⟩ := iv_getf (j := 7) xm_120 xd_120_48 (by decide +kernel) ok_60 (rfl : sv_ty 1 = some 9) dt_9 f_128.1 hr_127
      obtain ⟨n_132, e_133, hr_134⟩ := iv_bipush xm_120 xd_120_51 (by decide) hr_131
      rcases iv_icmp 60 xm_120 xd_120_53 (by decide) f_128.2 (by unfold sv_I; omega) hr_134 with ⟨c_135, n_136, e_137, hr_138⟩ | ⟨c_135, n_136, e_137, hr_138⟩
      · obtain ⟨n_139, e_140, hr_141⟩ := iv_iconst xm_120 xd_120_60 (by decide) hr_138
        obtain ⟨h_142, ok_143, em_144, n_146, e_147, hr_148⟩ := iv_puti (j := 4) (fk := 0) xm_120 xd_120_61 (by decide +kernel) ok_60 (rfl : sv_ty 1 = some 9) dt_9 rfl (by decide +kernel) rfl (by unfold sv_I; omega) hr_141
        have rr_149 := iv_return xm_120 xd_120_64 hr_148 rfl
        subst rr_149
        exact ⟨_, ⟨q_18, ⟨_, em_25, ⟨_, em_48, ⟨_, em_61, Or.inr ⟨c_79, Or.inr ⟨c_107, Or.inl ⟨c_135, ⟨_, em_144, ⟨rfl, rfl⟩⟩⟩⟩⟩⟩⟩⟩⟩, rfl, (by unfold sv_I; omega), ok_143⟩
      · obtain ⟨n_150, e_151, hr_152⟩ := iv_iconst xm_120 xd_120_56 (by decide) hr_138
        obtain ⟨n_153, e_154, hr_155⟩ := iv_goto 61 xm_120 xd_120_57 (by decide) hr_152
        obtain ⟨h_156, ok_157, em_158, n_160, e_161, hr_162⟩ := iv_puti (j := 4) (fk := 0) xm_120 xd_120_61 (by decide +kernel) ok_60 (rfl : sv_ty 1 = some 9) dt_9 rfl (by decide +kernel) rfl (by unfold sv_I; omega) hr_155
        have rr_163 := iv_return xm_120 xd_120_64 hr_162 rfl
        subst rr_163
        exact ⟨_, ⟨q_18, ⟨_, em_25, ⟨_, em_48, ⟨_, em_61, Or.inr ⟨c_79, Or.inr ⟨c_107, Or.inr ⟨c_135, ⟨_, em_158, ⟨rfl, rfl⟩⟩⟩⟩⟩⟩⟩⟩⟩, rfl, (by unfold sv_I; omega), ok_157⟩
/-! method 118 -/
theorem xm_118 : ae_m 118 = some (wk_M 118) := rfl
theorem xd_118_0 : decode (wk_M 118).2.2.1 0 = .ok (.aload_n 0, 1) := zd_by (by decide +kernel)
theorem xd_118_1 : decode (wk_M 118).2.2.1 1 = .ok (.getfield 28, 3) := zd_by (by decide +kernel)
theorem xd_118_4 : decode (wk_M 118).2.2.1 4 = .ok (.aload_n 0, 1) := zd_by (by decide +kernel)
theorem xd_118_5 : decode (wk_M 118).2.2.1 5 = .ok (.getfield 15, 3) := zd_by (by decide +kernel)
theorem xd_118_8 : decode (wk_M 118).2.2.1 8 = .ok (.if_icmp .ge 70, 3) := zd_by (by decide +kernel)
theorem xd_118_11 : decode (wk_M 118).2.2.1 11 = .ok (.aload_n 0, 1) := zd_by (by decide +kernel)
theorem xd_118_12 : decode (wk_M 118).2.2.1 12 = .ok (.getfield 11, 3) := zd_by (by decide +kernel)
theorem xd_118_15 : decode (wk_M 118).2.2.1 15 = .ok (.aload_n 0, 1) := zd_by (by decide +kernel)
theorem xd_118_16 : decode (wk_M 118).2.2.1 16 = .ok (.getfield 28, 3) := zd_by (by decide +kernel)
theorem xd_118_19 : decode (wk_M 118).2.2.1 19 = .ok (.iaload, 1) := zd_by (by decide +kernel)
theorem xd_118_20 : decode (wk_M 118).2.2.1 20 = .ok (.bipush 97, 2) := zd_by (by decide +kernel)
theorem xd_118_22 : decode (wk_M 118).2.2.1 22 = .ok (.if_icmp .lt 56, 3) := zd_by (by decide +kernel)
theorem xd_118_25 : decode (wk_M 118).2.2.1 25 = .ok (.aload_n 0, 1) := zd_by (by decide +kernel)
theorem xd_118_26 : decode (wk_M 118).2.2.1 26 = .ok (.getfield 11, 3) := zd_by (by decide +kernel)
theorem xd_118_29 : decode (wk_M 118).2.2.1 29 = .ok (.aload_n 0, 1) := zd_by (by decide +kernel)
theorem xd_118_30 : decode (wk_M 118).2.2.1 30 = .ok (.getfield 28, 3) := zd_by (by decide +kernel)
theorem xd_118_33 : decode (wk_M 118).2.2.1 33 = .ok (.iaload, 1) := zd_by (by decide +kernel)
theorem xd_118_34 : decode (wk_M 118).2.2.1 34 = .ok (.bipush 122, 2) := zd_by (by decide +kernel)
theorem xd_118_36 : decode (wk_M 118).2.2.1 36 = .ok (.if_icmp .gt 42, 3) := zd_by (by decide +kernel)
theorem xd_118_39 : decode (wk_M 118).2.2.1 39 = .ok (.aload_n 0, 1) := zd_by (by decide +kernel)
theorem xd_118_40 : decode (wk_M 118).2.2.1 40 = .ok (.aload_n 0, 1) := zd_by (by decide +kernel)
theorem xd_118_41 : decode (wk_M 118).2.2.1 41 = .ok (.getfield 40, 3) := zd_by (by decide +kernel)
theorem xd_118_44 : decode (wk_M 118).2.2.1 44 = .ok (.bipush 32, 2) := zd_by (by decide +kernel)
theorem xd_118_46 : decode (wk_M 118).2.2.1 46 = .ok (.imul, 1) := zd_by (by decide +kernel)
theorem xd_118_47 : decode (wk_M 118).2.2.1 47 = .ok (.aload_n 0, 1) := zd_by (by decide +kernel)
theorem xd_118_48 : decode (wk_M 118).2.2.1 48 = .ok (.getfield 11, 3) := zd_by (by decide +kernel)
theorem xd_118_51 : decode (wk_M 118).2.2.1 51 = .ok (.aload_n 0, 1) := zd_by (by decide +kernel)
theorem xd_118_52 : decode (wk_M 118).2.2.1 52 = .ok (.getfield 28, 3) := zd_by (by decide +kernel)
theorem xd_118_55 : decode (wk_M 118).2.2.1 55 = .ok (.iaload, 1) := zd_by (by decide +kernel)
theorem xd_118_56 : decode (wk_M 118).2.2.1 56 = .ok (.iadd, 1) := zd_by (by decide +kernel)
theorem xd_118_57 : decode (wk_M 118).2.2.1 57 = .ok (.bipush 97, 2) := zd_by (by decide +kernel)
theorem xd_118_59 : decode (wk_M 118).2.2.1 59 = .ok (.isub, 1) := zd_by (by decide +kernel)
theorem xd_118_60 : decode (wk_M 118).2.2.1 60 = .ok (.iconst 1, 1) := zd_by (by decide +kernel)
theorem xd_118_61 : decode (wk_M 118).2.2.1 61 = .ok (.iadd, 1) := zd_by (by decide +kernel)
theorem xd_118_62 : decode (wk_M 118).2.2.1 62 = .ok (.putfield 40, 3) := zd_by (by decide +kernel)
theorem xd_118_65 : decode (wk_M 118).2.2.1 65 = .ok (.aload_n 0, 1) := zd_by (by decide +kernel)
theorem xd_118_66 : decode (wk_M 118).2.2.1 66 = .ok (.dup, 1) := zd_by (by decide +kernel)
theorem xd_118_67 : decode (wk_M 118).2.2.1 67 = .ok (.getfield 28, 3) := zd_by (by decide +kernel)
theorem xd_118_70 : decode (wk_M 118).2.2.1 70 = .ok (.iconst 1, 1) := zd_by (by decide +kernel)
theorem xd_118_71 : decode (wk_M 118).2.2.1 71 = .ok (.iadd, 1) := zd_by (by decide +kernel)
theorem xd_118_72 : decode (wk_M 118).2.2.1 72 = .ok (.putfield 28, 3) := zd_by (by decide +kernel)
theorem xd_118_75 : decode (wk_M 118).2.2.1 75 = .ok (.goto (-75), 3) := zd_by (by decide +kernel)
theorem xd_118_78 : decode (wk_M 118).2.2.1 78 = .ok (.aload_n 0, 1) := zd_by (by decide +kernel)
theorem xd_118_79 : decode (wk_M 118).2.2.1 79 = .ok (.aload_n 0, 1) := zd_by (by decide +kernel)
theorem xd_118_80 : decode (wk_M 118).2.2.1 80 = .ok (.getfield 28, 3) := zd_by (by decide +kernel)
theorem xd_118_83 : decode (wk_M 118).2.2.1 83 = .ok (.aload_n 0, 1) := zd_by (by decide +kernel)
theorem xd_118_84 : decode (wk_M 118).2.2.1 84 = .ok (.getfield 55, 3) := zd_by (by decide +kernel)
theorem xd_118_87 : decode (wk_M 118).2.2.1 87 = .ok (.isub, 1) := zd_by (by decide +kernel)
theorem xd_118_88 : decode (wk_M 118).2.2.1 88 = .ok (.putfield 43, 3) := zd_by (by decide +kernel)
theorem xd_118_91 : decode (wk_M 118).2.2.1 91 = .ok (.aload_n 0, 1) := zd_by (by decide +kernel)
theorem xd_118_92 : decode (wk_M 118).2.2.1 92 = .ok (.aload_n 0, 1) := zd_by (by decide +kernel)
theorem xd_118_93 : decode (wk_M 118).2.2.1 93 = .ok (.getfield 43, 3) := zd_by (by decide +kernel)
theorem xd_118_96 : decode (wk_M 118).2.2.1 96 = .ok (.iconst 5, 1) := zd_by (by decide +kernel)
theorem xd_118_97 : decode (wk_M 118).2.2.1 97 = .ok (.if_icmp .gt 7, 3) := zd_by (by decide +kernel)
theorem xd_118_100 : decode (wk_M 118).2.2.1 100 = .ok (.iconst 1, 1) := zd_by (by decide +kernel)
theorem xd_118_101 : decode (wk_M 118).2.2.1 101 = .ok (.goto 4, 3) := zd_by (by decide +kernel)
theorem xd_118_104 : decode (wk_M 118).2.2.1 104 = .ok (.iconst 4, 1) := zd_by (by decide +kernel)
theorem xd_118_105 : decode (wk_M 118).2.2.1 105 = .ok (.putfield 46, 3) := zd_by (by decide +kernel)
theorem xd_118_108 : decode (wk_M 118).2.2.1 108 = .ok (.return_, 1) := zd_by (by decide +kernel)
def LM_118  : Nat → Nat → dc_M → Int → dc_M → Prop
  | 0, _, _, _, _ => False
  | c + 1, tag, m, v, m' => match tag with
    | _ => ((((m 1 3) : Int) ≥ (m 1 1) ∧ (∃ m_42, m_42 = dc_up m 1 6 (dc_w ((m 1 3) - (m 1 5))) ∧ (((((m_42 1 6) : Int) > 5 ∧ (∃ m_69, m_69 = dc_up m_42 1 4 4 ∧ (v = 0 ∧ m' = m_69))) ∨ (¬ (((m_42 1 6) : Int) > 5) ∧ (∃ m_83, m_83 = dc_up m_42 1 4 1 ∧ (v = 0 ∧ m' = m_83))))))) ∨ (¬ (((m 1 3) : Int) ≥ (m 1 1)) ∧ ((0 ≤ ((m 1 3) : Int) ∧ ((m 1 3) : Int) < 740) ∧ (((((m 2 (m 1 3)) : Int) < 97 ∧ (∃ m_137, m_137 = dc_up m 1 6 (dc_w ((m 1 3) - (m 1 5))) ∧ (((((m_137 1 6) : Int) > 5 ∧ (∃ m_164, m_164 = dc_up m_137 1 4 4 ∧ (v = 0 ∧ m' = m_164))) ∨ (¬ (((m_137 1 6) : Int) > 5) ∧ (∃ m_178, m_178 = dc_up m_137 1 4 1 ∧ (v = 0 ∧ m' = m_178))))))) ∨ (¬ (((m 2 (m 1 3)) : Int) < 97) ∧ ((0 ≤ ((m 1 3) : Int) ∧ ((m 1 3) : Int) < 740) ∧ (((((m 2 (m 1 3)) : Int) > 122 ∧ (∃ m_232, m_232 = dc_up m 1 6 (dc_w ((m 1 3) - (m 1 5))) ∧ (((((m_232 1 6) : Int) > 5 ∧ (∃ m_259, m_259 = dc_up m_232 1 4 4 ∧ (v = 0 ∧ m' = m_259))) ∨ (¬ (((m_232 1 6) : Int) > 5) ∧ (∃ m_273, m_273 = dc_up m_232 1 4 1 ∧ (v = 0 ∧ m' = m_273))))))) ∨ (¬ (((m 2 (m 1 3)) : Int) > 122) ∧ ((0 ≤ ((m 1 3) : Int) ∧ ((m 1 3) : Int) < 740) ∧ (∃ m_331, m_331 = dc_up m 1 7 (dc_w ((dc_w ((dc_w ((dc_w ((m 1 7) * 32)) + (m 2 (m 1 3)))) - 97)) + 1)) ∧ (∃ m_354, m_354 = dc_up m_331 1 3 (dc_w ((m_331 1 3) + 1)) ∧ (LM_118  c 0 m_354 v m'))))))))))))))
theorem lm_118_0  {c : Nat} {m : dc_M} {v : Int} {m' : dc_M} : LM_118  (c + 1) 0 m v m' ↔ ((((m 1 3) : Int) ≥ (m 1 1) ∧ (∃ m_42, m_42 = dc_up m 1 6 (dc_w ((m 1 3) - (m 1 5))) ∧ (((((m_42 1 6) : Int) > 5 ∧ (∃ m_69, m_69 = dc_up m_42 1 4 4 ∧ (v = 0 ∧ m' = m_69))) ∨ (¬ (((m_42 1 6) : Int) > 5) ∧ (∃ m_83, m_83 = dc_up m_42 1 4 1 ∧ (v = 0 ∧ m' = m_83))))))) ∨ (¬ (((m 1 3) : Int) ≥ (m 1 1)) ∧ ((0 ≤ ((m 1 3) : Int) ∧ ((m 1 3) : Int) < 740) ∧ (((((m 2 (m 1 3)) : Int) < 97 ∧ (∃ m_137, m_137 = dc_up m 1 6 (dc_w ((m 1 3) - (m 1 5))) ∧ (((((m_137 1 6) : Int) > 5 ∧ (∃ m_164, m_164 = dc_up m_137 1 4 4 ∧ (v = 0 ∧ m' = m_164))) ∨ (¬ (((m_137 1 6) : Int) > 5) ∧ (∃ m_178, m_178 = dc_up m_137 1 4 1 ∧ (v = 0 ∧ m' = m_178))))))) ∨ (¬ (((m 2 (m 1 3)) : Int) < 97) ∧ ((0 ≤ ((m 1 3) : Int) ∧ ((m 1 3) : Int) < 740) ∧ (((((m 2 (m 1 3)) : Int) > 122 ∧ (∃ m_232, m_232 = dc_up m 1 6 (dc_w ((m 1 3) - (m 1 5))) ∧ (((((m_232 1 6) : Int) > 5 ∧ (∃ m_259, m_259 = dc_up m_232 1 4 4 ∧ (v = 0 ∧ m' = m_259))) ∨ (¬ (((m_232 1 6) : Int) > 5) ∧ (∃ m_273, m_273 = dc_up m_232 1 4 1 ∧ (v = 0 ∧ m' = m_273))))))) ∨ (¬ (((m 2 (m 1 3)) : Int) > 122) ∧ ((0 ≤ ((m 1 3) : Int) ∧ ((m 1 3) : Int) < 740) ∧ (∃ m_331, m_331 = dc_up m 1 7 (dc_w ((dc_w ((dc_w ((dc_w ((m 1 7) * 32)) + (m 2 (m 1 3)))) - 97)) + 1)) ∧ (∃ m_354, m_354 = dc_up m_331 1 3 (dc_w ((m_331 1 3) + 1)) ∧ (LM_118  c 0 m_354 v m')))))))))))))) := Iff.rfl
theorem dl_118   : ∀ N : Nat, (∀ (n : Nat) (lv : ae_L) (h : ae_H) (r : ae_R), n ≤ N → dc_ok h → ae_lk lv 0 = some (wk_r 1) → ae_exe n 118 0 0 0 lv [] h = some r → ∃ v, (∃ c, LM_118  c 0 (dc_m h) v (dc_m r.2)) ∧ r.1 = none ∧ sv_I v ∧ dc_ok r.2) := by
  intro N
  induction N with
  | zero =>
    exact fun n lv h r hn ok q0 hr => by
      have e : n = 0 := by omega
      subst e
      cases hr
  | succ N ih =>
    have ih0 := ih
    intro n lv h r hn ok q0 hr
    obtain ⟨n_1, e_2, hr_3⟩ := iv_aload_n xm_118 xd_118_0 q0 hr
    have f_4 := dc_fi (j := 3) ok (rfl : sv_ty 1 = some 9) dt_9 rfl
    obtain ⟨n_5, e_6, hr_7⟩ := iv_getf (j := 3) xm_118 xd_118_1 (by decide +kernel) ok (rfl : sv_ty 1 = some 9) dt_9 f_4.1 hr_3
    obtain ⟨n_8, e_9, hr_10⟩ := iv_aload_n xm_118 xd_118_4 q0 hr_7
    have f_11 := dc_fi (j := 1) ok (rfl : sv_ty 1 = some 9) dt_9 rfl
    obtain ⟨n_12, e_13, hr_14⟩ := iv_getf (j := 1) xm_118 xd_118_5 (by decide +kernel) ok (rfl : sv_ty 1 = some 9) dt_9 f_11.1 hr_10
    rcases iv_icmp 78 xm_118 xd_118_8 (by decide) f_4.2 f_11.2 hr_14 with ⟨c_15, n_16, e_17, hr_18⟩ | ⟨c_15, n_16, e_17, hr_18⟩
    · obtain ⟨n_19, e_20, hr_21⟩ := iv_aload_n xm_118 xd_118_78 q0 hr_18
      obtain ⟨n_22, e_23, hr_24⟩ := iv_aload_n xm_118 xd_118_79 q0 hr_21
      have f_25 := dc_fi (j := 3) ok (rfl : sv_ty 1 = some 9) dt_9 rfl
      obtain ⟨n_26, e_27, hr_28⟩ := iv_getf (j := 3) xm_118 xd_118_80 (by decide +kernel) ok (rfl : sv_ty 1 = some 9) dt_9 f_25.1 hr_24
      obtain ⟨n_29, e_30, hr_31⟩ := iv_aload_n xm_118 xd_118_83 q0 hr_28
      have f_32 := dc_fi (j := 5) ok (rfl : sv_ty 1 = some 9) dt_9 rfl
      obtain ⟨n_33, e_34, hr_35⟩ := iv_getf (j := 5) xm_118 xd_118_84 (by decide +kernel) ok (rfl : sv_ty 1 = some 9) dt_9 f_32.1 hr_31
      obtain ⟨n_36, e_37, hr_38⟩ := iw_isub xm_118 xd_118_87 hr_35
      obtain ⟨h_39, ok_40, em_41, n_43, e_44, hr_45⟩ := iv_puti (j := 6) (fk := 0) xm_118 xd_118_88 (by decide +kernel) ok (rfl : sv_ty 1 = some 9) dt_9 rfl (by decide +kernel) rfl (dc_w_I _) hr_38
      obtain ⟨n_46, e_47, hr_48⟩ := iv_aload_n xm_118 xd_118_91 q0 hr_45
      obtain ⟨n_49, e_50, hr_51⟩ := iv_aload_n xm_118 xd_118_92 q0 hr_48
      have f_52 := dc_fi (j := 6) ok_40 (rfl : sv_ty 1 = some 9) dt_9 rfl
      obtain ⟨n_53, e_54, hr_55⟩ := iv_getf (j := 6) xm_118 xd_118_93 (by decide +kernel) ok_40 (rfl : sv_ty 1 = some 9) dt_9 f_52.1 hr_51
      obtain ⟨n_56, e_57, hr_58⟩ := iv_iconst xm_118 xd_118_96 (by decide) hr_55
      rcases iv_icmp 104 xm_118 xd_118_97 (by decide) f_52.2 (by unfold sv_I; omega) hr_58 with ⟨c_59, n_60, e_61, hr_62⟩ | ⟨c_59, n_60, e_61, hr_62⟩
      · obtain ⟨n_63, e_64, hr_65⟩ := iv_iconst xm_118 xd_118_104 (by decide) hr_62
        obtain ⟨h_66, ok_67, em_68, n_70, e_71, hr_72⟩ := iv_puti (j := 4) (fk := 0) xm_118 xd_118_105 (by decide +kernel) ok_40 (rfl : sv_ty 1 = some 9) dt_9 rfl (by decide +kernel) rfl (by unfold sv_I; omega) hr_65
        have rr_73 := iv_return xm_118 xd_118_108 hr_72 rfl
        subst rr_73
        exact ⟨_, ⟨0 + 1, lm_118_0.mpr (Or.inl ⟨c_15, ⟨_, em_41, Or.inl ⟨c_59, ⟨_, em_68, ⟨rfl, rfl⟩⟩⟩⟩⟩)⟩, rfl, (by unfold sv_I; omega), ok_67⟩
      · obtain ⟨n_74, e_75, hr_76⟩ := iv_iconst xm_118 xd_118_100 (by decide) hr_62
        obtain ⟨n_77, e_78, hr_79⟩ := iv_goto 105 xm_118 xd_118_101 (by decide) hr_76
        obtain ⟨h_80, ok_81, em_82, n_84, e_85, hr_86⟩ := iv_puti (j := 4) (fk := 0) xm_118 xd_118_105 (by decide +kernel) ok_40 (rfl : sv_ty 1 = some 9) dt_9 rfl (by decide +kernel) rfl (by unfold sv_I; omega) hr_79
        have rr_87 := iv_return xm_118 xd_118_108 hr_86 rfl
        subst rr_87
        exact ⟨_, ⟨0 + 1, lm_118_0.mpr (Or.inl ⟨c_15, ⟨_, em_41, Or.inr ⟨c_59, ⟨_, em_82, ⟨rfl, rfl⟩⟩⟩⟩⟩)⟩, rfl, (by unfold sv_I; omega), ok_81⟩
    · obtain ⟨n_88, e_89, hr_90⟩ := iv_aload_n xm_118 xd_118_11 q0 hr_18
      have f_91 := dc_fr (j := 0) ok (rfl : sv_ty 1 = some 9) dt_9 rfl
      obtain ⟨n_92, e_93, hr_94⟩ := iv_getf (j := 0) xm_118 xd_118_12 (by decide +kernel) ok (rfl : sv_ty 1 = some 9) dt_9 f_91 hr_90
      obtain ⟨n_95, e_96, hr_97⟩ := iv_aload_n xm_118 xd_118_15 q0 hr_94
      have f_98 := dc_fi (j := 3) ok (rfl : sv_ty 1 = some 9) dt_9 rfl
      obtain ⟨n_99, e_100, hr_101⟩ := iv_getf (j := 3) xm_118 xd_118_16 (by decide +kernel) ok (rfl : sv_ty 1 = some 9) dt_9 f_98.1 hr_97
      obtain ⟨q_102, qi_103, n_104, e_105, hr_106⟩ := iv_iald xm_118 xd_118_19 ok (rfl : sv_ty 2 = some 13) dt_13 (by decide) f_98.2 hr_101
      obtain ⟨n_107, e_108, hr_109⟩ := iv_bipush xm_118 xd_118_20 (by decide) hr_106
      rcases iv_icmp 78 xm_118 xd_118_22 (by decide) qi_103 (by unfold sv_I; omega) hr_109 with ⟨c_110, n_111, e_112, hr_113⟩ | ⟨c_110, n_111, e_112, hr_113⟩
      · obtain ⟨n_114, e_115, hr_116⟩ := iv_aload_n xm_118 xd_118_78 q0 hr_113
        obtain ⟨n_117, e_118, hr_119⟩ := iv_aload_n xm_118 xd_118_79 q0 hr_116
        have f_120 := dc_fi (j := 3) ok (rfl : sv_ty 1 = some 9) dt_9 rfl
        obtain ⟨n_121, e_122, hr_123⟩ := iv_getf (j := 3) xm_118 xd_118_80 (by decide +kernel) ok (rfl : sv_ty 1 = some 9) dt_9 f_120.1 hr_119
        obtain ⟨n_124, e_125, hr_126⟩ := iv_aload_n xm_118 xd_118_83 q0 hr_123
        have f_127 := dc_fi (j := 5) ok (rfl : sv_ty 1 = some 9) dt_9 rfl
        obtain ⟨n_128, e_129, hr_130⟩ := iv_getf (j := 5) xm_118 xd_118_84 (by decide +kernel) ok (rfl : sv_ty 1 = some 9) dt_9 f_127.1 hr_126
        obtain ⟨n_131, e_132, hr_133⟩ := iw_isub xm_118 xd_118_87 hr_130
        obtain ⟨h_134, ok_135, em_136, n_138, e_139, hr_140⟩ := iv_puti (j := 6) (fk := 0) xm_118 xd_118_88 (by decide +kernel) ok (rfl : sv_ty 1 = some 9) dt_9 rfl (by decide +kernel) rfl (dc_w_I _) hr_133
        obtain ⟨n_141, e_142, hr_143⟩ := iv_aload_n xm_118 xd_118_91 q0 hr_140
        obtain ⟨n_144, e_145, hr_146⟩ := iv_aload_n xm_118 xd_118_92 q0 hr_143
        have f_147 := dc_fi (j := 6) ok_135 (rfl : sv_ty 1 = some 9) dt_9 rfl
        obtain ⟨n_148, e_149, hr_150⟩ := iv_getf (j := 6) xm_118 xd_118_93 (by decide +kernel) ok_135 (rfl : sv_ty 1 = some 9) dt_9 f_147.1 hr_146
        obtain ⟨n_151, e_152, hr_153⟩ := iv_iconst xm_118 xd_118_96 (by decide) hr_150
        rcases iv_icmp 104 xm_118 xd_118_97 (by decide) f_147.2 (by unfold sv_I; omega) hr_153 with ⟨c_154, n_155, e_156, hr_157⟩ | ⟨c_154, n_155, e_156, hr_157⟩
        · obtain ⟨n_158, e_159, hr_160⟩ := iv_iconst xm_118 xd_118_104 (by decide) hr_157
          obtain ⟨h_161, ok_162, em_163, n_165, e_166, hr_167⟩ := iv_puti (j := 4) (fk := 0) xm_118 xd_118_105 (by decide +kernel) ok_135 (rfl : sv_ty 1 = some 9) dt_9 rfl (by decide +kernel) rfl (by unfold sv_I; omega) hr_160
          have rr_168 := iv_return xm_118 xd_118_108 hr_167 rfl
          subst rr_168
          exact ⟨_, ⟨0 + 1, lm_118_0.mpr (Or.inr ⟨c_15, ⟨q_102, Or.inl ⟨c_110, ⟨_, em_136, Or.inl ⟨c_154, ⟨_, em_163, ⟨rfl, rfl⟩⟩⟩⟩⟩⟩⟩)⟩, rfl, (by unfold sv_I; omega), ok_162⟩
        · obtain ⟨n_169, e_170, hr_171⟩ := iv_iconst xm_118 xd_118_100 (by decide) hr_157
          obtain ⟨n_172, e_173, hr_174⟩ := iv_goto 105 xm_118 xd_118_101 (by decide) hr_171
          obtain ⟨h_175, ok_176, em_177, n_179, e_180, hr_181⟩ := iv_puti (j := 4) (fk := 0) xm_118 xd_118_105 (by decide +kernel) ok_135 (rfl : sv_ty 1 = some 9) dt_9 rfl (by decide +kernel) rfl (by unfold sv_I; omega) hr_174
          have rr_182 := iv_return xm_118 xd_118_108 hr_181 rfl
          subst rr_182
          exact ⟨_, ⟨0 + 1, lm_118_0.mpr (Or.inr ⟨c_15, ⟨q_102, Or.inl ⟨c_110, ⟨_, em_136, Or.inr ⟨c_154, ⟨_, em_177, ⟨rfl, rfl⟩⟩⟩⟩⟩⟩⟩)⟩, rfl, (by unfold sv_I; omega), ok_176⟩
      · obtain ⟨n_183, e_184, hr_185⟩ := iv_aload_n xm_118 xd_118_25 q0 hr_113
        have f_186 := dc_fr (j := 0) ok (rfl : sv_ty 1 = some 9) dt_9 rfl
        obtain ⟨n_187, e_188, hr_189⟩ := iv_getf (j := 0) xm_118 xd_118_26 (by decide +kernel) ok (rfl : sv_ty 1 = some 9) dt_9 f_186 hr_185
        obtain ⟨n_190, e_191, hr_192⟩ := iv_aload_n xm_118 xd_118_29 q0 hr_189
        have f_193 := dc_fi (j := 3) ok (rfl : sv_ty 1 = some 9) dt_9 rfl
        obtain ⟨n_194, e_195, hr_196⟩ := iv_getf (j := 3) xm_118 xd_118_30 (by decide +kernel) ok (rfl : sv_ty 1 = some 9) dt_9 f_193.1 hr_192
        obtain ⟨q_197, qi_198, n_199, e_200, hr_201⟩ := iv_iald xm_118 xd_118_33 ok (rfl : sv_ty 2 = some 13) dt_13 (by decide) f_193.2 hr_196
        obtain ⟨n_202, e_203, hr_204⟩ := iv_bipush xm_118 xd_118_34 (by decide) hr_201
        rcases iv_icmp 78 xm_118 xd_118_36 (by decide) qi_198 (by unfold sv_I; omega) hr_204 with ⟨c_205, n_206, e_207, hr_208⟩ | ⟨c_205, n_206, e_207, hr_208⟩
        · obtain ⟨n_209, e_210, hr_211⟩ := iv_aload_n xm_118 xd_118_78 q0 hr_208
          obtain ⟨n_212, e_213, hr_214⟩ := iv_aload_n xm_118 xd_118_79 q0 hr_211
          have f_215 := dc_fi (j := 3) ok (rfl : sv_ty 1 = some 9) dt_9 rfl
          obtain ⟨n_216, e_217, hr_218⟩ := iv_getf (j := 3) xm_118 xd_118_80 (by decide +kernel) ok (rfl : sv_ty 1 = some 9) dt_9 f_215.1 hr_214
          obtain ⟨n_219, e_220, hr_221⟩ := iv_aload_n xm_118 xd_118_83 q0 hr_218
          have f_222 := dc_fi (j := 5) ok (rfl : sv_ty 1 = some 9) dt_9 rfl
          obtain ⟨n_223, e_224, hr_225⟩ := iv_getf (j := 5) xm_118 xd_118_84 (by decide +kernel) ok (rfl : sv_ty 1 = some 9) dt_9 f_222.1 hr_221
          obtain ⟨n_226, e_227, hr_228⟩ := iw_isub xm_118 xd_118_87 hr_225
          obtain ⟨h_229, ok_230, em_231, n_233, e_234, hr_235⟩ := iv_puti (j := 6) (fk := 0) xm_118 xd_118_88 (by decide +kernel) ok (rfl : sv_ty 1 = some 9) dt_9 rfl (by decide +kernel) rfl (dc_w_I _) hr_228
          obtain ⟨n_236, e_237, hr_238⟩ := iv_aload_n xm_118 xd_118_91 q0 hr_235
          obtain ⟨n_239, e_240, hr_241⟩ := iv_aload_n xm_118 xd_118_92 q0 hr_238
          have f_242 := dc_fi (j := 6) ok_230 (rfl : sv_ty 1 = some 9) dt_9 rfl
          obtain ⟨n_243, e_244, hr_245⟩ := iv_getf (j := 6) xm_118 xd_118_93 (by decide +kernel) ok_230 (rfl : sv_ty 1 = some 9) dt_9 f_242.1 hr_241
          obtain ⟨n_246, e_247, hr_248⟩ := iv_iconst xm_118 xd_118_96 (by decide) hr_245
          rcases iv_icmp 104 xm_118 xd_118_97 (by decide) f_242.2 (by unfold sv_I; omega) hr_248 with ⟨c_249, n_250, e_251, hr_252⟩ | ⟨c_249, n_250, e_251, hr_252⟩
          · obtain ⟨n_253, e_254, hr_255⟩ := iv_iconst xm_118 xd_118_104 (by decide) hr_252
            obtain ⟨h_256, ok_257, em_258, n_260, e_261, hr_262⟩ := iv_puti (j := 4) (fk := 0) xm_118 xd_118_105 (by decide +kernel) ok_230 (rfl : sv_ty 1 = some 9) dt_9 rfl (by decide +kernel) rfl (by unfold sv_I; omega) hr_255
            have rr_263 := iv_return xm_118 xd_118_108 hr_262 rfl
            subst rr_263
            exact ⟨_, ⟨0 + 1, lm_118_0.mpr (Or.inr ⟨c_15, ⟨q_102, Or.inr ⟨c_110, ⟨q_197, Or.inl ⟨c_205, ⟨_, em_231, Or.inl ⟨c_249, ⟨_, em_258, ⟨rfl, rfl⟩⟩⟩⟩⟩⟩⟩⟩⟩)⟩, rfl, (by unfold sv_I; omega), ok_257⟩
          · obtain ⟨n_264, e_265, hr_266⟩ := iv_iconst xm_118 xd_118_100 (by decide) hr_252
            obtain ⟨n_267, e_268, hr_269⟩ := iv_goto 105 xm_118 xd_118_101 (by decide) hr_266
            obtain ⟨h_270, ok_271, em_272, n_274, e_275, hr_276⟩ := iv_puti (j := 4) (fk := 0) xm_118 xd_118_105 (by decide +kernel) ok_230 (rfl : sv_ty 1 = some 9) dt_9 rfl (by decide +kernel) rfl (by unfold sv_I; omega) hr_269
            have rr_277 := iv_return xm_118 xd_118_108 hr_276 rfl
            subst rr_277
            exact ⟨_, ⟨0 + 1, lm_118_0.mpr (Or.inr ⟨c_15, ⟨q_102, Or.inr ⟨c_110, ⟨q_197, Or.inl ⟨c_205, ⟨_, em_231, Or.inr ⟨c_249, ⟨_, em_272, ⟨rfl, rfl⟩⟩⟩⟩⟩⟩⟩⟩⟩)⟩, rfl, (by unfold sv_I; omega), ok_271⟩
        · obtain ⟨n_278, e_279, hr_280⟩ := iv_aload_n xm_118 xd_118_39 q0 hr_208
          obtain ⟨n_281, e_282, hr_283⟩ := iv_aload_n xm_118 xd_118_40 q0 hr_280
          have f_284 := dc_fi (j := 7) ok (rfl : sv_ty 1 = some 9) dt_9 rfl
          obtain ⟨n_285, e_286, hr_287⟩ := iv_getf (j := 7) xm_118 xd_118_41 (by decide +kernel) ok (rfl : sv_ty 1 = some 9) dt_9 f_284.1 hr_283
          obtain ⟨n_288, e_289, hr_290⟩ := iv_bipush xm_118 xd_118_44 (by decide) hr_287
          obtain ⟨n_291, e_292, hr_293⟩ := iw_imul xm_118 xd_118_46 hr_290
          obtain ⟨n_294, e_295, hr_296⟩ := iv_aload_n xm_118 xd_118_47 q0 hr_293
          have f_297 := dc_fr (j := 0) ok (rfl : sv_ty 1 = some 9) dt_9 rfl
          obtain ⟨n_298, e_299, hr_300⟩ := iv_getf (j := 0) xm_118 xd_118_48 (by decide +kernel) ok (rfl : sv_ty 1 = some 9) dt_9 f_297 hr_296
          obtain ⟨n_301, e_302, hr_303⟩ := iv_aload_n xm_118 xd_118_51 q0 hr_300
          have f_304 := dc_fi (j := 3) ok (rfl : sv_ty 1 = some 9) dt_9 rfl
          obtain ⟨n_305, e_306, hr_307⟩ := iv_getf (j := 3) xm_118 xd_118_52 (by decide +kernel) ok (rfl : sv_ty 1 = some 9) dt_9 f_304.1 hr_303
          obtain ⟨q_308, qi_309, n_310, e_311, hr_312⟩ := iv_iald xm_118 xd_118_55 ok (rfl : sv_ty 2 = some 13) dt_13 (by decide) f_304.2 hr_307
          obtain ⟨n_313, e_314, hr_315⟩ := iw_iadd xm_118 xd_118_56 hr_312
          obtain ⟨n_316, e_317, hr_318⟩ := iv_bipush xm_118 xd_118_57 (by decide) hr_315
          obtain ⟨n_319, e_320, hr_321⟩ := iw_isub xm_118 xd_118_59 hr_318
          obtain ⟨n_322, e_323, hr_324⟩ := iv_iconst xm_118 xd_118_60 (by decide) hr_321
          obtain ⟨n_325, e_326, hr_327⟩ := iw_iadd xm_118 xd_118_61 hr_324
          obtain ⟨h_328, ok_329, em_330, n_332, e_333, hr_334⟩ := iv_puti (j := 7) (fk := 0) xm_118 xd_118_62 (by decide +kernel) ok (rfl : sv_ty 1 = some 9) dt_9 rfl (by decide +kernel) rfl (dc_w_I _) hr_327
          obtain ⟨n_335, e_336, hr_337⟩ := iv_aload_n xm_118 xd_118_65 q0 hr_334
          obtain ⟨n_338, e_339, hr_340⟩ := iv_dup xm_118 xd_118_66 rfl hr_337
          have f_341 := dc_fi (j := 3) ok_329 (rfl : sv_ty 1 = some 9) dt_9 rfl
          obtain ⟨n_342, e_343, hr_344⟩ := iv_getf (j := 3) xm_118 xd_118_67 (by decide +kernel) ok_329 (rfl : sv_ty 1 = some 9) dt_9 f_341.1 hr_340
          obtain ⟨n_345, e_346, hr_347⟩ := iv_iconst xm_118 xd_118_70 (by decide) hr_344
          obtain ⟨n_348, e_349, hr_350⟩ := iw_iadd xm_118 xd_118_71 hr_347
          obtain ⟨h_351, ok_352, em_353, n_355, e_356, hr_357⟩ := iv_puti (j := 3) (fk := 0) xm_118 xd_118_72 (by decide +kernel) ok_329 (rfl : sv_ty 1 = some 9) dt_9 rfl (by decide +kernel) rfl (dc_w_I _) hr_350
          obtain ⟨n_358, e_359, hr_360⟩ := iv_goto 0 xm_118 xd_118_75 (by decide) hr_357
          obtain ⟨v, ⟨c, hL⟩, e1, e2, e3⟩ := ih0 _ lv h_351 _  (by omega) ok_352  q0 hr_360
          exact ⟨v, ⟨c + 1, lm_118_0.mpr (Or.inr ⟨c_15, ⟨q_102, Or.inr ⟨c_110, ⟨q_197, Or.inr ⟨c_205, ⟨q_308, ⟨_, em_330, ⟨_, em_353, hL⟩⟩⟩⟩⟩⟩⟩⟩)⟩, e1, e2, e3⟩
abbrev D_118  (m : dc_M) (v : Int) (m' : dc_M) : Prop := ∃ c, LM_118  c 0 m v m'
theorem ds_118 (n : Nat)  {h : ae_H} {r : ae_R} (ok : dc_ok h)  (hr : ae_exe n 118 0 0 0 (ae_args [wk_r 1] 0) [] h = some r) : ∃ v, D_118  (dc_m h) v (dc_m r.2) ∧ r.1 = none ∧ sv_I v ∧ dc_ok r.2 := by
  have q0 : ae_lk (ae_args [wk_r 1] 0) 0 = some (wk_r 1) := rfl
  obtain ⟨v, ⟨c, hL⟩, e1, e2, e3⟩ := (dl_118  _) _ (ae_args [wk_r 1] 0) h _  (Nat.le_refl _) ok  q0 hr
  exact ⟨v, ⟨_, hL⟩, e1, e2, e3⟩
/-! method 119 -/
theorem xm_119 : ae_m 119 = some (wk_M 119) := rfl
theorem xd_119_0 : decode (wk_M 119).2.2.1 0 = .ok (.aload_n 0, 1) := zd_by (by decide +kernel)
theorem xd_119_1 : decode (wk_M 119).2.2.1 1 = .ok (.getfield 28, 3) := zd_by (by decide +kernel)
theorem xd_119_4 : decode (wk_M 119).2.2.1 4 = .ok (.aload_n 0, 1) := zd_by (by decide +kernel)
theorem xd_119_5 : decode (wk_M 119).2.2.1 5 = .ok (.getfield 15, 3) := zd_by (by decide +kernel)
theorem xd_119_8 : decode (wk_M 119).2.2.1 8 = .ok (.if_icmp .ge 68, 3) := zd_by (by decide +kernel)
theorem xd_119_11 : decode (wk_M 119).2.2.1 11 = .ok (.aload_n 0, 1) := zd_by (by decide +kernel)
theorem xd_119_12 : decode (wk_M 119).2.2.1 12 = .ok (.getfield 11, 3) := zd_by (by decide +kernel)
theorem xd_119_15 : decode (wk_M 119).2.2.1 15 = .ok (.aload_n 0, 1) := zd_by (by decide +kernel)
theorem xd_119_16 : decode (wk_M 119).2.2.1 16 = .ok (.getfield 28, 3) := zd_by (by decide +kernel)
theorem xd_119_19 : decode (wk_M 119).2.2.1 19 = .ok (.iaload, 1) := zd_by (by decide +kernel)
theorem xd_119_20 : decode (wk_M 119).2.2.1 20 = .ok (.bipush 48, 2) := zd_by (by decide +kernel)
theorem xd_119_22 : decode (wk_M 119).2.2.1 22 = .ok (.if_icmp .lt 54, 3) := zd_by (by decide +kernel)
theorem xd_119_25 : decode (wk_M 119).2.2.1 25 = .ok (.aload_n 0, 1) := zd_by (by decide +kernel)
theorem xd_119_26 : decode (wk_M 119).2.2.1 26 = .ok (.getfield 11, 3) := zd_by (by decide +kernel)
theorem xd_119_29 : decode (wk_M 119).2.2.1 29 = .ok (.aload_n 0, 1) := zd_by (by decide +kernel)
theorem xd_119_30 : decode (wk_M 119).2.2.1 30 = .ok (.getfield 28, 3) := zd_by (by decide +kernel)
theorem xd_119_33 : decode (wk_M 119).2.2.1 33 = .ok (.iaload, 1) := zd_by (by decide +kernel)
theorem xd_119_34 : decode (wk_M 119).2.2.1 34 = .ok (.bipush 57, 2) := zd_by (by decide +kernel)
theorem xd_119_36 : decode (wk_M 119).2.2.1 36 = .ok (.if_icmp .gt 40, 3) := zd_by (by decide +kernel)
theorem xd_119_39 : decode (wk_M 119).2.2.1 39 = .ok (.aload_n 0, 1) := zd_by (by decide +kernel)
theorem xd_119_40 : decode (wk_M 119).2.2.1 40 = .ok (.aload_n 0, 1) := zd_by (by decide +kernel)
theorem xd_119_41 : decode (wk_M 119).2.2.1 41 = .ok (.getfield 40, 3) := zd_by (by decide +kernel)
theorem xd_119_44 : decode (wk_M 119).2.2.1 44 = .ok (.bipush 10, 2) := zd_by (by decide +kernel)
theorem xd_119_46 : decode (wk_M 119).2.2.1 46 = .ok (.imul, 1) := zd_by (by decide +kernel)
theorem xd_119_47 : decode (wk_M 119).2.2.1 47 = .ok (.aload_n 0, 1) := zd_by (by decide +kernel)
theorem xd_119_48 : decode (wk_M 119).2.2.1 48 = .ok (.getfield 11, 3) := zd_by (by decide +kernel)
theorem xd_119_51 : decode (wk_M 119).2.2.1 51 = .ok (.aload_n 0, 1) := zd_by (by decide +kernel)
theorem xd_119_52 : decode (wk_M 119).2.2.1 52 = .ok (.getfield 28, 3) := zd_by (by decide +kernel)
theorem xd_119_55 : decode (wk_M 119).2.2.1 55 = .ok (.iaload, 1) := zd_by (by decide +kernel)
theorem xd_119_56 : decode (wk_M 119).2.2.1 56 = .ok (.iadd, 1) := zd_by (by decide +kernel)
theorem xd_119_57 : decode (wk_M 119).2.2.1 57 = .ok (.bipush 48, 2) := zd_by (by decide +kernel)
theorem xd_119_59 : decode (wk_M 119).2.2.1 59 = .ok (.isub, 1) := zd_by (by decide +kernel)
theorem xd_119_60 : decode (wk_M 119).2.2.1 60 = .ok (.putfield 40, 3) := zd_by (by decide +kernel)
theorem xd_119_63 : decode (wk_M 119).2.2.1 63 = .ok (.aload_n 0, 1) := zd_by (by decide +kernel)
theorem xd_119_64 : decode (wk_M 119).2.2.1 64 = .ok (.dup, 1) := zd_by (by decide +kernel)
theorem xd_119_65 : decode (wk_M 119).2.2.1 65 = .ok (.getfield 28, 3) := zd_by (by decide +kernel)
theorem xd_119_68 : decode (wk_M 119).2.2.1 68 = .ok (.iconst 1, 1) := zd_by (by decide +kernel)
theorem xd_119_69 : decode (wk_M 119).2.2.1 69 = .ok (.iadd, 1) := zd_by (by decide +kernel)
theorem xd_119_70 : decode (wk_M 119).2.2.1 70 = .ok (.putfield 28, 3) := zd_by (by decide +kernel)
theorem xd_119_73 : decode (wk_M 119).2.2.1 73 = .ok (.goto (-73), 3) := zd_by (by decide +kernel)
theorem xd_119_76 : decode (wk_M 119).2.2.1 76 = .ok (.aload_n 0, 1) := zd_by (by decide +kernel)
theorem xd_119_77 : decode (wk_M 119).2.2.1 77 = .ok (.aload_n 0, 1) := zd_by (by decide +kernel)
theorem xd_119_78 : decode (wk_M 119).2.2.1 78 = .ok (.getfield 28, 3) := zd_by (by decide +kernel)
theorem xd_119_81 : decode (wk_M 119).2.2.1 81 = .ok (.aload_n 0, 1) := zd_by (by decide +kernel)
theorem xd_119_82 : decode (wk_M 119).2.2.1 82 = .ok (.getfield 55, 3) := zd_by (by decide +kernel)
theorem xd_119_85 : decode (wk_M 119).2.2.1 85 = .ok (.isub, 1) := zd_by (by decide +kernel)
theorem xd_119_86 : decode (wk_M 119).2.2.1 86 = .ok (.putfield 43, 3) := zd_by (by decide +kernel)
theorem xd_119_89 : decode (wk_M 119).2.2.1 89 = .ok (.aload_n 0, 1) := zd_by (by decide +kernel)
theorem xd_119_90 : decode (wk_M 119).2.2.1 90 = .ok (.aload_n 0, 1) := zd_by (by decide +kernel)
theorem xd_119_91 : decode (wk_M 119).2.2.1 91 = .ok (.getfield 43, 3) := zd_by (by decide +kernel)
theorem xd_119_94 : decode (wk_M 119).2.2.1 94 = .ok (.iconst 2, 1) := zd_by (by decide +kernel)
theorem xd_119_95 : decode (wk_M 119).2.2.1 95 = .ok (.if_icmp .gt 7, 3) := zd_by (by decide +kernel)
theorem xd_119_98 : decode (wk_M 119).2.2.1 98 = .ok (.iconst 2, 1) := zd_by (by decide +kernel)
theorem xd_119_99 : decode (wk_M 119).2.2.1 99 = .ok (.goto 4, 3) := zd_by (by decide +kernel)
theorem xd_119_102 : decode (wk_M 119).2.2.1 102 = .ok (.iconst 4, 1) := zd_by (by decide +kernel)
theorem xd_119_103 : decode (wk_M 119).2.2.1 103 = .ok (.putfield 46, 3) := zd_by (by decide +kernel)
theorem xd_119_106 : decode (wk_M 119).2.2.1 106 = .ok (.return_, 1) := zd_by (by decide +kernel)
def LM_119  : Nat → Nat → dc_M → Int → dc_M → Prop
  | 0, _, _, _, _ => False
  | c + 1, tag, m, v, m' => match tag with
    | _ => ((((m 1 3) : Int) ≥ (m 1 1) ∧ (∃ m_42, m_42 = dc_up m 1 6 (dc_w ((m 1 3) - (m 1 5))) ∧ (((((m_42 1 6) : Int) > 2 ∧ (∃ m_69, m_69 = dc_up m_42 1 4 4 ∧ (v = 0 ∧ m' = m_69))) ∨ (¬ (((m_42 1 6) : Int) > 2) ∧ (∃ m_83, m_83 = dc_up m_42 1 4 2 ∧ (v = 0 ∧ m' = m_83))))))) ∨ (¬ (((m 1 3) : Int) ≥ (m 1 1)) ∧ ((0 ≤ ((m 1 3) : Int) ∧ ((m 1 3) : Int) < 740) ∧ (((((m 2 (m 1 3)) : Int) < 48 ∧ (∃ m_137, m_137 = dc_up m 1 6 (dc_w ((m 1 3) - (m 1 5))) ∧ (((((m_137 1 6) : Int) > 2 ∧ (∃ m_164, m_164 = dc_up m_137 1 4 4 ∧ (v = 0 ∧ m' = m_164))) ∨ (¬ (((m_137 1 6) : Int) > 2) ∧ (∃ m_178, m_178 = dc_up m_137 1 4 2 ∧ (v = 0 ∧ m' = m_178))))))) ∨ (¬ (((m 2 (m 1 3)) : Int) < 48) ∧ ((0 ≤ ((m 1 3) : Int) ∧ ((m 1 3) : Int) < 740) ∧ (((((m 2 (m 1 3)) : Int) > 57 ∧ (∃ m_232, m_232 = dc_up m 1 6 (dc_w ((m 1 3) - (m 1 5))) ∧ (((((m_232 1 6) : Int) > 2 ∧ (∃ m_259, m_259 = dc_up m_232 1 4 4 ∧ (v = 0 ∧ m' = m_259))) ∨ (¬ (((m_232 1 6) : Int) > 2) ∧ (∃ m_273, m_273 = dc_up m_232 1 4 2 ∧ (v = 0 ∧ m' = m_273))))))) ∨ (¬ (((m 2 (m 1 3)) : Int) > 57) ∧ ((0 ≤ ((m 1 3) : Int) ∧ ((m 1 3) : Int) < 740) ∧ (∃ m_325, m_325 = dc_up m 1 7 (dc_w ((dc_w ((dc_w ((m 1 7) * 10)) + (m 2 (m 1 3)))) - 48)) ∧ (∃ m_348, m_348 = dc_up m_325 1 3 (dc_w ((m_325 1 3) + 1)) ∧ (LM_119  c 0 m_348 v m'))))))))))))))
theorem lm_119_0  {c : Nat} {m : dc_M} {v : Int} {m' : dc_M} : LM_119  (c + 1) 0 m v m' ↔ ((((m 1 3) : Int) ≥ (m 1 1) ∧ (∃ m_42, m_42 = dc_up m 1 6 (dc_w ((m 1 3) - (m 1 5))) ∧ (((((m_42 1 6) : Int) > 2 ∧ (∃ m_69, m_69 = dc_up m_42 1 4 4 ∧ (v = 0 ∧ m' = m_69))) ∨ (¬ (((m_42 1 6) : Int) > 2) ∧ (∃ m_83, m_83 = dc_up m_42 1 4 2 ∧ (v = 0 ∧ m' = m_83))))))) ∨ (¬ (((m 1 3) : Int) ≥ (m 1 1)) ∧ ((0 ≤ ((m 1 3) : Int) ∧ ((m 1 3) : Int) < 740) ∧ (((((m 2 (m 1 3)) : Int) < 48 ∧ (∃ m_137, m_137 = dc_up m 1 6 (dc_w ((m 1 3) - (m 1 5))) ∧ (((((m_137 1 6) : Int) > 2 ∧ (∃ m_164, m_164 = dc_up m_137 1 4 4 ∧ (v = 0 ∧ m' = m_164))) ∨ (¬ (((m_137 1 6) : Int) > 2) ∧ (∃ m_178, m_178 = dc_up m_137 1 4 2 ∧ (v = 0 ∧ m' = m_178))))))) ∨ (¬ (((m 2 (m 1 3)) : Int) < 48) ∧ ((0 ≤ ((m 1 3) : Int) ∧ ((m 1 3) : Int) < 740) ∧ (((((m 2 (m 1 3)) : Int) > 57 ∧ (∃ m_232, m_232 = dc_up m 1 6 (dc_w ((m 1 3) - (m 1 5))) ∧ (((((m_232 1 6) : Int) > 2 ∧ (∃ m_259, m_259 = dc_up m_232 1 4 4 ∧ (v = 0 ∧ m' = m_259))) ∨ (¬ (((m_232 1 6) : Int) > 2) ∧ (∃ m_273, m_273 = dc_up m_232 1 4 2 ∧ (v = 0 ∧ m' = m_273))))))) ∨ (¬ (((m 2 (m 1 3)) : Int) > 57) ∧ ((0 ≤ ((m 1 3) : Int) ∧ ((m 1 3) : Int) < 740) ∧ (∃ m_325, m_325 = dc_up m 1 7 (dc_w ((dc_w ((dc_w ((m 1 7) * 10)) + (m 2 (m 1 3)))) - 48)) ∧ (∃ m_348, m_348 = dc_up m_325 1 3 (dc_w ((m_325 1 3) + 1)) ∧ (LM_119  c 0 m_348 v m')))))))))))))) := Iff.rfl
theorem dl_119   : ∀ N : Nat, (∀ (n : Nat) (lv : ae_L) (h : ae_H) (r : ae_R), n ≤ N → dc_ok h → ae_lk lv 0 = some (wk_r 1) → ae_exe n 119 0 0 0 lv [] h = some r → ∃ v, (∃ c, LM_119  c 0 (dc_m h) v (dc_m r.2)) ∧ r.1 = none ∧ sv_I v ∧ dc_ok r.2) := by
  intro N
  induction N with
  | zero =>
    exact fun n lv h r hn ok q0 hr => by
      have e : n = 0 := by omega
      subst e
      cases hr
  | succ N ih =>
    have ih0 := ih
    intro n lv h r hn ok q0 hr
    obtain ⟨n_1, e_2, hr_3⟩ := iv_aload_n xm_119 xd_119_0 q0 hr
    have f_4 := dc_fi (j := 3) ok (rfl : sv_ty 1 = some 9) dt_9 rfl
    obtain ⟨n_5, e_6, hr_7⟩ := iv_getf (j := 3) xm_119 xd_119_1 (by decide +kernel) ok (rfl : sv_ty 1 = some 9) dt_9 f_4.1 hr_3
    obtain ⟨n_8, e_9, hr_10⟩ := iv_aload_n xm_119 xd_119_4 q0 hr_7
    have f_11 := dc_fi (j := 1) ok (rfl : sv_ty 1 = some 9) dt_9 rfl
    obtain ⟨n_12, e_13, hr_14⟩ := iv_getf (j := 1) xm_119 xd_119_5 (by decide +kernel) ok (rfl : sv_ty 1 = some 9) dt_9 f_11.1 hr_10
    rcases iv_icmp 76 xm_119 xd_119_8 (by decide) f_4.2 f_11.2 hr_14 with ⟨c_15, n_16, e_17, hr_18⟩ | ⟨c_15, n_16, e_17, hr_18⟩
    · obtain ⟨n_19, e_20, hr_21⟩ := iv_aload_n xm_119 xd_119_76 q0 hr_18
      obtain ⟨n_22, e_23, hr_24⟩ := iv_aload_n xm_119 xd_119_77 q0 hr_21
      have f_25 := dc_fi (j := 3) ok (rfl : sv_ty 1 = some 9) dt_9 rfl
      obtain ⟨n_26, e_27, hr_28⟩ := iv_getf (j := 3) xm_119 xd_119_78 (by decide +kernel) ok (rfl : sv_ty 1 = some 9) dt_9 f_25.1 hr_24
      obtain ⟨n_29, e_30, hr_31⟩ := iv_aload_n xm_119 xd_119_81 q0 hr_28
      have f_32 := dc_fi (j := 5) ok (rfl : sv_ty 1 = some 9) dt_9 rfl
      obtain ⟨n_33, e_34, hr_35⟩ := iv_getf (j := 5) xm_119 xd_119_82 (by decide +kernel) ok (rfl : sv_ty 1 = some 9) dt_9 f_32.1 hr_31
      obtain ⟨n_36, e_37, hr_38⟩ := iw_isub xm_119 xd_119_85 hr_35
      obtain ⟨h_39, ok_40, em_41, n_43, e_44, hr_45⟩ := iv_puti (j := 6) (fk := 0) xm_119 xd_119_86 (by decide +kernel) ok (rfl : sv_ty 1 = some 9) dt_9 rfl (by decide +kernel) rfl (dc_w_I _) hr_38
      obtain ⟨n_46, e_47, hr_48⟩ := iv_aload_n xm_119 xd_119_89 q0 hr_45
      obtain ⟨n_49, e_50, hr_51⟩ := iv_aload_n xm_119 xd_119_90 q0 hr_48
      have f_52 := dc_fi (j := 6) ok_40 (rfl : sv_ty 1 = some 9) dt_9 rfl
      obtain ⟨n_53, e_54, hr_55⟩ := iv_getf (j := 6) xm_119 xd_119_91 (by decide +kernel) ok_40 (rfl : sv_ty 1 = some 9) dt_9 f_52.1 hr_51
      obtain ⟨n_56, e_57, hr_58⟩ := iv_iconst xm_119 xd_119_94 (by decide) hr_55
      rcases iv_icmp 102 xm_119 xd_119_95 (by decide) f_52.2 (by unfold sv_I; omega) hr_58 with ⟨c_59, n_60, e_61, hr_62⟩ | ⟨c_59, n_60, e_61, hr_62⟩
      · obtain ⟨n_63, e_64, hr_65⟩ := iv_iconst xm_119 xd_119_102 (by decide) hr_62
        obtain ⟨h_66, ok_67, em_68, n_70, e_71, hr_72⟩ := iv_puti (j := 4) (fk := 0) xm_119 xd_119_103 (by decide +kernel) ok_40 (rfl : sv_ty 1 = some 9) dt_9 rfl (by decide +kernel) rfl (by unfold sv_I; omega) hr_65
        have rr_73 := iv_return xm_119 xd_119_106 hr_72 rfl
        subst rr_73
        exact ⟨_, ⟨0 + 1, lm_119_0.mpr (Or.inl ⟨c_15, ⟨_, em_41, Or.inl ⟨c_59, ⟨_, em_68, ⟨rfl, rfl⟩⟩⟩⟩⟩)⟩, rfl, (by unfold sv_I; omega), ok_67⟩
      · obtain ⟨n_74, e_75, hr_76⟩ := iv_iconst xm_119 xd_119_98 (by decide) hr_62
        obtain ⟨n_77, e_78, hr_79⟩ := iv_goto 103 xm_119 xd_119_99 (by decide) hr_76
        obtain ⟨h_80, ok_81, em_82, n_84, e_85, hr_86⟩ := iv_puti (j := 4) (fk := 0) xm_119 xd_119_103 (by decide +kernel) ok_40 (rfl : sv_ty 1 = some 9) dt_9 rfl (by decide +kernel) rfl (by unfold sv_I; omega) hr_79
        have rr_87 := iv_return xm_119 xd_119_106 hr_86 rfl
        subst rr_87
        exact ⟨_, ⟨0 + 1, lm_119_0.mpr (Or.inl ⟨c_15, ⟨_, em_41, Or.inr ⟨c_59, ⟨_, em_82, ⟨rfl, rfl⟩⟩⟩⟩⟩)⟩, rfl, (by unfold sv_I; omega), ok_81⟩
    · obtain ⟨n_88, e_89, hr_90⟩ := iv_aload_n xm_119 xd_119_11 q0 hr_18
      have f_91 := dc_fr (j := 0) ok (rfl : sv_ty 1 = some 9) dt_9 rfl
      obtain ⟨n_92, e_93, hr_94⟩ := iv_getf (j := 0) xm_119 xd_119_12 (by decide +kernel) ok (rfl : sv_ty 1 = some 9) dt_9 f_91 hr_90
      obtain ⟨n_95, e_96, hr_97⟩ := iv_aload_n xm_119 xd_119_15 q0 hr_94
      have f_98 := dc_fi (j := 3) ok (rfl : sv_ty 1 = some 9) dt_9 rfl
      obtain ⟨n_99, e_100, hr_101⟩ := iv_getf (j := 3) xm_119 xd_119_16 (by decide +kernel) ok (rfl : sv_ty 1 = some 9) dt_9 f_98.1 hr_97
      obtain ⟨q_102, qi_103, n_104, e_105, hr_106⟩ := iv_iald xm_119 xd_119_19 ok (rfl : sv_ty 2 = some 13) dt_13 (by decide) f_98.2 hr_101
      obtain ⟨n_107, e_108, hr_109⟩ := iv_bipush xm_119 xd_119_20 (by decide) hr_106
      rcases iv_icmp 76 xm_119 xd_119_22 (by decide) qi_103 (by unfold sv_I; omega) hr_109 with ⟨c_110, n_111, e_112, hr_113⟩ | ⟨c_110, n_111, e_112, hr_113⟩
      · obtain ⟨n_114, e_115, hr_116⟩ := iv_aload_n xm_119 xd_119_76 q0 hr_113
        obtain ⟨n_117, e_118, hr_119⟩ := iv_aload_n xm_119 xd_119_77 q0 hr_116
        have f_120 := dc_fi (j := 3) ok (rfl : sv_ty 1 = some 9) dt_9 rfl
        obtain ⟨n_121, e_122, hr_123⟩ := iv_getf (j := 3) xm_119 xd_119_78 (by decide +kernel) ok (rfl : sv_ty 1 = some 9) dt_9 f_120.1 hr_119
        obtain ⟨n_124, e_125, hr_126⟩ := iv_aload_n xm_119 xd_119_81 q0 hr_123
        have f_127 := dc_fi (j := 5) ok (rfl : sv_ty 1 = some 9) dt_9 rfl
        obtain ⟨n_128, e_129, hr_130⟩ := iv_getf (j := 5) xm_119 xd_119_82 (by decide +kernel) ok (rfl : sv_ty 1 = some 9) dt_9 f_127.1 hr_126
        obtain ⟨n_131, e_132, hr_133⟩ := iw_isub xm_119 xd_119_85 hr_130
        obtain ⟨h_134, ok_135, em_136, n_138, e_139, hr_140⟩ := iv_puti (j := 6) (fk := 0) xm_119 xd_119_86 (by decide +kernel) ok (rfl : sv_ty 1 = some 9) dt_9 rfl (by decide +kernel) rfl (dc_w_I _) hr_133
        obtain ⟨n_141, e_142, hr_143⟩ := iv_aload_n xm_119 xd_119_89 q0 hr_140
        obtain ⟨n_144, e_145, hr_146⟩ := iv_aload_n xm_119 xd_119_90 q0 hr_143
        have f_147 := dc_fi (j := 6) ok_135 (rfl : sv_ty 1 = some 9) dt_9 rfl
        obtain ⟨n_148, e_149, hr_150⟩ := iv_getf (j := 6) xm_119 xd_119_91 (by decide +kernel) ok_135 (rfl : sv_ty 1 = some 9) dt_9 f_147.1 hr_146
        obtain ⟨n_151, e_152, hr_153⟩ := iv_iconst xm_119 xd_119_94 (by decide) hr_150
        rcases iv_icmp 102 xm_119 xd_119_95 (by decide) f_147.2 (by unfold sv_I; omega) hr_153 with ⟨c_154, n_155, e_156, hr_157⟩ | ⟨c_154, n_155, e_156, hr_157⟩
        · obtain ⟨n_158, e_159, hr_160⟩ := iv_iconst xm_119 xd_119_102 (by decide) hr_157
          obtain ⟨h_161, ok_162, em_163, n_165, e_166, hr_167⟩ := iv_puti (j := 4) (fk := 0) xm_119 xd_119_103 (by decide +kernel) ok_135 (rfl : sv_ty 1 = some 9) dt_9 rfl (by decide +kernel) rfl (by unfold sv_I; omega) hr_160
          have rr_168 := iv_return xm_119 xd_119_106 hr_167 rfl
          subst rr_168
          exact ⟨_, ⟨0 + 1, lm_119_0.mpr (Or.inr ⟨c_15, ⟨q_102, Or.inl ⟨c_110, ⟨_, em_136, Or.inl ⟨c_154, ⟨_, em_163, ⟨rfl, rfl⟩⟩⟩⟩⟩⟩⟩)⟩, rfl, (by unfold sv_I; omega), ok_162⟩
        · obtain ⟨n_169, e_170, hr_171⟩ := iv_iconst xm_119 xd_119_98 (by decide) hr_157
          obtain ⟨n_172, e_173, hr_174⟩ := iv_goto 103 xm_119 xd_119_99 (by decide) hr_171
          obtain ⟨h_175, ok_176, em_177, n_179, e_180, hr_181⟩ := iv_puti (j := 4) (fk := 0) xm_119 xd_119_103 (by decide +kernel) ok_135 (rfl : sv_ty 1 = some 9) dt_9 rfl (by decide +kernel) rfl (by unfold sv_I; omega) hr_174
          have rr_182 := iv_return xm_119 xd_119_106 hr_181 rfl
          subst rr_182
          exact ⟨_, ⟨0 + 1, lm_119_0.mpr (Or.inr ⟨c_15, ⟨q_102, Or.inl ⟨c_110, ⟨_, em_136, Or.inr ⟨c_154, ⟨_, em_177, ⟨rfl, rfl⟩⟩⟩⟩⟩⟩⟩)⟩, rfl, (by unfold sv_I; omega), ok_176⟩
      · obtain ⟨n_183, e_184, hr_185⟩ := iv_aload_n xm_119 xd_119_25 q0 hr_113
        have f_186 := dc_fr (j := 0) ok (rfl : sv_ty 1 = some 9) dt_9 rfl
        obtain ⟨n_187, e_188, hr_189⟩ := iv_getf (j := 0) xm_119 xd_119_26 (by decide +kernel) ok (rfl : sv_ty 1 = some 9) dt_9 f_186 hr_185
        obtain ⟨n_190, e_191, hr_192⟩ := iv_aload_n xm_119 xd_119_29 q0 hr_189
        have f_193 := dc_fi (j := 3) ok (rfl : sv_ty 1 = some 9) dt_9 rfl
        obtain ⟨n_194, e_195, hr_196⟩ := iv_getf (j := 3) xm_119 xd_119_30 (by decide +kernel) ok (rfl : sv_ty 1 = some 9) dt_9 f_193.1 hr_192
        obtain ⟨q_197, qi_198, n_199, e_200, hr_201⟩ := iv_iald xm_119 xd_119_33 ok (rfl : sv_ty 2 = some 13) dt_13 (by decide) f_193.2 hr_196
        obtain ⟨n_202, e_203, hr_204⟩ := iv_bipush xm_119 xd_119_34 (by decide) hr_201
        rcases iv_icmp 76 xm_119 xd_119_36 (by decide) qi_198 (by unfold sv_I; omega) hr_204 with ⟨c_205, n_206, e_207, hr_208⟩ | ⟨c_205, n_206, e_207, hr_208⟩
        · obtain ⟨n_209, e_210, hr_211⟩ := iv_aload_n xm_119 xd_119_76 q0 hr_208
          obtain ⟨n_212, e_213, hr_214⟩ := iv_aload_n xm_119 xd_119_77 q0 hr_211
          have f_215 := dc_fi (j := 3) ok (rfl : sv_ty 1 = some 9) dt_9 rfl
          obtain ⟨n_216, e_217, hr_218⟩ := iv_getf (j := 3) xm_119 xd_119_78 (by decide +kernel) ok (rfl : sv_ty 1 = some 9) dt_9 f_215.1 hr_214
          obtain ⟨n_219, e_220, hr_221⟩ := iv_aload_n xm_119 xd_119_81 q0 hr_218
          have f_222 := dc_fi (j := 5) ok (rfl : sv_ty 1 = some 9) dt_9 rfl
          obtain ⟨n_223, e_224, hr_225⟩ := iv_getf (j := 5) xm_119 xd_119_82 (by decide +kernel) ok (rfl : sv_ty 1 = some 9) dt_9 f_222.1 hr_221
          obtain ⟨n_226, e_227, hr_228⟩ := iw_isub xm_119 xd_119_85 hr_225
          obtain ⟨h_229, ok_230, em_231, n_233, e_234, hr_235⟩ := iv_puti (j := 6) (fk := 0) xm_119 xd_119_86 (by decide +kernel) ok (rfl : sv_ty 1 = some 9) dt_9 rfl (by decide +kernel) rfl (dc_w_I _) hr_228
          obtain ⟨n_236, e_237, hr_238⟩ := iv_aload_n xm_119 xd_119_89 q0 hr_235
          obtain ⟨n_239, e_240, hr_241⟩ := iv_aload_n xm_119 xd_119_90 q0 hr_238
          have f_242 := dc_fi (j := 6) ok_230 (rfl : sv_ty 1 = some 9) dt_9 rfl
          obtain ⟨n_243, e_244, hr_245⟩ := iv_getf (j := 6) xm_119 xd_119_91 (by decide +kernel) ok_230 (rfl : sv_ty 1 = some 9) dt_9 f_242.1 hr_241
          obtain ⟨n_246, e_247, hr_248⟩ := iv_iconst xm_119 xd_119_94 (by decide) hr_245
          rcases iv_icmp 102 xm_119 xd_119_95 (by decide) f_242.2 (by unfold sv_I; omega) hr_248 with ⟨c_249, n_250, e_251, hr_252⟩ | ⟨c_249, n_250, e_251, hr_252⟩
          · obtain ⟨n_253, e_254, hr_255⟩ := iv_iconst xm_119 xd_119_102 (by decide) hr_252
            obtain ⟨h_256, ok_257, em_258, n_260, e_261, hr_262⟩ := iv_puti (j := 4) (fk := 0) xm_119 xd_119_103 (by decide +kernel) ok_230 (rfl : sv_ty 1 = some 9) dt_9 rfl (by decide +kernel) rfl (by unfold sv_I; omega) hr_255
            have rr_263 := iv_return xm_119 xd_119_106 hr_262 rfl
            subst rr_263
            exact ⟨_, ⟨0 + 1, lm_119_0.mpr (Or.inr ⟨c_15, ⟨q_102, Or.inr ⟨c_110, ⟨q_197, Or.inl ⟨c_205, ⟨_, em_231, Or.inl ⟨c_249, ⟨_, em_258, ⟨rfl, rfl⟩⟩⟩⟩⟩⟩⟩⟩⟩)⟩, rfl, (by unfold sv_I; omega), ok_257⟩
          · obtain ⟨n_264, e_265, hr_266⟩ := iv_iconst xm_119 xd_119_98 (by decide) hr_252
            obtain ⟨n_267, e_268, hr_269⟩ := iv_goto 103 xm_119 xd_119_99 (by decide) hr_266
            obtain ⟨h_270, ok_271, em_272, n_274, e_275, hr_276⟩ := iv_puti (j := 4) (fk := 0) xm_119 xd_119_103 (by decide +kernel) ok_230 (rfl : sv_ty 1 = some 9) dt_9 rfl (by decide +kernel) rfl (by unfold sv_I; omega) hr_269
            have rr_277 := iv_return xm_119 xd_119_106 hr_276 rfl
            subst rr_277
            exact ⟨_, ⟨0 + 1, lm_119_0.mpr (Or.inr ⟨c_15, ⟨q_102, Or.inr ⟨c_110, ⟨q_197, Or.inl ⟨c_205, ⟨_, em_231, Or.inr ⟨c_249, ⟨_, em_272, ⟨rfl, rfl⟩⟩⟩⟩⟩⟩⟩⟩⟩)⟩, rfl, (by unfold sv_I; omega), ok_271⟩
        · obtain ⟨n_278, e_279, hr_280⟩ := iv_aload_n xm_119 xd_119_39 q0 hr_208
          obtain ⟨n_281, e_282, hr_283⟩ := iv_aload_n xm_119 xd_119_40 q0 hr_280
          have f_284 := dc_fi (j := 7) ok (rfl : sv_ty 1 = some 9) dt_9 rfl
          obtain ⟨n_285, e_286, hr_287⟩ := iv_getf (j := 7) xm_119 xd_119_41 (by decide +kernel) ok (rfl : sv_ty 1 = some 9) dt_9 f_284.1 hr_283
          obtain ⟨n_288, e_289, hr_290⟩ := iv_bipush xm_119 xd_119_44 (by decide) hr_287
          obtain ⟨n_291, e_292, hr_293⟩ := iw_imul xm_119 xd_119_46 hr_290
          obtain ⟨n_294, e_295, hr_296⟩ := iv_aload_n xm_119 xd_119_47 q0 hr_293
          have f_297 := dc_fr (j := 0) ok (rfl : sv_ty 1 = some 9) dt_9 rfl
          obtain ⟨n_298, e_299, hr_300⟩ := iv_getf (j := 0) xm_119 xd_119_48 (by decide +kernel) ok (rfl : sv_ty 1 = some 9) dt_9 f_297 hr_296
          obtain ⟨n_301, e_302, hr_303⟩ := iv_aload_n xm_119 xd_119_51 q0 hr_300
          have f_304 := dc_fi (j := 3) ok (rfl : sv_ty 1 = some 9) dt_9 rfl
          obtain ⟨n_305, e_306, hr_307⟩ := iv_getf (j := 3) xm_119 xd_119_52 (by decide +kernel) ok (rfl : sv_ty 1 = some 9) dt_9 f_304.1 hr_303
          obtain ⟨q_308, qi_309, n_310, e_311, hr_312⟩ := iv_iald xm_119 xd_119_55 ok (rfl : sv_ty 2 = some 13) dt_13 (by decide) f_304.2 hr_307
          obtain ⟨n_313, e_314, hr_315⟩ := iw_iadd xm_119 xd_119_56 hr_312
          obtain ⟨n_316, e_317, hr_318⟩ := iv_bipush xm_119 xd_119_57 (by decide) hr_315
          obtain ⟨n_319, e_320, hr_321⟩ := iw_isub xm_119 xd_119_59 hr_318
          obtain ⟨h_322, ok_323, em_324, n_326, e_327, hr_328⟩ := iv_puti (j := 7) (fk := 0) xm_119 xd_119_60 (by decide +kernel) ok (rfl : sv_ty 1 = some 9) dt_9 rfl (by decide +kernel) rfl (dc_w_I _) hr_321
          obtain ⟨n_329, e_330, hr_331⟩ := iv_aload_n xm_119 xd_119_63 q0 hr_328
          obtain ⟨n_332, e_333, hr_334⟩ := iv_dup xm_119 xd_119_64 rfl hr_331
          have f_335 := dc_fi (j := 3) ok_323 (rfl : sv_ty 1 = some 9) dt_9 rfl
          obtain ⟨n_336, e_337, hr_338⟩ := iv_getf (j := 3) xm_119 xd_119_65 (by decide +kernel) ok_323 (rfl : sv_ty 1 = some 9) dt_9 f_335.1 hr_334
          obtain ⟨n_339, e_340, hr_341⟩ := iv_iconst xm_119 xd_119_68 (by decide) hr_338
          obtain ⟨n_342, e_343, hr_344⟩ := iw_iadd xm_119 xd_119_69 hr_341
          obtain ⟨h_345, ok_346, em_347, n_349, e_350, hr_351⟩ := iv_puti (j := 3) (fk := 0) xm_119 xd_119_70 (by decide +kernel) ok_323 (rfl : sv_ty 1 = some 9) dt_9 rfl (by decide +kernel) rfl (dc_w_I _) hr_344
          obtain ⟨n_352, e_353, hr_354⟩ := iv_goto 0 xm_119 xd_119_73 (by decide) hr_351
          obtain ⟨v, ⟨c, hL⟩, e1, e2, e3⟩ := ih0 _ lv h_345 _  (by omega) ok_346  q0 hr_354
          exact ⟨v, ⟨c + 1, lm_119_0.mpr (Or.inr ⟨c_15, ⟨q_102, Or.inr ⟨c_110, ⟨q_197, Or.inr ⟨c_205, ⟨q_308, ⟨_, em_324, ⟨_, em_347, hL⟩⟩⟩⟩⟩⟩⟩⟩)⟩, e1, e2, e3⟩
abbrev D_119  (m : dc_M) (v : Int) (m' : dc_M) : Prop := ∃ c, LM_119  c 0 m v m'
theorem ds_119 (n : Nat)  {h : ae_H} {r : ae_R} (ok : dc_ok h)  (hr : ae_exe n 119 0 0 0 (ae_args [wk_r 1] 0) [] h = some r) : ∃ v, D_119  (dc_m h) v (dc_m r.2) ∧ r.1 = none ∧ sv_I v ∧ dc_ok r.2 := by
  have q0 : ae_lk (ae_args [wk_r 1] 0) 0 = some (wk_r 1) := rfl
  obtain ⟨v, ⟨c, hL⟩, e1, e2, e3⟩ := (dl_119  _) _ (ae_args [wk_r 1] 0) h _  (Nat.le_refl _) ok  q0 hr
  exact ⟨v, ⟨_, hL⟩, e1, e2, e3⟩
/-! method 117 -/
theorem xm_117 : ae_m 117 = some (wk_M 117) := rfl
theorem xd_117_0 : decode (wk_M 117).2.2.1 0 = .ok (.aload_n 0, 1) := zd_by (by decide +kernel)
theorem xd_117_1 : decode (wk_M 117).2.2.1 1 = .ok (.getfield 28, 3) := zd_by (by decide +kernel)
theorem xd_117_4 : decode (wk_M 117).2.2.1 4 = .ok (.aload_n 0, 1) := zd_by (by decide +kernel)
theorem xd_117_5 : decode (wk_M 117).2.2.1 5 = .ok (.getfield 15, 3) := zd_by (by decide +kernel)
theorem xd_117_8 : decode (wk_M 117).2.2.1 8 = .ok (.if_icmp .ge 44, 3) := zd_by (by decide +kernel)
theorem xd_117_11 : decode (wk_M 117).2.2.1 11 = .ok (.aload_n 0, 1) := zd_by (by decide +kernel)
theorem xd_117_12 : decode (wk_M 117).2.2.1 12 = .ok (.getfield 11, 3) := zd_by (by decide +kernel)
theorem xd_117_15 : decode (wk_M 117).2.2.1 15 = .ok (.aload_n 0, 1) := zd_by (by decide +kernel)
theorem xd_117_16 : decode (wk_M 117).2.2.1 16 = .ok (.getfield 28, 3) := zd_by (by decide +kernel)
theorem xd_117_19 : decode (wk_M 117).2.2.1 19 = .ok (.iaload, 1) := zd_by (by decide +kernel)
theorem xd_117_20 : decode (wk_M 117).2.2.1 20 = .ok (.bipush 32, 2) := zd_by (by decide +kernel)
theorem xd_117_22 : decode (wk_M 117).2.2.1 22 = .ok (.if_icmp .eq 17, 3) := zd_by (by decide +kernel)
theorem xd_117_25 : decode (wk_M 117).2.2.1 25 = .ok (.aload_n 0, 1) := zd_by (by decide +kernel)
theorem xd_117_26 : decode (wk_M 117).2.2.1 26 = .ok (.getfield 11, 3) := zd_by (by decide +kernel)
theorem xd_117_29 : decode (wk_M 117).2.2.1 29 = .ok (.aload_n 0, 1) := zd_by (by decide +kernel)
theorem xd_117_30 : decode (wk_M 117).2.2.1 30 = .ok (.getfield 28, 3) := zd_by (by decide +kernel)
theorem xd_117_33 : decode (wk_M 117).2.2.1 33 = .ok (.iaload, 1) := zd_by (by decide +kernel)
theorem xd_117_34 : decode (wk_M 117).2.2.1 34 = .ok (.bipush 10, 2) := zd_by (by decide +kernel)
theorem xd_117_36 : decode (wk_M 117).2.2.1 36 = .ok (.if_icmp .ne 16, 3) := zd_by (by decide +kernel)
theorem xd_117_39 : decode (wk_M 117).2.2.1 39 = .ok (.aload_n 0, 1) := zd_by (by decide +kernel)
theorem xd_117_40 : decode (wk_M 117).2.2.1 40 = .ok (.dup, 1) := zd_by (by decide +kernel)
theorem xd_117_41 : decode (wk_M 117).2.2.1 41 = .ok (.getfield 28, 3) := zd_by (by decide +kernel)
theorem xd_117_44 : decode (wk_M 117).2.2.1 44 = .ok (.iconst 1, 1) := zd_by (by decide +kernel)
theorem xd_117_45 : decode (wk_M 117).2.2.1 45 = .ok (.iadd, 1) := zd_by (by decide +kernel)
theorem xd_117_46 : decode (wk_M 117).2.2.1 46 = .ok (.putfield 28, 3) := zd_by (by decide +kernel)
theorem xd_117_49 : decode (wk_M 117).2.2.1 49 = .ok (.goto (-49), 3) := zd_by (by decide +kernel)
theorem xd_117_52 : decode (wk_M 117).2.2.1 52 = .ok (.aload_n 0, 1) := zd_by (by decide +kernel)
theorem xd_117_53 : decode (wk_M 117).2.2.1 53 = .ok (.iconst 0, 1) := zd_by (by decide +kernel)
theorem xd_117_54 : decode (wk_M 117).2.2.1 54 = .ok (.putfield 40, 3) := zd_by (by decide +kernel)
theorem xd_117_57 : decode (wk_M 117).2.2.1 57 = .ok (.aload_n 0, 1) := zd_by (by decide +kernel)
theorem xd_117_58 : decode (wk_M 117).2.2.1 58 = .ok (.iconst 0, 1) := zd_by (by decide +kernel)
theorem xd_117_59 : decode (wk_M 117).2.2.1 59 = .ok (.putfield 43, 3) := zd_by (by decide +kernel)
theorem xd_117_62 : decode (wk_M 117).2.2.1 62 = .ok (.aload_n 0, 1) := zd_by (by decide +kernel)
theorem xd_117_63 : decode (wk_M 117).2.2.1 63 = .ok (.getfield 28, 3) := zd_by (by decide +kernel)
theorem xd_117_66 : decode (wk_M 117).2.2.1 66 = .ok (.aload_n 0, 1) := zd_by (by decide +kernel)
theorem xd_117_67 : decode (wk_M 117).2.2.1 67 = .ok (.getfield 15, 3) := zd_by (by decide +kernel)
theorem xd_117_70 : decode (wk_M 117).2.2.1 70 = .ok (.if_icmp .ge 14, 3) := zd_by (by decide +kernel)
theorem xd_117_73 : decode (wk_M 117).2.2.1 73 = .ok (.aload_n 0, 1) := zd_by (by decide +kernel)
theorem xd_117_74 : decode (wk_M 117).2.2.1 74 = .ok (.getfield 28, 3) := zd_by (by decide +kernel)
theorem xd_117_77 : decode (wk_M 117).2.2.1 77 = .ok (.aload_n 0, 1) := zd_by (by decide +kernel)
theorem xd_117_78 : decode (wk_M 117).2.2.1 78 = .ok (.getfield 25, 3) := zd_by (by decide +kernel)
theorem xd_117_81 : decode (wk_M 117).2.2.1 81 = .ok (.if_icmp .lt 24, 3) := zd_by (by decide +kernel)
theorem xd_117_84 : decode (wk_M 117).2.2.1 84 = .ok (.aload_n 0, 1) := zd_by (by decide +kernel)
theorem xd_117_85 : decode (wk_M 117).2.2.1 85 = .ok (.iconst 0, 1) := zd_by (by decide +kernel)
theorem xd_117_86 : decode (wk_M 117).2.2.1 86 = .ok (.putfield 46, 3) := zd_by (by decide +kernel)
theorem xd_117_89 : decode (wk_M 117).2.2.1 89 = .ok (.aload_n 0, 1) := zd_by (by decide +kernel)
theorem xd_117_90 : decode (wk_M 117).2.2.1 90 = .ok (.aload_n 0, 1) := zd_by (by decide +kernel)
theorem xd_117_91 : decode (wk_M 117).2.2.1 91 = .ok (.getfield 15, 3) := zd_by (by decide +kernel)
theorem xd_117_94 : decode (wk_M 117).2.2.1 94 = .ok (.aload_n 0, 1) := zd_by (by decide +kernel)
theorem xd_117_95 : decode (wk_M 117).2.2.1 95 = .ok (.getfield 25, 3) := zd_by (by decide +kernel)
theorem xd_117_98 : decode (wk_M 117).2.2.1 98 = .ok (.invokestatic 49, 3) := zd_by (by decide +kernel)
theorem xd_117_101 : decode (wk_M 117).2.2.1 101 = .ok (.putfield 55, 3) := zd_by (by decide +kernel)
theorem xd_117_104 : decode (wk_M 117).2.2.1 104 = .ok (.return_, 1) := zd_by (by decide +kernel)
theorem xd_117_105 : decode (wk_M 117).2.2.1 105 = .ok (.aload_n 0, 1) := zd_by (by decide +kernel)
theorem xd_117_106 : decode (wk_M 117).2.2.1 106 = .ok (.aload_n 0, 1) := zd_by (by decide +kernel)
theorem xd_117_107 : decode (wk_M 117).2.2.1 107 = .ok (.getfield 28, 3) := zd_by (by decide +kernel)
theorem xd_117_110 : decode (wk_M 117).2.2.1 110 = .ok (.putfield 55, 3) := zd_by (by decide +kernel)
theorem xd_117_113 : decode (wk_M 117).2.2.1 113 = .ok (.aload_n 0, 1) := zd_by (by decide +kernel)
theorem xd_117_114 : decode (wk_M 117).2.2.1 114 = .ok (.getfield 11, 3) := zd_by (by decide +kernel)
theorem xd_117_117 : decode (wk_M 117).2.2.1 117 = .ok (.aload_n 0, 1) := zd_by (by decide +kernel)
theorem xd_117_118 : decode (wk_M 117).2.2.1 118 = .ok (.getfield 28, 3) := zd_by (by decide +kernel)
theorem xd_117_121 : decode (wk_M 117).2.2.1 121 = .ok (.iaload, 1) := zd_by (by decide +kernel)
theorem xd_117_122 : decode (wk_M 117).2.2.1 122 = .ok (.bipush 97, 2) := zd_by (by decide +kernel)
theorem xd_117_124 : decode (wk_M 117).2.2.1 124 = .ok (.if_icmp .lt 24, 3) := zd_by (by decide +kernel)
theorem xd_117_127 : decode (wk_M 117).2.2.1 127 = .ok (.aload_n 0, 1) := zd_by (by decide +kernel)
theorem xd_117_128 : decode (wk_M 117).2.2.1 128 = .ok (.getfield 11, 3) := zd_by (by decide +kernel)
theorem xd_117_131 : decode (wk_M 117).2.2.1 131 = .ok (.aload_n 0, 1) := zd_by (by decide +kernel)
theorem xd_117_132 : decode (wk_M 117).2.2.1 132 = .ok (.getfield 28, 3) := zd_by (by decide +kernel)
theorem xd_117_135 : decode (wk_M 117).2.2.1 135 = .ok (.iaload, 1) := zd_by (by decide +kernel)
theorem xd_117_136 : decode (wk_M 117).2.2.1 136 = .ok (.bipush 122, 2) := zd_by (by decide +kernel)
theorem xd_117_138 : decode (wk_M 117).2.2.1 138 = .ok (.if_icmp .gt 10, 3) := zd_by (by decide +kernel)
theorem xd_117_141 : decode (wk_M 117).2.2.1 141 = .ok (.aload_n 0, 1) := zd_by (by decide +kernel)
theorem xd_117_142 : decode (wk_M 117).2.2.1 142 = .ok (.invokevirtual 58, 3) := zd_by (by decide +kernel)
theorem xd_117_145 : decode (wk_M 117).2.2.1 145 = .ok (.goto 42, 3) := zd_by (by decide +kernel)
theorem xd_117_148 : decode (wk_M 117).2.2.1 148 = .ok (.aload_n 0, 1) := zd_by (by decide +kernel)
theorem xd_117_149 : decode (wk_M 117).2.2.1 149 = .ok (.getfield 11, 3) := zd_by (by decide +kernel)
theorem xd_117_152 : decode (wk_M 117).2.2.1 152 = .ok (.aload_n 0, 1) := zd_by (by decide +kernel)
theorem xd_117_153 : decode (wk_M 117).2.2.1 153 = .ok (.getfield 28, 3) := zd_by (by decide +kernel)
theorem xd_117_156 : decode (wk_M 117).2.2.1 156 = .ok (.iaload, 1) := zd_by (by decide +kernel)
theorem xd_117_157 : decode (wk_M 117).2.2.1 157 = .ok (.bipush 48, 2) := zd_by (by decide +kernel)
theorem xd_117_159 : decode (wk_M 117).2.2.1 159 = .ok (.if_icmp .lt 24, 3) := zd_by (by decide +kernel)
theorem xd_117_162 : decode (wk_M 117).2.2.1 162 = .ok (.aload_n 0, 1) := zd_by (by decide +kernel)
theorem xd_117_163 : decode (wk_M 117).2.2.1 163 = .ok (.getfield 11, 3) := zd_by (by decide +kernel)
theorem xd_117_166 : decode (wk_M 117).2.2.1 166 = .ok (.aload_n 0, 1) := zd_by (by decide +kernel)
theorem xd_117_167 : decode (wk_M 117).2.2.1 167 = .ok (.getfield 28, 3) := zd_by (by decide +kernel)
theorem xd_117_170 : decode (wk_M 117).2.2.1 170 = .ok (.iaload, 1) := zd_by (by decide +kernel)
theorem xd_117_171 : decode (wk_M 117).2.2.1 171 = .ok (.bipush 57, 2) := zd_by (by decide +kernel)
theorem xd_117_173 : decode (wk_M 117).2.2.1 173 = .ok (.if_icmp .gt 10, 3) := zd_by (by decide +kernel)
theorem xd_117_176 : decode (wk_M 117).2.2.1 176 = .ok (.aload_n 0, 1) := zd_by (by decide +kernel)
theorem xd_117_177 : decode (wk_M 117).2.2.1 177 = .ok (.invokevirtual 61, 3) := zd_by (by decide +kernel)
theorem xd_117_180 : decode (wk_M 117).2.2.1 180 = .ok (.goto 7, 3) := zd_by (by decide +kernel)
theorem xd_117_183 : decode (wk_M 117).2.2.1 183 = .ok (.aload_n 0, 1) := zd_by (by decide +kernel)
theorem xd_117_184 : decode (wk_M 117).2.2.1 184 = .ok (.invokevirtual 64, 3) := zd_by (by decide +kernel)
theorem xd_117_187 : decode (wk_M 117).2.2.1 187 = .ok (.return_, 1) := zd_by (by decide +kernel)
def LM_117  : Nat → Nat → dc_M → Int → dc_M → Prop
  | 0, _, _, _, _ => False
  | c + 1, tag, m, v, m' => match tag with
    | _ => ((((m 1 3) : Int) ≥ (m 1 1) ∧ (∃ m_28, m_28 = dc_up m 1 7 0 ∧ (∃ m_41, m_41 = dc_up m_28 1 6 0 ∧ (((((m_41 1 3) : Int) ≥ (m_41 1 1) ∧ (∃ m_72, m_72 = dc_up m_41 1 4 0 ∧ (∃ m_99, m_99 = dc_up m_72 1 5 (if (m_72 1 2) < (m_72 1 1) then (m_72 1 2) else (m_72 1 1)) ∧ (v = 0 ∧ m' = m_99)))) ∨ (¬ (((m_41 1 3) : Int) ≥ (m_41 1 1)) ∧ (((((m_41 1 3) : Int) < (m_41 1 2) ∧ (∃ m_135, m_135 = dc_up m_41 1 5 (m_41 1 3) ∧ ((0 ≤ ((m_135 1 3) : Int) ∧ ((m_135 1 3) : Int) < 740) ∧ (((((m_135 2 (m_135 1 3)) : Int) < 97 ∧ ((0 ≤ ((m_135 1 3) : Int) ∧ ((m_135 1 3) : Int) < 740) ∧ (((((m_135 2 (m_135 1 3)) : Int) < 48 ∧ (∃ v_196 m_201, D_120 m_135 v_196 m_201 ∧ (v = 0 ∧ m' = m_201))) ∨ (¬ (((m_135 2 (m_135 1 3)) : Int) < 48) ∧ ((0 ≤ ((m_135 1 3) : Int) ∧ ((m_135 1 3) : Int) < 740) ∧ (((((m_135 2 (m_135 1 3)) : Int) > 57 ∧ (∃ v_239 m_244, D_120 m_135 v_239 m_244 ∧ (v = 0 ∧ m' = m_244))) ∨ (¬ (((m_135 2 (m_135 1 3)) : Int) > 57) ∧ (∃ v_256 m_261, D_119 m_135 v_256 m_261 ∧ (v = 0 ∧ m' = m_261))))))))))) ∨ (¬ (((m_135 2 (m_135 1 3)) : Int) < 97) ∧ ((0 ≤ ((m_135 1 3) : Int) ∧ ((m_135 1 3) : Int) < 740) ∧ (((((m_135 2 (m_135 1 3)) : Int) > 122 ∧ ((0 ≤ ((m_135 1 3) : Int) ∧ ((m_135 1 3) : Int) < 740) ∧ (((((m_135 2 (m_135 1 3)) : Int) < 48 ∧ (∃ v_328 m_333, D_120 m_135 v_328 m_333 ∧ (v = 0 ∧ m' = m_333))) ∨ (¬ (((m_135 2 (m_135 1 3)) : Int) < 48) ∧ ((0 ≤ ((m_135 1 3) : Int) ∧ ((m_135 1 3) : Int) < 740) ∧ (((((m_135 2 (m_135 1 3)) : Int) > 57 ∧ (∃ v_371 m_376, D_120 m_135 v_371 m_376 ∧ (v = 0 ∧ m' = m_376))) ∨ (¬ (((m_135 2 (m_135 1 3)) : Int) > 57) ∧ (∃ v_388 m_393, D_119 m_135 v_388 m_393 ∧ (v = 0 ∧ m' = m_393))))))))))) ∨ (¬ (((m_135 2 (m_135 1 3)) : Int) > 122) ∧ (∃ v_408 m_413, D_118 m_135 v_408 m_413 ∧ (v = 0 ∧ m' = m_413)))))))))))) ∨ (¬ (((m_41 1 3) : Int) < (m_41 1 2)) ∧ (∃ m_432, m_432 = dc_up m_41 1 4 0 ∧ (∃ m_459, m_459 = dc_up m_432 1 5 (if (m_432 1 2) < (m_432 1 1) then (m_432 1 2) else (m_432 1 1)) ∧ (v = 0 ∧ m' = m_459)))))))))))) ∨ (¬ (((m 1 3) : Int) ≥ (m 1 1)) ∧ ((0 ≤ ((m 1 3) : Int) ∧ ((m 1 3) : Int) < 740) ∧ (((((m 2 (m 1 3)) : Int) = 32 ∧ (∃ m_509, m_509 = dc_up m 1 3 (dc_w ((m 1 3) + 1)) ∧ (LM_117  c 0 m_509 v m'))) ∨ (¬ (((m 2 (m 1 3)) : Int) = 32) ∧ ((0 ≤ ((m 1 3) : Int) ∧ ((m 1 3) : Int) < 740) ∧ (((((m 2 (m 1 3)) : Int) ≠ 10 ∧ (∃ m_551, m_551 = dc_up m 1 7 0 ∧ (∃ m_564, m_564 = dc_up m_551 1 6 0 ∧ (((((m_564 1 3) : Int) ≥ (m_564 1 1) ∧ (∃ m_595, m_595 = dc_up m_564 1 4 0 ∧ (∃ m_622, m_622 = dc_up m_595 1 5 (if (m_595 1 2) < (m_595 1 1) then (m_595 1 2) else (m_595 1 1)) ∧ (v = 0 ∧ m' = m_622)))) ∨ (¬ (((m_564 1 3) : Int) ≥ (m_564 1 1)) ∧ (((((m_564 1 3) : Int) < (m_564 1 2) ∧ (∃ m_658, m_658 = dc_up m_564 1 5 (m_564 1 3) ∧ ((0 ≤ ((m_658 1 3) : Int) ∧ ((m_658 1 3) : Int) < 740) ∧ (((((m_658 2 (m_658 1 3)) : Int) < 97 ∧ ((0 ≤ ((m_658 1 3) : Int) ∧ ((m_658 1 3) : Int) < 740) ∧ (((((m_658 2 (m_658 1 3)) : Int) < 48 ∧ (∃ v_719 m_724, D_120 m_658 v_719 m_724 ∧ (v = 0 ∧ m' = m_724))) ∨ (¬ (((m_658 2 (m_658 1 3)) : Int) < 48) ∧ ((0 ≤ ((m_658 1 3) : Int) ∧ ((m_658 1 3) : Int) < 740) ∧ (((((m_658 2 (m_658 1 3)) : Int) > 57 ∧ (∃ v_762 m_767, D_120 m_658 v_762 m_767 ∧ (v = 0 ∧ m' = m_767))) ∨ (¬ (((m_658 2 (m_658 1 3)) : Int) > 57) ∧ (∃ v_779 m_784, D_119 m_658 v_779 m_784 ∧ (v = 0 ∧ m' = m_784))))))))))) ∨ (¬ (((m_658 2 (m_658 1 3)) : Int) < 97) ∧ ((0 ≤ ((m_658 1 3) : Int) ∧ ((m_658 1 3) : Int) < 740) ∧ (((((m_658 2 (m_658 1 3)) : Int) > 122 ∧ ((0 ≤ ((m_658 1 3) : Int) ∧ ((m_658 1 3) : Int) < 740) ∧ (((((m_658 2 (m_658 1 3)) : Int) < 48 ∧ (∃ v_851 m_856, D_120 m_658 v_851 m_856 ∧ (v = 0 ∧ m' = m_856))) ∨ (¬ (((m_658 2 (m_658 1 3)) : Int) < 48) ∧ ((0 ≤ ((m_658 1 3) : Int) ∧ ((m_658 1 3) : Int) < 740) ∧ (((((m_658 2 (m_658 1 3)) : Int) > 57 ∧ (∃ v_894 m_899, D_120 m_658 v_894 m_899 ∧ (v = 0 ∧ m' = m_899))) ∨ (¬ (((m_658 2 (m_658 1 3)) : Int) > 57) ∧ (∃ v_911 m_916, D_119 m_658 v_911 m_916 ∧ (v = 0 ∧ m' = m_916))))))))))) ∨ (¬ (((m_658 2 (m_658 1 3)) : Int) > 122) ∧ (∃ v_931 m_936, D_118 m_658 v_931 m_936 ∧ (v = 0 ∧ m' = m_936)))))))))))) ∨ (¬ (((m_564 1 3) : Int) < (m_564 1 2)) ∧ (∃ m_955, m_955 = dc_up m_564 1 4 0 ∧ (∃ m_982, m_982 = dc_up m_955 1 5 (if (m_955 1 2) < (m_955 1 1) then (m_955 1 2) else (m_955 1 1)) ∧ (v = 0 ∧ m' = m_982)))))))))))) ∨ (¬ (((m 2 (m 1 3)) : Int) ≠ 10) ∧ (∃ m_1006, m_1006 = dc_up m 1 3 (dc_w ((m 1 3) + 1)) ∧ (LM_117  c 0 m_1006 v m'))))))))))))
theorem lm_117_0  {c : Nat} {m : dc_M} {v : Int} {m' : dc_M} : LM_117  (c + 1) 0 m v m' ↔ ((((m 1 3) : Int) ≥ (m 1 1) ∧ (∃ m_28, m_28 = dc_up m 1 7 0 ∧ (∃ m_41, m_41 = dc_up m_28 1 6 0 ∧ (((((m_41 1 3) : Int) ≥ (m_41 1 1) ∧ (∃ m_72, m_72 = dc_up m_41 1 4 0 ∧ (∃ m_99, m_99 = dc_up m_72 1 5 (if (m_72 1 2) < (m_72 1 1) then (m_72 1 2) else (m_72 1 1)) ∧ (v = 0 ∧ m' = m_99)))) ∨ (¬ (((m_41 1 3) : Int) ≥ (m_41 1 1)) ∧ (((((m_41 1 3) : Int) < (m_41 1 2) ∧ (∃ m_135, m_135 = dc_up m_41 1 5 (m_41 1 3) ∧ ((0 ≤ ((m_135 1 3) : Int) ∧ ((m_135 1 3) : Int) < 740) ∧ (((((m_135 2 (m_135 1 3)) : Int) < 97 ∧ ((0 ≤ ((m_135 1 3) : Int) ∧ ((m_135 1 3) : Int) < 740) ∧ (((((m_135 2 (m_135 1 3)) : Int) < 48 ∧ (∃ v_196 m_201, D_120 m_135 v_196 m_201 ∧ (v = 0 ∧ m' = m_201))) ∨ (¬ (((m_135 2 (m_135 1 3)) : Int) < 48) ∧ ((0 ≤ ((m_135 1 3) : Int) ∧ ((m_135 1 3) : Int) < 740) ∧ (((((m_135 2 (m_135 1 3)) : Int) > 57 ∧ (∃ v_239 m_244, D_120 m_135 v_239 m_244 ∧ (v = 0 ∧ m' = m_244))) ∨ (¬ (((m_135 2 (m_135 1 3)) : Int) > 57) ∧ (∃ v_256 m_261, D_119 m_135 v_256 m_261 ∧ (v = 0 ∧ m' = m_261))))))))))) ∨ (¬ (((m_135 2 (m_135 1 3)) : Int) < 97) ∧ ((0 ≤ ((m_135 1 3) : Int) ∧ ((m_135 1 3) : Int) < 740) ∧ (((((m_135 2 (m_135 1 3)) : Int) > 122 ∧ ((0 ≤ ((m_135 1 3) : Int) ∧ ((m_135 1 3) : Int) < 740) ∧ (((((m_135 2 (m_135 1 3)) : Int) < 48 ∧ (∃ v_328 m_333, D_120 m_135 v_328 m_333 ∧ (v = 0 ∧ m' = m_333))) ∨ (¬ (((m_135 2 (m_135 1 3)) : Int) < 48) ∧ ((0 ≤ ((m_135 1 3) : Int) ∧ ((m_135 1 3) : Int) < 740) ∧ (((((m_135 2 (m_135 1 3)) : Int) > 57 ∧ (∃ v_371 m_376, D_120 m_135 v_371 m_376 ∧ (v = 0 ∧ m' = m_376))) ∨ (¬ (((m_135 2 (m_135 1 3)) : Int) > 57) ∧ (∃ v_388 m_393, D_119 m_135 v_388 m_393 ∧ (v = 0 ∧ m' = m_393))))))))))) ∨ (¬ (((m_135 2 (m_135 1 3)) : Int) > 122) ∧ (∃ v_408 m_413, D_118 m_135 v_408 m_413 ∧ (v = 0 ∧ m' = m_413)))))))))))) ∨ (¬ (((m_41 1 3) : Int) < (m_41 1 2)) ∧ (∃ m_432, m_432 = dc_up m_41 1 4 0 ∧ (∃ m_459, m_459 = dc_up m_432 1 5 (if (m_432 1 2) < (m_432 1 1) then (m_432 1 2) else (m_432 1 1)) ∧ (v = 0 ∧ m' = m_459)))))))))))) ∨ (¬ (((m 1 3) : Int) ≥ (m 1 1)) ∧ ((0 ≤ ((m 1 3) : Int) ∧ ((m 1 3) : Int) < 740) ∧ (((((m 2 (m 1 3)) : Int) = 32 ∧ (∃ m_509, m_509 = dc_up m 1 3 (dc_w ((m 1 3) + 1)) ∧ (LM_117  c 0 m_509 v m'))) ∨ (¬ (((m 2 (m 1 3)) : Int) = 32) ∧ ((0 ≤ ((m 1 3) : Int) ∧ ((m 1 3) : Int) < 740) ∧ (((((m 2 (m 1 3)) : Int) ≠ 10 ∧ (∃ m_551, m_551 = dc_up m 1 7 0 ∧ (∃ m_564, m_564 = dc_up m_551 1 6 0 ∧ (((((m_564 1 3) : Int) ≥ (m_564 1 1) ∧ (∃ m_595, m_595 = dc_up m_564 1 4 0 ∧ (∃ m_622, m_622 = dc_up m_595 1 5 (if (m_595 1 2) < (m_595 1 1) then (m_595 1 2) else (m_595 1 1)) ∧ (v = 0 ∧ m' = m_622)))) ∨ (¬ (((m_564 1 3) : Int) ≥ (m_564 1 1)) ∧ (((((m_564 1 3) : Int) < (m_564 1 2) ∧ (∃ m_658, m_658 = dc_up m_564 1 5 (m_564 1 3) ∧ ((0 ≤ ((m_658 1 3) : Int) ∧ ((m_658 1 3) : Int) < 740) ∧ (((((m_658 2 (m_658 1 3)) : Int) < 97 ∧ ((0 ≤ ((m_658 1 3) : Int) ∧ ((m_658 1 3) : Int) < 740) ∧ (((((m_658 2 (m_658 1 3)) : Int) < 48 ∧ (∃ v_719 m_724, D_120 m_658 v_719 m_724 ∧ (v = 0 ∧ m' = m_724))) ∨ (¬ (((m_658 2 (m_658 1 3)) : Int) < 48) ∧ ((0 ≤ ((m_658 1 3) : Int) ∧ ((m_658 1 3) : Int) < 740) ∧ (((((m_658 2 (m_658 1 3)) : Int) > 57 ∧ (∃ v_762 m_767, D_120 m_658 v_762 m_767 ∧ (v = 0 ∧ m' = m_767))) ∨ (¬ (((m_658 2 (m_658 1 3)) : Int) > 57) ∧ (∃ v_779 m_784, D_119 m_658 v_779 m_784 ∧ (v = 0 ∧ m' = m_784))))))))))) ∨ (¬ (((m_658 2 (m_658 1 3)) : Int) < 97) ∧ ((0 ≤ ((m_658 1 3) : Int) ∧ ((m_658 1 3) : Int) < 740) ∧ (((((m_658 2 (m_658 1 3)) : Int) > 122 ∧ ((0 ≤ ((m_658 1 3) : Int) ∧ ((m_658 1 3) : Int) < 740) ∧ (((((m_658 2 (m_658 1 3)) : Int) < 48 ∧ (∃ v_851 m_856, D_120 m_658 v_851 m_856 ∧ (v = 0 ∧ m' = m_856))) ∨ (¬ (((m_658 2 (m_658 1 3)) : Int) < 48) ∧ ((0 ≤ ((m_658 1 3) : Int) ∧ ((m_658 1 3) : Int) < 740) ∧ (((((m_658 2 (m_658 1 3)) : Int) > 57 ∧ (∃ v_894 m_899, D_120 m_658 v_894 m_899 ∧ (v = 0 ∧ m' = m_899))) ∨ (¬ (((m_658 2 (m_658 1 3)) : Int) > 57) ∧ (∃ v_911 m_916, D_119 m_658 v_911 m_916 ∧ (v = 0 ∧ m' = m_916))))))))))) ∨ (¬ (((m_658 2 (m_658 1 3)) : Int) > 122) ∧ (∃ v_931 m_936, D_118 m_658 v_931 m_936 ∧ (v = 0 ∧ m' = m_936)))))))))))) ∨ (¬ (((m_564 1 3) : Int) < (m_564 1 2)) ∧ (∃ m_955, m_955 = dc_up m_564 1 4 0 ∧ (∃ m_982, m_982 = dc_up m_955 1 5 (if (m_955 1 2) < (m_955 1 1) then (m_955 1 2) else (m_955 1 1)) ∧ (v = 0 ∧ m' = m_982)))))))))))) ∨ (¬ (((m 2 (m 1 3)) : Int) ≠ 10) ∧ (∃ m_1006, m_1006 = dc_up m 1 3 (dc_w ((m 1 3) + 1)) ∧ (LM_117  c 0 m_1006 v m')))))))))))) := Iff.rfl
theorem dl_117   : ∀ N : Nat, (∀ (n : Nat) (lv : ae_L) (h : ae_H) (r : ae_R), n ≤ N → dc_ok h → ae_lk lv 0 = some (wk_r 1) → ae_exe n 117 0 0 0 lv [] h = some r → ∃ v, (∃ c, LM_117  c 0 (dc_m h) v (dc_m r.2)) ∧ r.1 = none ∧ sv_I v ∧ dc_ok r.2) := by
  intro N
  induction N with
  | zero =>
    exact fun n lv h r hn ok q0 hr => by
      have e : n = 0 := by omega
      subst e
      cases hr
  | succ N ih =>
    have ih0 := ih
    intro n lv h r hn ok q0 hr
    obtain ⟨n_1, e_2, hr_3⟩ := iv_aload_n xm_117 xd_117_0 q0 hr
    have f_4 := dc_fi (j := 3) ok (rfl : sv_ty 1 = some 9) dt_9 rfl
    obtain ⟨n_5, e_6, hr_7⟩ := iv_getf (j := 3) xm_117 xd_117_1 (by decide +kernel) ok (rfl : sv_ty 1 = some 9) dt_9 f_4.1 hr_3
    obtain ⟨n_8, e_9, hr_10⟩ := iv_aload_n xm_117 xd_117_4 q0 hr_7
    have f_11 := dc_fi (j := 1) ok (rfl : sv_ty 1 = some 9) dt_9 rfl
    obtain ⟨n_12, e_13, hr_14⟩ := iv_getf (j := 1) xm_117 xd_117_5 (by decide +kernel) ok (rfl : sv_ty 1 = some 9) dt_9 f_11.1 hr_10
    rcases iv_icmp 52 xm_117 xd_117_8 (by decide) f_4.2 f_11.2 hr_14 with ⟨c_15, n_16, e_17, hr_18⟩ | ⟨c_15, n_16, e_17, hr_18⟩
    · obtain ⟨n_19, e_20, hr_21⟩ := iv_aload_n xm_117 xd_117_52 q0 hr_18
      obtain ⟨n_22, e_23, hr_24⟩ := iv_iconst xm_117 xd_117_53 (by decide) hr_21
      obtain ⟨h_25, ok_26, em_27, n_29, e_30, hr_31⟩ := iv_puti (j := 7) (fk := 0) xm_117 xd_117_54 (by decide +kernel) ok (rfl : sv_ty 1 = some 9) dt_9 rfl (by decide +kernel) rfl (by unfold sv_I; omega) hr_24
      obtain ⟨n_32, e_33, hr_34⟩ := iv_aload_n xm_117 xd_117_57 q0 hr_31
      obtain ⟨n_35, e_36, hr_37⟩ := iv_iconst xm_117 xd_117_58 (by decide) hr_34
      obtain ⟨h_38, ok_39, em_40, n_42, e_43, hr_44⟩ := iv_puti (j := 6) (fk := 0) xm_117 xd_117_59 (by decide +kernel) ok_26 (rfl : sv_ty 1 = some 9) dt_9 rfl (by decide +kernel) rfl (by unfold sv_I; omega) hr_37
      obtain ⟨n_45, e_46, hr_47⟩ := iv_aload_n xm_117 xd_117_62 q0 hr_44
      have f_48 := dc_fi (j := 3) ok_39 (rfl : sv_ty 1 = some 9) dt_9 rfl
      obtain ⟨n_49, e_50, hr_51⟩ := iv_getf (j := 3) xm_117 xd_117_63 (by decide +kernel) ok_39 (rfl : sv_ty 1 = some 9) dt_9 f_48.1 hr_47
      obtain ⟨n_52, e_53, hr_54⟩ := iv_aload_n xm_117 xd_117_66 q0 hr_51
      have f_55 := dc_fi (j := 1) ok_39 (rfl : sv_ty 1 = some 9) dt_9 rfl
      obtain ⟨n_56, e_57, hr_58⟩ := iv_getf (j := 1) xm_117 xd_117_67 (by decide +kernel) ok_39 (rfl : sv_ty 1 = some 9) dt_9 f_55.1 hr_54
      rcases iv_icmp 84 xm_117 xd_117_70 (by decide) f_48.2 f_55.2 hr_58 with ⟨c_59, n_60, e_61, hr_62⟩ | ⟨c_59, n_60, e_61, hr_62⟩
      · obtain ⟨n_63, e_64, hr_65⟩ := iv_aload_n xm_117 xd_117_84 q0 hr_62
        obtain ⟨n_66, e_67, hr_68⟩ := iv_iconst xm_117 xd_117_85 (by decide) hr_65
        obtain ⟨h_69, ok_70, em_71, n_73, e_74, hr_75⟩ := iv_puti (j := 4) (fk := 0) xm_117 xd_117_86 (by decide +kernel) ok_39 (rfl : sv_ty 1 = some 9) dt_9 rfl (by decide +kernel) rfl (by unfold sv_I; omega) hr_68
        obtain ⟨n_76, e_77, hr_78⟩ := iv_aload_n xm_117 xd_117_89 q0 hr_75
        obtain ⟨n_79, e_80, hr_81⟩ := iv_aload_n xm_117 xd_117_90 q0 hr_78
        have f_82 := dc_fi (j := 1) ok_70 (rfl : sv_ty 1 = some 9) dt_9 rfl
        obtain ⟨n_83, e_84, hr_85⟩ := iv_getf (j := 1) xm_117 xd_117_91 (by decide +kernel) ok_70 (rfl : sv_ty 1 = some 9) dt_9 f_82.1 hr_81
        obtain ⟨n_86, e_87, hr_88⟩ := iv_aload_n xm_117 xd_117_94 q0 hr_85
        have f_89 := dc_fi (j := 2) ok_70 (rfl : sv_ty 1 = some 9) dt_9 rfl
        obtain ⟨n_90, e_91, hr_92⟩ := iv_getf (j := 2) xm_117 xd_117_95 (by decide +kernel) ok_70 (rfl : sv_ty 1 = some 9) dt_9 f_89.1 hr_88
        obtain ⟨n_93, e_94, hr_95⟩ := iv_min (a := 0) (b := 0) xm_117 xd_117_98 (by decide +kernel) f_82.2 f_89.2 hr_92
        obtain ⟨h_96, ok_97, em_98, n_100, e_101, hr_102⟩ := iv_puti (j := 5) (fk := 0) xm_117 xd_117_101 (by decide +kernel) ok_70 (rfl : sv_ty 1 = some 9) dt_9 rfl (by decide +kernel) rfl (dc_ite_I f_89.2 f_82.2) hr_95
        have rr_103 := iv_return xm_117 xd_117_104 hr_102 rfl
        subst rr_103
        exact ⟨_, ⟨0 + 1, lm_117_0.mpr (Or.inl ⟨c_15, ⟨_, em_27, ⟨_, em_40, Or.inl ⟨c_59, ⟨_, em_71, ⟨_, em_98, ⟨rfl, rfl⟩⟩⟩⟩⟩⟩⟩)⟩, rfl, (by unfold sv_I; omega), ok_97⟩
      · obtain ⟨n_104, e_105, hr_106⟩ := iv_aload_n xm_117 xd_117_73 q0 hr_62
        have f_107 := dc_fi (j := 3) ok_39 (rfl : sv_ty 1 = some 9) dt_9 rfl
        obtain ⟨n_108, e_109, hr_110⟩ := iv_getf (j := 3) xm_117 xd_117_74 (by decide +kernel) ok_39 (rfl : sv_ty 1 = some 9) dt_9 f_107.1 hr_106
        obtain ⟨n_111, e_112, hr_113⟩ := iv_aload_n xm_117 xd_117_77 q0 hr_110
        have f_114 := dc_fi (j := 2) ok_39 (rfl : sv_ty 1 = some 9) dt_9 rfl
        obtain ⟨n_115, e_116, hr_117⟩ := iv_getf (j := 2) xm_117 xd_117_78 (by decide +kernel) ok_39 (rfl : sv_ty 1 = some 9) dt_9 f_114.1 hr_113
        rcases iv_icmp 105 xm_117 xd_117_81 (by decide) f_107.2 f_114.2 hr_117 with ⟨c_118, n_119, e_120, hr_121⟩ | ⟨c_118, n_119, e_120, hr_121⟩
        · obtain ⟨n_122, e_123, hr_124⟩ := iv_aload_n xm_117 xd_117_105 q0 hr_121
          obtain ⟨n_125, e_126, hr_127⟩ := iv_aload_n xm_117 xd_117_106 q0 hr_124
          have f_128 := dc_fi (j := 3) ok_39 (rfl : sv_ty 1 = some 9) dt_9 rfl
          obtain ⟨n_129, e_130, hr_131⟩ := iv_getf (j := 3) xm_117 xd_117_107 (by decide +kernel) ok_39 (rfl : sv_ty 1 = some 9) dt_9 f_128.1 hr_127
          obtain ⟨h_132, ok_133, em_134, n_136, e_137, hr_138⟩ := iv_puti (j := 5) (fk := 0) xm_117 xd_117_110 (by decide +kernel) ok_39 (rfl : sv_ty 1 = some 9) dt_9 rfl (by decide +kernel) rfl f_128.2 hr_131
          obtain ⟨n_139, e_140, hr_141⟩ := iv_aload_n xm_117 xd_117_113 q0 hr_138
          have f_142 := dc_fr (j := 0) ok_133 (rfl : sv_ty 1 = some 9) dt_9 rfl
          obtain ⟨n_143, e_144, hr_145⟩ := iv_getf (j := 0) xm_117 xd_117_114 (by decide +kernel) ok_133 (rfl : sv_ty 1 = some 9) dt_9 f_142 hr_141
          obtain ⟨n_146, e_147, hr_148⟩ := iv_aload_n xm_117 xd_117_117 q0 hr_145
          have f_149 := dc_fi (j := 3) ok_133 (rfl : sv_ty 1 = some 9) dt_9 rfl
          obtain ⟨n_150, e_151, hr_152⟩ := iv_getf (j := 3) xm_117 xd_117_118 (by decide +kernel) ok_133 (rfl : sv_ty 1 = some 9) dt_9 f_149.1 hr_148
          obtain ⟨q_153, qi_154, n_155, e_156, hr_157⟩ := iv_iald xm_117 xd_117_121 ok_133 (rfl : sv_ty 2 = some 13) dt_13 (by decide) f_149.2 hr_152
          obtain ⟨n_158, e_159, hr_160⟩ := iv_bipush xm_117 xd_117_122 (by decide) hr_157
          rcases iv_icmp 148 xm_117 xd_117_124 (by decide) qi_154 (by unfold sv_I; omega) hr_160 with ⟨c_161, n_162, e_163, hr_164⟩ | ⟨c_161, n_162, e_163, hr_164⟩
          · obtain ⟨n_165, e_166, hr_167⟩ := iv_aload_n xm_117 xd_117_148 q0 hr_164
            have f_168 := dc_fr (j := 0) ok_133 (rfl : sv_ty 1 = some 9) dt_9 rfl
            obtain ⟨n_169, e_170, hr_171⟩ := iv_getf (j := 0) xm_117 xd_117_149 (by decide +kernel) ok_133 (rfl : sv_ty 1 = some 9) dt_9 f_168 hr_167
            obtain ⟨n_172, e_173, hr_174⟩ := iv_aload_n xm_117 xd_117_152 q0 hr_171
            have f_175 := dc_fi (j := 3) ok_133 (rfl : sv_ty 1 = some 9) dt_9 rfl
            obtain ⟨n_176, e_177, hr_178⟩ := iv_getf (j := 3) xm_117 xd_117_153 (by decide +kernel) ok_133 (rfl : sv_ty 1 = some 9) dt_9 f_175.1 hr_174
            obtain ⟨q_179, qi_180, n_181, e_182, hr_183⟩ := iv_iald xm_117 xd_117_156 ok_133 (rfl : sv_ty 2 = some 13) dt_13 (by decide) f_175.2 hr_178
            obtain ⟨n_184, e_185, hr_186⟩ := iv_bipush xm_117 xd_117_157 (by decide) hr_183
            rcases iv_icmp 183 xm_117 xd_117_159 (by decide) qi_180 (by unfold sv_I; omega) hr_186 with ⟨c_187, n_188, e_189, hr_190⟩ | ⟨c_187, n_188, e_189, hr_190⟩
            · obtain ⟨n_191, e_192, hr_193⟩ := iv_aload_n xm_117 xd_117_183 q0 hr_190
              obtain ⟨n_203, r_194, e_204, hc_195, hr_205⟩ := iv_call (Or.inr ⟨rfl, rfl⟩) xm_117 xd_117_184 (by decide +kernel) xm_120 rfl (by decide +kernel) hr_193
              obtain ⟨v_196, d_197, er_198, iv_199, ok_200⟩ := ds_120 _  ok_133 hc_195
              obtain ⟨_, h_202⟩ := r_194
              have er_198 : _ = none := er_198
              subst er_198
              have hr_206 : ae_exe n_203 117 (184 + 3) 0 0 lv _ h_202 = some r := hr_205
              have rr_207 := iv_return xm_117 xd_117_187 hr_206 rfl
              subst rr_207
              exact ⟨_, ⟨0 + 1, lm_117_0.mpr (Or.inl ⟨c_15, ⟨_, em_27, ⟨_, em_40, Or.inr ⟨c_59, Or.inl ⟨c_118, ⟨_, em_134, ⟨q_153, Or.inl ⟨c_161, ⟨q_179, Or.inl ⟨c_187, ⟨_, _, d_197, ⟨rfl, rfl⟩⟩⟩⟩⟩⟩⟩⟩⟩⟩⟩⟩)⟩, rfl, (by unfold sv_I; omega), ok_200⟩
            · obtain ⟨n_208, e_209, hr_210⟩ := iv_aload_n xm_117 xd_117_162 q0 hr_190
              have f_211 := dc_fr (j := 0) ok_133 (rfl : sv_ty 1 = some 9) dt_9 rfl
              obtain ⟨n_212, e_213, hr_214⟩ := iv_getf (j := 0) xm_117 xd_117_163 (by decide +kernel) ok_133 (rfl : sv_ty 1 = some 9) dt_9 f_211 hr_210
              obtain ⟨n_215, e_216, hr_217⟩ := iv_aload_n xm_117 xd_117_166 q0 hr_214
              have f_218 := dc_fi (j := 3) ok_133 (rfl : sv_ty 1 = some 9) dt_9 rfl
              obtain ⟨n_219, e_220, hr_221⟩ := iv_getf (j := 3) xm_117 xd_117_167 (by decide +kernel) ok_133 (rfl : sv_ty 1 = some 9) dt_9 f_218.1 hr_217
              obtain ⟨q_222, qi_223, n_224, e_225, hr_226⟩ := iv_iald xm_117 xd_117_170 ok_133 (rfl : sv_ty 2 = some 13) dt_13 (by decide) f_218.2 hr_221
              obtain ⟨n_227, e_228, hr_229⟩ := iv_bipush xm_117 xd_117_171 (by decide) hr_226
              rcases iv_icmp 183 xm_117 xd_117_173 (by decide) qi_223 (by unfold sv_I; omega) hr_229 with ⟨c_230, n_231, e_232, hr_233⟩ | ⟨c_230, n_231, e_232, hr_233⟩
              · obtain ⟨n_234, e_235, hr_236⟩ := iv_aload_n xm_117 xd_117_183 q0 hr_233
                obtain ⟨n_246, r_237, e_247, hc_238, hr_248⟩ := iv_call (Or.inr ⟨rfl, rfl⟩) xm_117 xd_117_184 (by decide +kernel) xm_120 rfl (by decide +kernel) hr_236
                obtain ⟨v_239, d_240, er_241, iv_242, ok_243⟩ := ds_120 _  ok_133 hc_238
                obtain ⟨_, h_245⟩ := r_237
                have er_241 : _ = none := er_241
                subst er_241
                have hr_249 : ae_exe n_246 117 (184 + 3) 0 0 lv _ h_245 = some r := hr_248
                have rr_250 := iv_return xm_117 xd_117_187 hr_249 rfl
                subst rr_250
                exact ⟨_, ⟨0 + 1, lm_117_0.mpr (Or.inl ⟨c_15, ⟨_, em_27, ⟨_, em_40, Or.inr ⟨c_59, Or.inl ⟨c_118, ⟨_, em_134, ⟨q_153, Or.inl ⟨c_161, ⟨q_179, Or.inr ⟨c_187, ⟨q_222, Or.inl ⟨c_230, ⟨_, _, d_240, ⟨rfl, rfl⟩⟩⟩⟩⟩⟩⟩⟩⟩⟩⟩⟩⟩⟩)⟩, rfl, (by unfold sv_I; omega), ok_243⟩
              · obtain ⟨n_251, e_252, hr_253⟩ := iv_aload_n xm_117 xd_117_176 q0 hr_233
                obtain ⟨n_263, r_254, e_264, hc_255, hr_265⟩ := iv_call (Or.inr ⟨rfl, rfl⟩) xm_117 xd_117_177 (by decide +kernel) xm_119 rfl (by decide +kernel) hr_253
                obtain ⟨v_256, d_257, er_258, iv_259, ok_260⟩ := ds_119 _  ok_133 hc_255
                obtain ⟨_, h_262⟩ := r_254
                have er_258 : _ = none := er_258
                subst er_258
                have hr_266 : ae_exe n_263 117 (177 + 3) 0 0 lv _ h_262 = some r := hr_265
                obtain ⟨n_267, e_268, hr_269⟩ := iv_goto 187 xm_117 xd_117_180 (by decide) hr_266
                have rr_270 := iv_return xm_117 xd_117_187 hr_269 rfl
                subst rr_270
                exact ⟨_, ⟨0 + 1, lm_117_0.mpr (Or.inl ⟨c_15, ⟨_, em_27, ⟨_, em_40, Or.inr ⟨c_59, Or.inl ⟨c_118, ⟨_, em_134, ⟨q_153, Or.inl ⟨c_161, ⟨q_179, Or.inr ⟨c_187, ⟨q_222, Or.inr ⟨c_230, ⟨_, _, d_257, ⟨rfl, rfl⟩⟩⟩⟩⟩⟩⟩⟩⟩⟩⟩⟩⟩⟩)⟩, rfl, (by unfold sv_I; omega), ok_260⟩
          · obtain ⟨n_271, e_272, hr_273⟩ := iv_aload_n xm_117 xd_117_127 q0 hr_164
            have f_274 := dc_fr (j := 0) ok_133 (rfl : sv_ty 1 = some 9) dt_9 rfl
            obtain ⟨n_275, e_276, hr_277⟩ := iv_getf (j := 0) xm_117 xd_117_128 (by decide +kernel) ok_133 (rfl : sv_ty 1 = some 9) dt_9 f_274 hr_273
            obtain ⟨n_278, e_279, hr_280⟩ := iv_aload_n xm_117 xd_117_131 q0 hr_277
            have f_281 := dc_fi (j := 3) ok_133 (rfl : sv_ty 1 = some 9) dt_9 rfl
            obtain ⟨n_282, e_283, hr_284⟩ := iv_getf (j := 3) xm_117 xd_117_132 (by decide +kernel) ok_133 (rfl : sv_ty 1 = some 9) dt_9 f_281.1 hr_280
            obtain ⟨q_285, qi_286, n_287, e_288, hr_289⟩ := iv_iald xm_117 xd_117_135 ok_133 (rfl : sv_ty 2 = some 13) dt_13 (by decide) f_281.2 hr_284
            obtain ⟨n_290, e_291, hr_292⟩ := iv_bipush xm_117 xd_117_136 (by decide) hr_289
            rcases iv_icmp 148 xm_117 xd_117_138 (by decide) qi_286 (by unfold sv_I; omega) hr_292 with ⟨c_293, n_294, e_295, hr_296⟩ | ⟨c_293, n_294, e_295, hr_296⟩
            · obtain ⟨n_297, e_298, hr_299⟩ := iv_aload_n xm_117 xd_117_148 q0 hr_296
              have f_300 := dc_fr (j := 0) ok_133 (rfl : sv_ty 1 = some 9) dt_9 rfl
              obtain ⟨n_301, e_302, hr_303⟩ := iv_getf (j := 0) xm_117 xd_117_149 (by decide +kernel) ok_133 (rfl : sv_ty 1 = some 9) dt_9 f_300 hr_299
              obtain ⟨n_304, e_305, hr_306⟩ := iv_aload_n xm_117 xd_117_152 q0 hr_303
              have f_307 := dc_fi (j := 3) ok_133 (rfl : sv_ty 1 = some 9) dt_9 rfl
              obtain ⟨n_308, e_309, hr_310⟩ := iv_getf (j := 3) xm_117 xd_117_153 (by decide +kernel) ok_133 (rfl : sv_ty 1 = some 9) dt_9 f_307.1 hr_306
              obtain ⟨q_311, qi_312, n_313, e_314, hr_315⟩ := iv_iald xm_117 xd_117_156 ok_133 (rfl : sv_ty 2 = some 13) dt_13 (by decide) f_307.2 hr_310
              obtain ⟨n_316, e_317, hr_318⟩ := iv_bipush xm_117 xd_117_157 (by decide) hr_315
              rcases iv_icmp 183 xm_117 xd_117_159 (by decide) qi_312 (by unfold sv_I; omega) hr_318 with ⟨c_319, n_320, e_321, hr_322⟩ | ⟨c_319, n_320, e_321, hr_322⟩
              · obtain ⟨n_323, e_324, hr_325⟩ := iv_aload_n xm_117 xd_117_183 q0 hr_322
                obtain ⟨n_335, r_326, e_336, hc_327, hr_337⟩ := iv_call (Or.inr ⟨rfl, rfl⟩) xm_117 xd_117_184 (by decide +kernel) xm_120 rfl (by decide +kernel) hr_325
                obtain ⟨v_328, d_329, er_330, iv_331, ok_332⟩ := ds_120 _  ok_133 hc_327
                obtain ⟨_, h_334⟩ := r_326
                have er_330 : _ = none := er_330
                subst er_330
                have hr_338 : ae_exe n_335 117 (184 + 3) 0 0 lv _ h_334 = some r := hr_337
                have rr_339 := iv_return xm_117 xd_117_187 hr_338 rfl
                subst rr_339
                exact ⟨_, ⟨0 + 1, lm_117_0.mpr (Or.inl ⟨c_15, ⟨_, em_27, ⟨_, em_40, Or.inr ⟨c_59, Or.inl ⟨c_118, ⟨_, em_134, ⟨q_153, Or.inr ⟨c_161, ⟨q_285, Or.inl ⟨c_293, ⟨q_311, Or.inl ⟨c_319, ⟨_, _, d_329, ⟨rfl, rfl⟩⟩⟩⟩⟩⟩⟩⟩⟩⟩⟩⟩⟩⟩)⟩, rfl, (by unfold sv_I; omega), ok_332⟩
              · obtain ⟨n_340, e_341, hr_342⟩ := iv_aload_n xm_117 xd_117_162 q0 hr_322
                have f_343 := dc_fr (j := 0) ok_133 (rfl : sv_ty 1 = some 9) dt_9 rfl
                obtain ⟨n_344, e_345, hr_346⟩ := iv_getf (j := 0) xm_117 xd_117_163 (by decide +kernel) ok_133 (rfl : sv_ty 1 = some 9) dt_9 f_343 hr_342
                obtain ⟨n_347, e_348, hr_349⟩ := iv_aload_n xm_117 xd_117_166 q0 hr_346
                have f_350 := dc_fi (j := 3) ok_133 (rfl : sv_ty 1 = some 9) dt_9 rfl
                obtain ⟨n_351, e_352, hr_353⟩ := iv_getf (j := 3) xm_117 xd_117_167 (by decide +kernel) ok_133 (rfl : sv_ty 1 = some 9) dt_9 f_350.1 hr_349
                obtain ⟨q_354, qi_355, n_356, e_357, hr_358⟩ := iv_iald xm_117 xd_117_170 ok_133 (rfl : sv_ty 2 = some 13) dt_13 (by decide) f_350.2 hr_353
                obtain ⟨n_359, e_360, hr_361⟩ := iv_bipush xm_117 xd_117_171 (by decide) hr_358
                rcases iv_icmp 183 xm_117 xd_117_173 (by decide) qi_355 (by unfold sv_I; omega) hr_361 with ⟨c_362, n_363, e_364, hr_365⟩ | ⟨c_362, n_363, e_364, hr_365⟩
                · obtain ⟨n_366, e_367, hr_368⟩ := iv_aload_n xm_117 xd_117_183 q0 hr_365
                  obtain ⟨n_378, r_369, e_379, hc_370, hr_380⟩ := iv_call (Or.inr ⟨rfl, rfl⟩) xm_117 xd_117_184 (by decide +kernel) xm_120 rfl (by decide +kernel) hr_368
                  obtain ⟨v_371, d_372, er_373, iv_374, ok_375⟩ := ds_120 _  ok_133 hc_370
                  obtain ⟨_, h_377⟩ := r_369
                  have er_373 : _ = none := er_373
                  subst er_373
                  have hr_381 : ae_exe n_378 117 (184 + 3) 0 0 lv _ h_377 = some r := hr_380
                  have rr_382 := iv_return xm_117 xd_117_187 hr_381 rfl
                  subst rr_382
                  exact ⟨_, ⟨0 + 1, lm_117_0.mpr (Or.inl ⟨c_15, ⟨_, em_27, ⟨_, em_40, Or.inr ⟨c_59, Or.inl ⟨c_118, ⟨_, em_134, ⟨q_153, Or.inr ⟨c_161, ⟨q_285, Or.inl ⟨c_293, ⟨q_311, Or.inr ⟨c_319, ⟨q_354, Or.inl ⟨c_362, ⟨_, _, d_372, ⟨rfl, rfl⟩⟩⟩⟩⟩⟩⟩⟩⟩⟩⟩⟩⟩⟩⟩⟩)⟩, rfl, (by unfold sv_I; omega), ok_375⟩
                · obtain ⟨n_383, e_384, hr_385⟩ := iv_aload_n xm_117 xd_117_176 q0 hr_365
                  obtain ⟨n_395, r_386, e_396, hc_387, hr_397⟩ := iv_call (Or.inr ⟨rfl, rfl⟩) xm_117 xd_117_177 (by decide +kernel) xm_119 rfl (by decide +kernel) hr_385
                  obtain ⟨v_388, d_389, er_390, iv_391, ok_392⟩ := ds_119 _  ok_133 hc_387
                  obtain ⟨_, h_394⟩ := r_386
                  have er_390 : _ = none := er_390
                  subst er_390
                  have hr_398 : ae_exe n_395 117 (177 + 3) 0 0 lv _ h_394 = some r := hr_397
                  obtain ⟨n_399, e_400, hr_401⟩ := iv_goto 187 xm_117 xd_117_180 (by decide) hr_398
                  have rr_402 := iv_return xm_117 xd_117_187 hr_401 rfl
                  subst rr_402
                  exact ⟨_, ⟨0 + 1, lm_117_0.mpr (Or.inl ⟨c_15, ⟨_, em_27, ⟨_, em_40, Or.inr ⟨c_59, Or.inl ⟨c_118, ⟨_, em_134, ⟨q_153, Or.inr ⟨c_161, ⟨q_285, Or.inl ⟨c_293, ⟨q_311, Or.inr ⟨c_319, ⟨q_354, Or.inr ⟨c_362, ⟨_, _, d_389, ⟨rfl, rfl⟩⟩⟩⟩⟩⟩⟩⟩⟩⟩⟩⟩⟩⟩⟩⟩)⟩, rfl, (by unfold sv_I; omega), ok_392⟩
            · obtain ⟨n_403, e_404, hr_405⟩ := iv_aload_n xm_117 xd_117_141 q0 hr_296
              obtain ⟨n_415, r_406, e_416, hc_407, hr_417⟩ := iv_call (Or.inr ⟨rfl, rfl⟩) xm_117 xd_117_142 (by decide +kernel) xm_118 rfl (by decide +kernel) hr_405
              obtain ⟨v_408, d_409, er_410, iv_411, ok_412⟩ := ds_118 _  ok_133 hc_407
              obtain ⟨_, h_414⟩ := r_406
              have er_410 : _ = none := er_410
              subst er_410
              have hr_418 : ae_exe n_415 117 (142 + 3) 0 0 lv _ h_414 = some r := hr_417
              obtain ⟨n_419, e_420, hr_421⟩ := iv_goto 187 xm_117 xd_117_145 (by decide) hr_418
              have rr_422 := iv_return xm_117 xd_117_187 hr_421 rfl
              subst rr_422
              exact ⟨_, ⟨0 + 1, lm_117_0.mpr (Or.inl ⟨c_15, ⟨_, em_27, ⟨_, em_40, Or.inr ⟨c_59, Or.inl ⟨c_118, ⟨_, em_134, ⟨q_153, Or.inr ⟨c_161, ⟨q_285, Or.inr ⟨c_293, ⟨_, _, d_409, ⟨rfl, rfl⟩⟩⟩⟩⟩⟩⟩⟩⟩⟩⟩⟩)⟩, rfl, (by unfold sv_I; omega), ok_412⟩
        · obtain ⟨n_423, e_424, hr_425⟩ := iv_aload_n xm_117 xd_117_84 q0 hr_121
          obtain ⟨n_426, e_427, hr_428⟩ := iv_iconst xm_117 xd_117_85 (by decide) hr_425
          obtain ⟨h_429, ok_430, em_431, n_433, e_434, hr_435⟩ := iv_puti (j := 4) (fk := 0) xm_117 xd_117_86 (by decide +kernel) ok_39 (rfl : sv_ty 1 = some 9) dt_9 rfl (by decide +kernel) rfl (by unfold sv_I; omega) hr_428
          obtain ⟨n_436, e_437, hr_438⟩ := iv_aload_n xm_117 xd_117_89 q0 hr_435
          obtain ⟨n_439, e_440, hr_441⟩ := iv_aload_n xm_117 xd_117_90 q0 hr_438
          have f_442 := dc_fi (j := 1) ok_430 (rfl : sv_ty 1 = some 9) dt_9 rfl
          obtain ⟨n_443, e_444, hr_445⟩ := iv_getf (j := 1) xm_117 xd_117_91 (by decide +kernel) ok_430 (rfl : sv_ty 1 = some 9) dt_9 f_442.1 hr_441
          obtain ⟨n_446, e_447, hr_448⟩ := iv_aload_n xm_117 xd_117_94 q0 hr_445
          have f_449 := dc_fi (j := 2) ok_430 (rfl : sv_ty 1 = some 9) dt_9 rfl
          obtain ⟨n_450, e_451, hr_452⟩ := iv_getf (j := 2) xm_117 xd_117_95 (by decide +kernel) ok_430 (rfl : sv_ty 1 = some 9) dt_9 f_449.1 hr_448
          obtain ⟨n_453, e_454, hr_455⟩ := iv_min (a := 0) (b := 0) xm_117 xd_117_98 (by decide +kernel) f_442.2 f_449.2 hr_452
          obtain ⟨h_456, ok_457, em_458, n_460, e_461, hr_462⟩ := iv_puti (j := 5) (fk := 0) xm_117 xd_117_101 (by decide +kernel) ok_430 (rfl : sv_ty 1 = some 9) dt_9 rfl (by decide +kernel) rfl (dc_ite_I f_449.2 f_442.2) hr_455
          have rr_463 := iv_return xm_117 xd_117_104 hr_462 rfl
          subst rr_463
          exact ⟨_, ⟨0 + 1, lm_117_0.mpr (Or.inl ⟨c_15, ⟨_, em_27, ⟨_, em_40, Or.inr ⟨c_59, Or.inr ⟨c_118, ⟨_, em_431, ⟨_, em_458, ⟨rfl, rfl⟩⟩⟩⟩⟩⟩⟩⟩)⟩, rfl, (by unfold sv_I; omega), ok_457⟩
    · obtain ⟨n_464, e_465, hr_466⟩ := iv_aload_n xm_117 xd_117_11 q0 hr_18
      have f_467 := dc_fr (j := 0) ok (rfl : sv_ty 1 = some 9) dt_9 rfl
      obtain ⟨n_468, e_469, hr_470⟩ := iv_getf (j := 0) xm_117 xd_117_12 (by decide +kernel) ok (rfl : sv_ty 1 = some 9) dt_9 f_467 hr_466
      obtain ⟨n_471, e_472, hr_473⟩ := iv_aload_n xm_117 xd_117_15 q0 hr_470
      have f_474 := dc_fi (j := 3) ok (rfl : sv_ty 1 = some 9) dt_9 rfl
      obtain ⟨n_475, e_476, hr_477⟩ := iv_getf (j := 3) xm_117 xd_117_16 (by decide +kernel) ok (rfl : sv_ty 1 = some 9) dt_9 f_474.1 hr_473
      obtain ⟨q_478, qi_479, n_480, e_481, hr_482⟩ := iv_iald xm_117 xd_117_19 ok (rfl : sv_ty 2 = some 13) dt_13 (by decide) f_474.2 hr_477
      obtain ⟨n_483, e_484, hr_485⟩ := iv_bipush xm_117 xd_117_20 (by decide) hr_482
      rcases iv_icmp 39 xm_117 xd_117_22 (by decide) qi_479 (by unfold sv_I; omega) hr_485 with ⟨c_486, n_487, e_488, hr_489⟩ | ⟨c_486, n_487, e_488, hr_489⟩
      · obtain ⟨n_490, e_491, hr_492⟩ := iv_aload_n xm_117 xd_117_39 q0 hr_489
        obtain ⟨n_493, e_494, hr_495⟩ := iv_dup xm_117 xd_117_40 rfl hr_492
        have f_496 := dc_fi (j := 3) ok (rfl : sv_ty 1 = some 9) dt_9 rfl
        obtain ⟨n_497, e_498, hr_499⟩ := iv_getf (j := 3) xm_117 xd_117_41 (by decide +kernel) ok (rfl : sv_ty 1 = some 9) dt_9 f_496.1 hr_495
        obtain ⟨n_500, e_501, hr_502⟩ := iv_iconst xm_117 xd_117_44 (by decide) hr_499
        obtain ⟨n_503, e_504, hr_505⟩ := iw_iadd xm_117 xd_117_45 hr_502
        obtain ⟨h_506, ok_507, em_508, n_510, e_511, hr_512⟩ := iv_puti (j := 3) (fk := 0) xm_117 xd_117_46 (by decide +kernel) ok (rfl : sv_ty 1 = some 9) dt_9 rfl (by decide +kernel) rfl (dc_w_I _) hr_505
        obtain ⟨n_513, e_514, hr_515⟩ := iv_goto 0 xm_117 xd_117_49 (by decide) hr_512
        obtain ⟨v, ⟨c, hL⟩, e1, e2, e3⟩ := ih0 _ lv h_506 _  (by omega) ok_507  q0 hr_515
        exact ⟨v, ⟨c + 1, lm_117_0.mpr (Or.inr ⟨c_15, ⟨q_478, Or.inl ⟨c_486, ⟨_, em_508, hL⟩⟩⟩⟩)⟩, e1, e2, e3⟩
      · obtain ⟨n_516, e_517, hr_518⟩ := iv_aload_n xm_117 xd_117_25 q0 hr_489
        have f_519 := dc_fr (j := 0) ok (rfl : sv_ty 1 = some 9) dt_9 rfl
        obtain ⟨n_520, e_521, hr_522⟩ := iv_getf (j := 0) xm_117 xd_117_26 (by decide +kernel) ok (rfl : sv_ty 1 = some 9) dt_9 f_519 hr_518
        obtain ⟨n_523, e_524, hr_525⟩ := iv_aload_n xm_117 xd_117_29 q0 hr_522
        have f_526 := dc_fi (j := 3) ok (rfl : sv_ty 1 = some 9) dt_9 rfl
        obtain ⟨n_527, e_528, hr_529⟩ := iv_getf (j := 3) xm_117 xd_117_30 (by decide +kernel) ok (rfl : sv_ty 1 = some 9) dt_9 f_526.1 hr_525
        obtain ⟨q_530, qi_531, n_532, e_533, hr_534⟩ := iv_iald xm_117 xd_117_33 ok (rfl : sv_ty 2 = some 13) dt_13 (by decide) f_526.2 hr_529
        obtain ⟨n_535, e_536, hr_537⟩ := iv_bipush xm_117 xd_117_34 (by decide) hr_534
        rcases iv_icmp 52 xm_117 xd_117_36 (by decide) qi_531 (by unfold sv_I; omega) hr_537 with ⟨c_538, n_539, e_540, hr_541⟩ | ⟨c_538, n_539, e_540, hr_541⟩
        · obtain ⟨n_542, e_543, hr_544⟩ := iv_aload_n xm_117 xd_117_52 q0 hr_541
          obtain ⟨n_545, e_546, hr_547⟩ := iv_iconst xm_117 xd_117_53 (by decide) hr_544
          obtain ⟨h_548, ok_549, em_550, n_552, e_553, hr_554⟩ := iv_puti (j := 7) (fk := 0) xm_117 xd_117_54 (by decide +kernel) ok (rfl : sv_ty 1 = some 9) dt_9 rfl (by decide +kernel) rfl (by unfold sv_I; omega) hr_547
          obtain ⟨n_555, e_556, hr_557⟩ := iv_aload_n xm_117 xd_117_57 q0 hr_554
          obtain ⟨n_558, e_559, hr_560⟩ := iv_iconst xm_117 xd_117_58 (by decide) hr_557
          obtain ⟨h_561, ok_562, em_563, n_565, e_566, hr_567⟩ := iv_puti (j := 6) (fk := 0) xm_117 xd_117_59 (by decide +kernel) ok_549 (rfl : sv_ty 1 = some 9) dt_9 rfl (by decide +kernel) rfl (by unfold sv_I; omega) hr_560
          obtain ⟨n_568, e_569, hr_570⟩ := iv_aload_n xm_117 xd_117_62 q0 hr_567
          have f_571 := dc_fi (j := 3) ok_562 (rfl : sv_ty 1 = some 9) dt_9 rfl
          obtain ⟨n_572, e_573, hr_574⟩ := iv_getf (j := 3) xm_117 xd_117_63 (by decide +kernel) ok_562 (rfl : sv_ty 1 = some 9) dt_9 f_571.1 hr_570
          obtain ⟨n_575, e_576, hr_577⟩ := iv_aload_n xm_117 xd_117_66 q0 hr_574
          have f_578 := dc_fi (j := 1) ok_562 (rfl : sv_ty 1 = some 9) dt_9 rfl
          obtain ⟨n_579, e_580, hr_581⟩ := iv_getf (j := 1) xm_117 xd_117_67 (by decide +kernel) ok_562 (rfl : sv_ty 1 = some 9) dt_9 f_578.1 hr_577
          rcases iv_icmp 84 xm_117 xd_117_70 (by decide) f_571.2 f_578.2 hr_581 with ⟨c_582, n_583, e_584, hr_585⟩ | ⟨c_582, n_583, e_584, hr_585⟩
          · obtain ⟨n_586, e_587, hr_588⟩ := iv_aload_n xm_117 xd_117_84 q0 hr_585
            obtain ⟨n_589, e_590, hr_591⟩ := iv_iconst xm_117 xd_117_85 (by decide) hr_588
            obtain ⟨h_592, ok_593, em_594, n_596, e_597, hr_598⟩ := iv_puti (j := 4) (fk := 0) xm_117 xd_117_86 (by decide +kernel) ok_562 (rfl : sv_ty 1 = some 9) dt_9 rfl (by decide +kernel) rfl (by unfold sv_I; omega) hr_591
            obtain ⟨n_599, e_600, hr_601⟩ := iv_aload_n xm_117 xd_117_89 q0 hr_598
            obtain ⟨n_602, e_603, hr_604⟩ := iv_aload_n xm_117 xd_117_90 q0 hr_601
            have f_605 := dc_fi (j := 1) ok_593 (rfl : sv_ty 1 = some 9) dt_9 rfl
            obtain ⟨n_606, e_607, hr_608⟩ := iv_getf (j := 1) xm_117 xd_117_91 (by decide +kernel) ok_593 (rfl : sv_ty 1 = some 9) dt_9 f_605.1 hr_604
            obtain ⟨n_609, e_610, hr_611⟩ := iv_aload_n xm_117 xd_117_94 q0 hr_608
            have f_612 := dc_fi (j := 2) ok_593 (rfl : sv_ty 1 = some 9) dt_9 rfl
            obtain ⟨n_613, e_614, hr_615⟩ := iv_getf (j := 2) xm_117 xd_117_95 (by decide +kernel) ok_593 (rfl : sv_ty 1 = some 9) dt_9 f_612.1 hr_611
            obtain ⟨n_616, e_617, hr_618⟩ := iv_min (a := 0) (b := 0) xm_117 xd_117_98 (by decide +kernel) f_605.2 f_612.2 hr_615
            obtain ⟨h_619, ok_620, em_621, n_623, e_624, hr_625⟩ := iv_puti (j := 5) (fk := 0) xm_117 xd_117_101 (by decide +kernel) ok_593 (rfl : sv_ty 1 = some 9) dt_9 rfl (by decide +kernel) rfl (dc_ite_I f_612.2 f_605.2) hr_618
            have rr_626 := iv_return xm_117 xd_117_104 hr_625 rfl
            subst rr_626
            exact ⟨_, ⟨0 + 1, lm_117_0.mpr (Or.inr ⟨c_15, ⟨q_478, Or.inr ⟨c_486, ⟨q_530, Or.inl ⟨c_538, ⟨_, em_550, ⟨_, em_563, Or.inl ⟨c_582, ⟨_, em_594, ⟨_, em_621, ⟨rfl, rfl⟩⟩⟩⟩⟩⟩⟩⟩⟩⟩⟩)⟩, rfl, (by unfold sv_I; omega), ok_620⟩
          · obtain ⟨n_627, e_628, hr_629⟩ := iv_aload_n xm_117 xd_117_73 q0 hr_585
            have f_630 := dc_fi (j := 3) ok_562 (rfl : sv_ty 1 = some 9) dt_9 rfl
            obtain ⟨n_631, e_632, hr_633⟩ := iv_getf (j := 3) xm_117 xd_117_74 (by decide +kernel) ok_562 (rfl : sv_ty 1 = some 9) dt_9 f_630.1 hr_629
            obtain ⟨n_634, e_635, hr_636⟩ := iv_aload_n xm_117 xd_117_77 q0 hr_633
            have f_637 := dc_fi (j := 2) ok_562 (rfl : sv_ty 1 = some 9) dt_9 rfl
            obtain ⟨n_638, e_639, hr_640⟩ := iv_getf (j := 2) xm_117 xd_117_78 (by decide +kernel) ok_562 (rfl : sv_ty 1 = some 9) dt_9 f_637.1 hr_636
            rcases iv_icmp 105 xm_117 xd_117_81 (by decide) f_630.2 f_637.2 hr_640 with ⟨c_641, n_642, e_643, hr_644⟩ | ⟨c_641, n_642, e_643, hr_644⟩
            · obtain ⟨n_645, e_646, hr_647⟩ := iv_aload_n xm_117 xd_117_105 q0 hr_644
              obtain ⟨n_648, e_649, hr_650⟩ := iv_aload_n xm_117 xd_117_106 q0 hr_647
              have f_651 := dc_fi (j := 3) ok_562 (rfl : sv_ty 1 = some 9) dt_9 rfl
              obtain ⟨n_652, e_653, hr_654⟩ := iv_getf (j := 3) xm_117 xd_117_107 (by decide +kernel) ok_562 (rfl : sv_ty 1 = some 9) dt_9 f_651.1 hr_650
              obtain ⟨h_655, ok_656, em_657, n_659, e_660, hr_661⟩ := iv_puti (j := 5) (fk := 0) xm_117 xd_117_110 (by decide +kernel) ok_562 (rfl : sv_ty 1 = some 9) dt_9 rfl (by decide +kernel) rfl f_651.2 hr_654
              obtain ⟨n_662, e_663, hr_664⟩ := iv_aload_n xm_117 xd_117_113 q0 hr_661
              have f_665 := dc_fr (j := 0) ok_656 (rfl : sv_ty 1 = some 9) dt_9 rfl
              obtain ⟨n_666, e_667, hr_668⟩ := iv_getf (j := 0) xm_117 xd_117_114 (by decide +kernel) ok_656 (rfl : sv_ty 1 = some 9) dt_9 f_665 hr_664
              obtain ⟨n_669, e_670, hr_671⟩ := iv_aload_n xm_117 xd_117_117 q0 hr_668
              have f_672 := dc_fi (j := 3) ok_656 (rfl : sv_ty 1 = some 9) dt_9 rfl
              obtain ⟨n_673, e_674, hr_675⟩ := iv_getf (j := 3) xm_117 xd_117_118 (by decide +kernel) ok_656 (rfl : sv_ty 1 = some 9) dt_9 f_672.1 hr_671
              obtain ⟨q_676, qi_677, n_678, e_679, hr_680⟩ := iv_iald xm_117 xd_117_121 ok_656 (rfl : sv_ty 2 = some 13) dt_13 (by decide) f_672.2 hr_675
              obtain ⟨n_681, e_682, hr_683⟩ := iv_bipush xm_117 xd_117_122 (by decide) hr_680
              rcases iv_icmp 148 xm_117 xd_117_124 (by decide) qi_677 (by unfold sv_I; omega) hr_683 with ⟨c_684, n_685, e_686, hr_687⟩ | ⟨c_684, n_685, e_686, hr_687⟩
              · obtain ⟨n_688, e_689, hr_690⟩ := iv_aload_n xm_117 xd_117_148 q0 hr_687
                have f_691 := dc_fr (j := 0) ok_656 (rfl : sv_ty 1 = some 9) dt_9 rfl
                obtain ⟨n_692, e_693, hr_694⟩ := iv_getf (j := 0) xm_117 xd_117_149 (by decide +kernel) ok_656 (rfl : sv_ty 1 = some 9) dt_9 f_691 hr_690
                obtain ⟨n_695, e_696, hr_697⟩ := iv_aload_n xm_117 xd_117_152 q0 hr_694
                have f_698 := dc_fi (j := 3) ok_656 (rfl : sv_ty 1 = some 9) dt_9 rfl
                obtain ⟨n_699, e_700, hr_701⟩ := iv_getf (j := 3) xm_117 xd_117_153 (by decide +kernel) ok_656 (rfl : sv_ty 1 = some 9) dt_9 f_698.1 hr_697
                obtain ⟨q_702, qi_703, n_704, e_705, hr_706⟩ := iv_iald xm_117 xd_117_156 ok_656 (rfl : sv_ty 2 = some 13) dt_13 (by decide) f_698.2 hr_701
                obtain ⟨n_707, e_708, hr_709⟩ := iv_bipush xm_117 xd_117_157 (by decide) hr_706
                rcases iv_icmp 183 xm_117 xd_117_159 (by decide) qi_703 (by unfold sv_I; omega) hr_709 with ⟨c_710, n_711, e_712, hr_713⟩ | ⟨c_710, n_711, e_712, hr_713⟩
                · obtain ⟨n_714, e_715, hr_716⟩ := iv_aload_n xm_117 xd_117_183 q0 hr_713
                  obtain ⟨n_726, r_717, e_727, hc_718, hr_728⟩ := iv_call (Or.inr ⟨rfl, rfl⟩) xm_117 xd_117_184 (by decide +kernel) xm_120 rfl (by decide +kernel) hr_716
                  obtain ⟨v_719, d_720, er_721, iv_722, ok_723⟩ := ds_120 _  ok_656 hc_718
                  obtain ⟨_, h_725⟩ := r_717
                  have er_721 : _ = none := er_721
                  subst er_721
                  have hr_729 : ae_exe n_726 117 (184 + 3) 0 0 lv _ h_725 = some r := hr_728
                  have rr_730 := iv_return xm_117 xd_117_187 hr_729 rfl
                  subst rr_730
                  exact ⟨_, ⟨0 + 1, lm_117_0.mpr (Or.inr ⟨c_15, ⟨q_478, Or.inr ⟨c_486, ⟨q_530, Or.inl ⟨c_538, ⟨_, em_550, ⟨_, em_563, Or.inr ⟨c_582, Or.inl ⟨c_641, ⟨_, em_657, ⟨q_676, Or.inl ⟨c_684, ⟨q_702, Or.inl ⟨c_710, ⟨_, _, d_720, ⟨rfl, rfl⟩⟩⟩⟩⟩⟩⟩⟩⟩⟩⟩⟩⟩⟩⟩⟩)⟩, rfl, (by unfold sv_I; omega), ok_723⟩
                · obtain ⟨n_731, e_732, hr_733⟩ := iv_aload_n xm_117 xd_117_162 q0 hr_713
                  have f_734 := dc_fr (j := 0) ok_656 (rfl : sv_ty 1 = some 9) dt_9 rfl
                  obtain ⟨n_735, e_736, hr_737⟩ := iv_getf (j := 0) xm_117 xd_117_163 (by decide +kernel) ok_656 (rfl : sv_ty 1 = some 9) dt_9 f_734 hr_733
                  obtain ⟨n_738, e_739, hr_740⟩ := iv_aload_n xm_117 xd_117_166 q0 hr_737
                  have f_741 := dc_fi (j := 3) ok_656 (rfl : sv_ty 1 = some 9) dt_9 rfl
                  obtain ⟨n_742, e_743, hr_744⟩ := iv_getf (j := 3) xm_117 xd_117_167 (by decide +kernel) ok_656 (rfl : sv_ty 1 = some 9) dt_9 f_741.1 hr_740
                  obtain ⟨q_745, qi_746, n_747, e_748, hr_749⟩ := iv_iald xm_117 xd_117_170 ok_656 (rfl : sv_ty 2 = some 13) dt_13 (by decide) f_741.2 hr_744
                  obtain ⟨n_750, e_751, hr_752⟩ := iv_bipush xm_117 xd_117_171 (by decide) hr_749
                  rcases iv_icmp 183 xm_117 xd_117_173 (by decide) qi_746 (by unfold sv_I; omega) hr_752 with ⟨c_753, n_754, e_755, hr_756⟩ | ⟨c_753, n_754, e_755, hr_756⟩
                  · obtain ⟨n_757, e_758, hr_759⟩ := iv_aload_n xm_117 xd_117_183 q0 hr_756
                    obtain ⟨n_769, r_760, e_770, hc_761, hr_771⟩ := iv_call (Or.inr ⟨rfl, rfl⟩) xm_117 xd_117_184 (by decide +kernel) xm_120 rfl (by decide +kernel) hr_759
                    obtain ⟨v_762, d_763, er_764, iv_765, ok_766⟩ := ds_120 _  ok_656 hc_761
                    obtain ⟨_, h_768⟩ := r_760
                    have er_764 : _ = none := er_764
                    subst er_764
                    have hr_772 : ae_exe n_769 117 (184 + 3) 0 0 lv _ h_768 = some r := hr_771
                    have rr_773 := iv_return xm_117 xd_117_187 hr_772 rfl
                    subst rr_773
                    exact ⟨_, ⟨0 + 1, lm_117_0.mpr (Or.inr ⟨c_15, ⟨q_478, Or.inr ⟨c_486, ⟨q_530, Or.inl ⟨c_538, ⟨_, em_550, ⟨_, em_563, Or.inr ⟨c_582, Or.inl ⟨c_641, ⟨_, em_657, ⟨q_676, Or.inl ⟨c_684, ⟨q_702, Or.inr ⟨c_710, ⟨q_745, Or.inl ⟨c_753, ⟨_, _, d_763, ⟨rfl, rfl⟩⟩⟩⟩⟩⟩⟩⟩⟩⟩⟩⟩⟩⟩⟩⟩⟩⟩)⟩, rfl, (by unfold sv_I; omega), ok_766⟩
                  · obtain ⟨n_774, e_775, hr_776⟩ := iv_aload_n xm_117 xd_117_176 q0 hr_756
                    obtain ⟨n_786, r_777, e_787, hc_778, hr_788⟩ := iv_call (Or.inr ⟨rfl, rfl⟩) xm_117 xd_117_177 (by decide +kernel) xm_119 rfl (by decide +kernel) hr_776
                    obtain ⟨v_779, d_780, er_781, iv_782, ok_783⟩ := ds_119 _  ok_656 hc_778
                    obtain ⟨_, h_785⟩ := r_777
                    have er_781 : _ = none := er_781
                    subst er_781
                    have hr_789 : ae_exe n_786 117 (177 + 3) 0 0 lv _ h_785 = some r := hr_788
                    obtain ⟨n_790, e_791, hr_792⟩ := iv_goto 187 xm_117 xd_117_180 (by decide) hr_789
                    have rr_793 := iv_return xm_117 xd_117_187 hr_792 rfl
                    subst rr_793
                    exact ⟨_, ⟨0 + 1, lm_117_0.mpr (Or.inr ⟨c_15, ⟨q_478, Or.inr ⟨c_486, ⟨q_530, Or.inl ⟨c_538, ⟨_, em_550, ⟨_, em_563, Or.inr ⟨c_582, Or.inl ⟨c_641, ⟨_, em_657, ⟨q_676, Or.inl ⟨c_684, ⟨q_702, Or.inr ⟨c_710, ⟨q_745, Or.inr ⟨c_753, ⟨_, _, d_780, ⟨rfl, rfl⟩⟩⟩⟩⟩⟩⟩⟩⟩⟩⟩⟩⟩⟩⟩⟩⟩⟩)⟩, rfl, (by unfold sv_I; omega), ok_783⟩
              · obtain ⟨n_794, e_795, hr_796⟩ := iv_aload_n xm_117 xd_117_127 q0 hr_687
                have f_797 := dc_fr (j := 0) ok_656 (rfl : sv_ty 1 = some 9) dt_9 rfl
                obtain ⟨n_798, e_799, hr_800⟩ := iv_getf (j := 0) xm_117 xd_117_128 (by decide +kernel) ok_656 (rfl : sv_ty 1 = some 9) dt_9 f_797 hr_796
                obtain ⟨n_801, e_802, hr_803⟩ := iv_aload_n xm_117 xd_117_131 q0 hr_800
                have f_804 := dc_fi (j := 3) ok_656 (rfl : sv_ty 1 = some 9) dt_9 rfl
                obtain ⟨n_805, e_806, hr_807⟩ := iv_getf (j := 3) xm_117 xd_117_132 (by decide +kernel) ok_656 (rfl : sv_ty 1 = some 9) dt_9 f_804.1 hr_803
                obtain ⟨q_808, qi_809, n_810, e_811, hr_812⟩ := iv_iald xm_117 xd_117_135 ok_656 (rfl : sv_ty 2 = some 13) dt_13 (by decide) f_804.2 hr_807
                obtain ⟨n_813, e_814, hr_815⟩ := iv_bipush xm_117 xd_117_136 (by decide) hr_812
                rcases iv_icmp 148 xm_117 xd_117_138 (by decide) qi_809 (by unfold sv_I; omega) hr_815 with ⟨c_816, n_817, e_818, hr_819⟩ | ⟨c_816, n_817, e_818, hr_819⟩
                · obtain ⟨n_820, e_821, hr_822⟩ := iv_aload_n xm_117 xd_117_148 q0 hr_819
                  have f_823 := dc_fr (j := 0) ok_656 (rfl : sv_ty 1 = some 9) dt_9 rfl
                  obtain ⟨n_824, e_825, hr_826⟩ := iv_getf (j := 0) xm_117 xd_117_149 (by decide +kernel) ok_656 (rfl : sv_ty 1 = some 9) dt_9 f_823 hr_822
                  obtain ⟨n_827, e_828, hr_829⟩ := iv_aload_n xm_117 xd_117_152 q0 hr_826
                  have f_830 := dc_fi (j := 3) ok_656 (rfl : sv_ty 1 = some 9) dt_9 rfl
                  obtain ⟨n_831, e_832, hr_833⟩ := iv_getf (j := 3) xm_117 xd_117_153 (by decide +kernel) ok_656 (rfl : sv_ty 1 = some 9) dt_9 f_830.1 hr_829
                  obtain ⟨q_834, qi_835, n_836, e_837, hr_838⟩ := iv_iald xm_117 xd_117_156 ok_656 (rfl : sv_ty 2 = some 13) dt_13 (by decide) f_830.2 hr_833
                  obtain ⟨n_839, e_840, hr_841⟩ := iv_bipush xm_117 xd_117_157 (by decide) hr_838
                  rcases iv_icmp 183 xm_117 xd_117_159 (by decide) qi_835 (by unfold sv_I; omega) hr_841 with ⟨c_842, n_843, e_844, hr_845⟩ | ⟨c_842, n_843, e_844, hr_845⟩
                  · obtain ⟨n_846, e_847, hr_848⟩ := iv_aload_n xm_117 xd_117_183 q0 hr_845
                    obtain ⟨n_858, r_849, e_859, hc_850, hr_860⟩ := iv_call (Or.inr ⟨rfl, rfl⟩) xm_117 xd_117_184 (by decide +kernel) xm_120 rfl (by decide +kernel) hr_848
                    obtain ⟨v_851, d_852, er_853, iv_854, ok_855⟩ := ds_120 _  ok_656 hc_850
                    obtain ⟨_, h_857⟩ := r_849
                    have er_853 : _ = none := er_853
                    subst er_853
                    have hr_861 : ae_exe n_858 117 (184 + 3) 0 0 lv _ h_857 = some r := hr_860
                    have rr_862 := iv_return xm_117 xd_117_187 hr_861 rfl
                    subst rr_862
                    exact ⟨_, ⟨0 + 1, lm_117_0.mpr (Or.inr ⟨c_15, ⟨q_478, Or.inr ⟨c_486, ⟨q_530, Or.inl ⟨c_538, ⟨_, em_550, ⟨_, em_563, Or.inr ⟨c_582, Or.inl ⟨c_641, ⟨_, em_657, ⟨q_676, Or.inr ⟨c_684, ⟨q_808, Or.inl ⟨c_816, ⟨q_834, Or.inl ⟨c_842, ⟨_, _, d_852, ⟨rfl, rfl⟩⟩⟩⟩⟩⟩⟩⟩⟩⟩⟩⟩⟩⟩⟩⟩⟩⟩)⟩, rfl, (by unfold sv_I; omega), ok_855⟩
                  · obtain ⟨n_863, e_864, hr_865⟩ := iv_aload_n xm_117 xd_117_162 q0 hr_845
                    have f_866 := dc_fr (j := 0) ok_656 (rfl : sv_ty 1 = some 9) dt_9 rfl
                    obtain ⟨n_867, e_868, hr_869⟩ := iv_getf (j := 0) xm_117 xd_117_163 (by decide +kernel) ok_656 (rfl : sv_ty 1 = some 9) dt_9 f_866 hr_865
                    obtain ⟨n_870, e_871, hr_872⟩ := iv_aload_n xm_117 xd_117_166 q0 hr_869
                    have f_873 := dc_fi (j := 3) ok_656 (rfl : sv_ty 1 = some 9) dt_9 rfl
                    obtain ⟨n_874, e_875, hr_876⟩ := iv_getf (j := 3) xm_117 xd_117_167 (by decide +kernel) ok_656 (rfl : sv_ty 1 = some 9) dt_9 f_873.1 hr_872
                    obtain ⟨q_877, qi_878, n_879, e_880, hr_881⟩ := iv_iald xm_117 xd_117_170 ok_656 (rfl : sv_ty 2 = some 13) dt_13 (by decide) f_873.2 hr_876
                    obtain ⟨n_882, e_883, hr_884⟩ := iv_bipush xm_117 xd_117_171 (by decide) hr_881
                    rcases iv_icmp 183 xm_117 xd_117_173 (by decide) qi_878 (by unfold sv_I; omega) hr_884 with ⟨c_885, n_886, e_887, hr_888⟩ | ⟨c_885, n_886, e_887, hr_888⟩
                    · obtain ⟨n_889, e_890, hr_891⟩ := iv_aload_n xm_117 xd_117_183 q0 hr_888
                      obtain ⟨n_901, r_892, e_902, hc_893, hr_903⟩ := iv_call (Or.inr ⟨rfl, rfl⟩) xm_117 xd_117_184 (by decide +kernel) xm_120 rfl (by decide +kernel) hr_891
                      obtain ⟨v_894, d_895, er_896, iv_897, ok_898⟩ := ds_120 _  ok_656 hc_893
                      obtain ⟨_, h_900⟩ := r_892
                      have er_896 : _ = none := er_896
                      subst er_896
                      have hr_904 : ae_exe n_901 117 (184 + 3) 0 0 lv _ h_900 = some r := hr_903
                      have rr_905 := iv_return xm_117 xd_117_187 hr_904 rfl
                      subst rr_905
                      exact ⟨_, ⟨0 + 1, lm_117_0.mpr (Or.inr ⟨c_15, ⟨q_478, Or.inr ⟨c_486, ⟨q_530, Or.inl ⟨c_538, ⟨_, em_550, ⟨_, em_563, Or.inr ⟨c_582, Or.inl ⟨c_641, ⟨_, em_657, ⟨q_676, Or.inr ⟨c_684, ⟨q_808, Or.inl ⟨c_816, ⟨q_834, Or.inr ⟨c_842, ⟨q_877, Or.inl ⟨c_885, ⟨_, _, d_895, ⟨rfl, rfl⟩⟩⟩⟩⟩⟩⟩⟩⟩⟩⟩⟩⟩⟩⟩⟩⟩⟩⟩⟩)⟩, rfl, (by unfold sv_I; omega), ok_898⟩
                    · obtain ⟨n_906, e_907, hr_908⟩ := iv_aload_n xm_117 xd_117_176 q0 hr_888
                      obtain ⟨n_918, r_909, e_919, hc_910, hr_920⟩ := iv_call (Or.inr ⟨rfl, rfl⟩) xm_117 xd_117_177 (by decide +kernel) xm_119 rfl (by decide +kernel) hr_908
                      obtain ⟨v_911, d_912, er_913, iv_914, ok_915⟩ := ds_119 _  ok_656 hc_910
                      obtain ⟨_, h_917⟩ := r_909
                      have er_913 : _ = none := er_913
                      subst er_913
                      have hr_921 : ae_exe n_918 117 (177 + 3) 0 0 lv _ h_917 = some r := hr_920
                      obtain ⟨n_922, e_923, hr_924⟩ := iv_goto 187 xm_117 xd_117_180 (by decide) hr_921
                      have rr_925 := iv_return xm_117 xd_117_187 hr_924 rfl
                      subst rr_925
                      exact ⟨_, ⟨0 + 1, lm_117_0.mpr (Or.inr ⟨c_15, ⟨q_478, Or.inr ⟨c_486, ⟨q_530, Or.inl ⟨c_538, ⟨_, em_550, ⟨_, em_563, Or.inr ⟨c_582, Or.inl ⟨c_641, ⟨_, em_657, ⟨q_676, Or.inr ⟨c_684, ⟨q_808, Or.inl ⟨c_816, ⟨q_834, Or.inr ⟨c_842, ⟨q_877, Or.inr ⟨c_885, ⟨_, _, d_912, ⟨rfl, rfl⟩⟩⟩⟩⟩⟩⟩⟩⟩⟩⟩⟩⟩⟩⟩⟩⟩⟩⟩⟩)⟩, rfl, (by unfold sv_I; omega), ok_915⟩
                · obtain ⟨n_926, e_927, hr_928⟩ := iv_aload_n xm_117 xd_117_141 q0 hr_819
                  obtain ⟨n_938, r_929, e_939, hc_930, hr_940⟩ := iv_call (Or.inr ⟨rfl, rfl⟩) xm_117 xd_117_142 (by decide +kernel) xm_118 rfl (by decide +kernel) hr_928
                  obtain ⟨v_931, d_932, er_933, iv_934, ok_935⟩ := ds_118 _  ok_656 hc_930
                  obtain ⟨_, h_937⟩ := r_929
                  have er_933 : _ = none := er_933
                  subst er_933
                  have hr_941 : ae_exe n_938 117 (142 + 3) 0 0 lv _ h_937 = some r := hr_940
                  obtain ⟨n_942, e_943, hr_944⟩ := iv_goto 187 xm_117 xd_117_145 (by decide) hr_941
                  have rr_945 := iv_return xm_117 xd_117_187 hr_944 rfl
                  subst rr_945
                  exact ⟨_, ⟨0 + 1, lm_117_0.mpr (Or.inr ⟨c_15, ⟨q_478, Or.inr ⟨c_486, ⟨q_530, Or.inl ⟨c_538, ⟨_, em_550, ⟨_, em_563, Or.inr ⟨c_582, Or.inl ⟨c_641, ⟨_, em_657, ⟨q_676, Or.inr ⟨c_684, ⟨q_808, Or.inr ⟨c_816, ⟨_, _, d_932, ⟨rfl, rfl⟩⟩⟩⟩⟩⟩⟩⟩⟩⟩⟩⟩⟩⟩⟩⟩)⟩, rfl, (by unfold sv_I; omega), ok_935⟩
            · obtain ⟨n_946, e_947, hr_948⟩ := iv_aload_n xm_117 xd_117_84 q0 hr_644
              obtain ⟨n_949, e_950, hr_951⟩ := iv_iconst xm_117 xd_117_85 (by decide) hr_948
              obtain ⟨h_952, ok_953, em_954, n_956, e_957, hr_958⟩ := iv_puti (j := 4) (fk := 0) xm_117 xd_117_86 (by decide +kernel) ok_562 (rfl : sv_ty 1 = some 9) dt_9 rfl (by decide +kernel) rfl (by unfold sv_I; omega) hr_951
              obtain ⟨n_959, e_960, hr_961⟩ := iv_aload_n xm_117 xd_117_89 q0 hr_958
              obtain ⟨n_962, e_963, hr_964⟩ := iv_aload_n xm_117 xd_117_90 q0 hr_961
              have f_965 := dc_fi (j := 1) ok_953 (rfl : sv_ty 1 = some 9) dt_9 rfl
              obtain ⟨n_966, e_967, hr_968⟩ := iv_getf (j := 1) xm_117 xd_117_91 (by decide +kernel) ok_953 (rfl : sv_ty 1 = some 9) dt_9 f_965.1 hr_964
              obtain ⟨n_969, e_970, hr_971⟩ := iv_aload_n xm_117 xd_117_94 q0 hr_968
              have f_972 := dc_fi (j := 2) ok_953 (rfl : sv_ty 1 = some 9) dt_9 rfl
              obtain ⟨n_973, e_974, hr_975⟩ := iv_getf (j := 2) xm_117 xd_117_95 (by decide +kernel) ok_953 (rfl : sv_ty 1 = some 9) dt_9 f_972.1 hr_971
              obtain ⟨n_976, e_977, hr_978⟩ := iv_min (a := 0) (b := 0) xm_117 xd_117_98 (by decide +kernel) f_965.2 f_972.2 hr_975
              obtain ⟨h_979, ok_980, em_981, n_983, e_984, hr_985⟩ := iv_puti (j := 5) (fk := 0) xm_117 xd_117_101 (by decide +kernel) ok_953 (rfl : sv_ty 1 = some 9) dt_9 rfl (by decide +kernel) rfl (dc_ite_I f_972.2 f_965.2) hr_978
              have rr_986 := iv_return xm_117 xd_117_104 hr_985 rfl
              subst rr_986
              exact ⟨_, ⟨0 + 1, lm_117_0.mpr (Or.inr ⟨c_15, ⟨q_478, Or.inr ⟨c_486, ⟨q_530, Or.inl ⟨c_538, ⟨_, em_550, ⟨_, em_563, Or.inr ⟨c_582, Or.inr ⟨c_641, ⟨_, em_954, ⟨_, em_981, ⟨rfl, rfl⟩⟩⟩⟩⟩⟩⟩⟩⟩⟩⟩⟩)⟩, rfl, (by unfold sv_I; omega), ok_980⟩
        · obtain ⟨n_987, e_988, hr_989⟩ := iv_aload_n xm_117 xd_117_39 q0 hr_541
          obtain ⟨n_990, e_991, hr_992⟩ := iv_dup xm_117 xd_117_40 rfl hr_989
          have f_993 := dc_fi (j := 3) ok (rfl : sv_ty 1 = some 9) dt_9 rfl
          obtain ⟨n_994, e_995, hr_996⟩ := iv_getf (j := 3) xm_117 xd_117_41 (by decide +kernel) ok (rfl : sv_ty 1 = some 9) dt_9 f_993.1 hr_992
          obtain ⟨n_997, e_998, hr_999⟩ := iv_iconst xm_117 xd_117_44 (by decide) hr_996
          obtain ⟨n_1000, e_1001, hr_1002⟩ := iw_iadd xm_117 xd_117_45 hr_999
          obtain ⟨h_1003, ok_1004, em_1005, n_1007, e_1008, hr_1009⟩ := iv_puti (j := 3) (fk := 0) xm_117 xd_117_46 (by decide +kernel) ok (rfl : sv_ty 1 = some 9) dt_9 rfl (by decide +kernel) rfl (dc_w_I _) hr_1002
          obtain ⟨n_1010, e_1011, hr_1012⟩ := iv_goto 0 xm_117 xd_117_49 (by decide) hr_1009
          obtain ⟨v, ⟨c, hL⟩, e1, e2, e3⟩ := ih0 _ lv h_1003 _  (by omega) ok_1004  q0 hr_1012
          exact ⟨v, ⟨c + 1, lm_117_0.mpr (Or.inr ⟨c_15, ⟨q_478, Or.inr ⟨c_486, ⟨q_530, Or.inr ⟨c_538, ⟨_, em_1005, hL⟩⟩⟩⟩⟩⟩)⟩, e1, e2, e3⟩
abbrev D_117  (m : dc_M) (v : Int) (m' : dc_M) : Prop := ∃ c, LM_117  c 0 m v m'
theorem ds_117 (n : Nat)  {h : ae_H} {r : ae_R} (ok : dc_ok h)  (hr : ae_exe n 117 0 0 0 (ae_args [wk_r 1] 0) [] h = some r) : ∃ v, D_117  (dc_m h) v (dc_m r.2) ∧ r.1 = none ∧ sv_I v ∧ dc_ok r.2 := by
  have q0 : ae_lk (ae_args [wk_r 1] 0) 0 = some (wk_r 1) := rfl
  obtain ⟨v, ⟨c, hL⟩, e1, e2, e3⟩ := (dl_117  _) _ (ae_args [wk_r 1] 0) h _  (Nat.le_refl _) ok  q0 hr
  exact ⟨v, ⟨_, hL⟩, e1, e2, e3⟩
/-! method 125 -/
theorem xm_125 : ae_m 125 = some (wk_M 125) := rfl
theorem xd_125_0 : decode (wk_M 125).2.2.1 0 = .ok (.aload_n 0, 1) := zd_by (by decide +kernel)
theorem xd_125_1 : decode (wk_M 125).2.2.1 1 = .ok (.getfield 46, 3) := zd_by (by decide +kernel)
theorem xd_125_4 : decode (wk_M 125).2.2.1 4 = .ok (.iconst 3, 1) := zd_by (by decide +kernel)
theorem xd_125_5 : decode (wk_M 125).2.2.1 5 = .ok (.if_icmp .ne 11, 3) := zd_by (by decide +kernel)
theorem xd_125_8 : decode (wk_M 125).2.2.1 8 = .ok (.aload_n 0, 1) := zd_by (by decide +kernel)
theorem xd_125_9 : decode (wk_M 125).2.2.1 9 = .ok (.getfield 40, 3) := zd_by (by decide +kernel)
theorem xd_125_12 : decode (wk_M 125).2.2.1 12 = .ok (.iload_n 1, 1) := zd_by (by decide +kernel)
theorem xd_125_13 : decode (wk_M 125).2.2.1 13 = .ok (.if_icmp .eq 13, 3) := zd_by (by decide +kernel)
theorem xd_125_16 : decode (wk_M 125).2.2.1 16 = .ok (.aload_n 0, 1) := zd_by (by decide +kernel)
theorem xd_125_17 : decode (wk_M 125).2.2.1 17 = .ok (.iconst 1, 1) := zd_by (by decide +kernel)
theorem xd_125_18 : decode (wk_M 125).2.2.1 18 = .ok (.aload_n 0, 1) := zd_by (by decide +kernel)
theorem xd_125_19 : decode (wk_M 125).2.2.1 19 = .ok (.getfield 55, 3) := zd_by (by decide +kernel)
theorem xd_125_22 : decode (wk_M 125).2.2.1 22 = .ok (.invokevirtual 80, 3) := zd_by (by decide +kernel)
theorem xd_125_25 : decode (wk_M 125).2.2.1 25 = .ok (.ireturn, 1) := zd_by (by decide +kernel)
theorem xd_125_26 : decode (wk_M 125).2.2.1 26 = .ok (.aload_n 0, 1) := zd_by (by decide +kernel)
theorem xd_125_27 : decode (wk_M 125).2.2.1 27 = .ok (.invokevirtual 37, 3) := zd_by (by decide +kernel)
theorem xd_125_30 : decode (wk_M 125).2.2.1 30 = .ok (.iconst 1, 1) := zd_by (by decide +kernel)
theorem xd_125_31 : decode (wk_M 125).2.2.1 31 = .ok (.ireturn, 1) := zd_by (by decide +kernel)
abbrev D_125 (x0 : Int) (m : dc_M) (v : Int) (m' : dc_M) : Prop := ((((m 1 4) : Int) ≠ 3 ∧ (∃ v_30 m_35, D_123 1 ((m 1 5)) m v_30 m_35 ∧ (v = v_30 ∧ m' = m_35))) ∨ (¬ (((m 1 4) : Int) ≠ 3) ∧ (((((m 1 7) : Int) = x0 ∧ (∃ v_61 m_66, D_117 m v_61 m_66 ∧ (v = 1 ∧ m' = m_66))) ∨ (¬ (((m 1 7) : Int) = x0) ∧ (∃ v_91 m_96, D_123 1 ((m 1 5)) m v_91 m_96 ∧ (v = v_91 ∧ m' = m_96)))))))
theorem ds_125 (n : Nat) (x0 : Int) {h : ae_H} {r : ae_R} (ok : dc_ok h) (ix0 : sv_I x0) (hr : ae_exe n 125 0 0 0 (ae_args [wk_r 1, wk_i x0] 0) [] h = some r) : ∃ v, D_125 x0 (dc_m h) v (dc_m r.2) ∧ r.1 = some (wk_i v) ∧ sv_I v ∧ dc_ok r.2 := by
  have q0 : ae_lk (ae_args [wk_r 1, wk_i x0] 0) 0 = some (wk_r 1) := rfl
  have q1 : ae_lk (ae_args [wk_r 1, wk_i x0] 0) 1 = some (wk_i x0) := rfl
  obtain ⟨n_1, e_2, hr_3⟩ := iv_aload_n xm_125 xd_125_0 q0 hr
  have f_4 := dc_fi (j := 4) ok (rfl : sv_ty 1 = some 9) dt_9 rfl
  obtain ⟨n_5, e_6, hr_7⟩ := iv_getf (j := 4) xm_125 xd_125_1 (by decide +kernel) ok (rfl : sv_ty 1 = some 9) dt_9 f_4.1 hr_3
  obtain ⟨n_8, e_9, hr_10⟩ := iv_iconst xm_125 xd_125_4 (by decide) hr_7
  rcases iv_icmp 16 xm_125 xd_125_5 (by decide) f_4.2 (by unfold sv_I; omega) hr_10 with ⟨c_11, n_12, e_13, hr_14⟩ | ⟨c_11, n_12, e_13, hr_14⟩
  · obtain ⟨n_15, e_16, hr_17⟩ := iv_aload_n xm_125 xd_125_16 q0 hr_14
    obtain ⟨n_18, e_19, hr_20⟩ := iv_iconst xm_125 xd_125_17 (by decide) hr_17
    obtain ⟨n_21, e_22, hr_23⟩ := iv_aload_n xm_125 xd_125_18 q0 hr_20
    have f_24 := dc_fi (j := 5) ok (rfl : sv_ty 1 = some 9) dt_9 rfl
    obtain ⟨n_25, e_26, hr_27⟩ := iv_getf (j := 5) xm_125 xd_125_19 (by decide +kernel) ok (rfl : sv_ty 1 = some 9) dt_9 f_24.1 hr_23
    obtain ⟨n_37, r_28, e_38, hc_29, hr_39⟩ := iv_call (Or.inr ⟨rfl, rfl⟩) xm_125 xd_125_22 (by decide +kernel) xm_123 rfl (by decide +kernel) hr_27
    obtain ⟨v_30, d_31, er_32, iv_33, ok_34⟩ := ds_123 _ _ _ ok (by unfold sv_I; omega) f_24.2 hc_29
    obtain ⟨_, h_36⟩ := r_28
    have er_32 : _ = some (wk_i v_30) := er_32
    subst er_32
    have hr_40 : ae_exe n_37 125 (22 + 3) 0 0 (ae_args [wk_r 1, wk_i x0] 0) _ h_36 = some r := hr_39
    have rr_41 := iv_ireturn xm_125 xd_125_25 hr_40
    subst rr_41
    exact ⟨_, Or.inl ⟨c_11, ⟨_, _, d_31, ⟨rfl, rfl⟩⟩⟩, rfl, iv_33, ok_34⟩
  · obtain ⟨n_42, e_43, hr_44⟩ := iv_aload_n xm_125 xd_125_8 q0 hr_14
    have f_45 := dc_fi (j := 7) ok (rfl : sv_ty 1 = some 9) dt_9 rfl
    obtain ⟨n_46, e_47, hr_48⟩ := iv_getf (j := 7) xm_125 xd_125_9 (by decide +kernel) ok (rfl : sv_ty 1 = some 9) dt_9 f_45.1 hr_44
    obtain ⟨n_49, e_50, hr_51⟩ := iv_iload_n xm_125 xd_125_12 q1 hr_48
    rcases iv_icmp 26 xm_125 xd_125_13 (by decide) f_45.2 ix0 hr_51 with ⟨c_52, n_53, e_54, hr_55⟩ | ⟨c_52, n_53, e_54, hr_55⟩
    · obtain ⟨n_56, e_57, hr_58⟩ := iv_aload_n xm_125 xd_125_26 q0 hr_55
      obtain ⟨n_68, r_59, e_69, hc_60, hr_70⟩ := iv_call (Or.inr ⟨rfl, rfl⟩) xm_125 xd_125_27 (by decide +kernel) xm_117 rfl (by decide +kernel) hr_58
      obtain ⟨v_61, d_62, er_63, iv_64, ok_65⟩ := ds_117 _  ok hc_60
      obtain ⟨_, h_67⟩ := r_59
      have er_63 : _ = none := er_63
      subst er_63
      have hr_71 : ae_exe n_68 125 (27 + 3) 0 0 (ae_args [wk_r 1, wk_i x0] 0) _ h_67 = some r := hr_70
      obtain ⟨n_72, e_73, hr_74⟩ := iv_iconst xm_125 xd_125_30 (by decide) hr_71
      have rr_75 := iv_ireturn xm_125 xd_125_31 hr_74
      subst rr_75
      exact ⟨_, Or.inr ⟨c_11, Or.inl ⟨c_52, ⟨_, _, d_62, ⟨rfl, rfl⟩⟩⟩⟩, rfl, (by unfold sv_I; omega), ok_65⟩
    · obtain ⟨n_76, e_77, hr_78⟩ := iv_aload_n xm_125 xd_125_16 q0 hr_55
      obtain ⟨n_79, e_80, hr_81⟩ := iv_iconst xm_125 xd_125_17 (by decide) hr_78
      obtain ⟨n_82, e_83, hr_84⟩ := iv_aload_n xm_125 xd_125_18 q0 hr_81
      have f_85 := dc_fi (j := 5) ok (rfl : sv_ty 1 = some 9) dt_9 rfl
      obtain ⟨n_86, e_87, hr_88⟩ := iv_getf (j := 5) xm_125 xd_125_19 (by decide +kernel) ok (rfl : sv_ty 1 = some 9) dt_9 f_85.1 hr_84
      obtain ⟨n_98, r_89, e_99, hc_90, hr_100⟩ := iv_call (Or.inr ⟨rfl, rfl⟩) xm_125 xd_125_22 (by decide +kernel) xm_123 rfl (by decide +kernel) hr_88
      obtain ⟨v_91, d_92, er_93, iv_94, ok_95⟩ := ds_123 _ _ _ ok (by unfold sv_I; omega) f_85.2 hc_90
      obtain ⟨_, h_97⟩ := r_89
      have er_93 : _ = some (wk_i v_91) := er_93
      subst er_93
      have hr_101 : ae_exe n_98 125 (22 + 3) 0 0 (ae_args [wk_r 1, wk_i x0] 0) _ h_97 = some r := hr_100
      have rr_102 := iv_ireturn xm_125 xd_125_25 hr_101
      subst rr_102
      exact ⟨_, Or.inr ⟨c_11, Or.inr ⟨c_52, ⟨_, _, d_92, ⟨rfl, rfl⟩⟩⟩⟩, rfl, iv_94, ok_95⟩
/-! method 126 -/
theorem xm_126 : ae_m 126 = some (wk_M 126) := rfl
theorem xd_126_0 : decode (wk_M 126).2.2.1 0 = .ok (.aload_n 0, 1) := zd_by (by decide +kernel)
theorem xd_126_1 : decode (wk_M 126).2.2.1 1 = .ok (.getfield 46, 3) := zd_by (by decide +kernel)
theorem xd_126_4 : decode (wk_M 126).2.2.1 4 = .ok (.iconst 2, 1) := zd_by (by decide +kernel)
theorem xd_126_5 : decode (wk_M 126).2.2.1 5 = .ok (.if_icmp .eq 15, 3) := zd_by (by decide +kernel)
theorem xd_126_8 : decode (wk_M 126).2.2.1 8 = .ok (.aload_n 0, 1) := zd_by (by decide +kernel)
theorem xd_126_9 : decode (wk_M 126).2.2.1 9 = .ok (.iconst 1, 1) := zd_by (by decide +kernel)
theorem xd_126_10 : decode (wk_M 126).2.2.1 10 = .ok (.aload_n 0, 1) := zd_by (by decide +kernel)
theorem xd_126_11 : decode (wk_M 126).2.2.1 11 = .ok (.getfield 55, 3) := zd_by (by decide +kernel)
theorem xd_126_14 : decode (wk_M 126).2.2.1 14 = .ok (.invokevirtual 80, 3) := zd_by (by decide +kernel)
theorem xd_126_17 : decode (wk_M 126).2.2.1 17 = .ok (.pop, 1) := zd_by (by decide +kernel)
theorem xd_126_18 : decode (wk_M 126).2.2.1 18 = .ok (.iconst 0, 1) := zd_by (by decide +kernel)
theorem xd_126_19 : decode (wk_M 126).2.2.1 19 = .ok (.ireturn, 1) := zd_by (by decide +kernel)
theorem xd_126_20 : decode (wk_M 126).2.2.1 20 = .ok (.aload_n 0, 1) := zd_by (by decide +kernel)
theorem xd_126_21 : decode (wk_M 126).2.2.1 21 = .ok (.getfield 40, 3) := zd_by (by decide +kernel)
theorem xd_126_24 : decode (wk_M 126).2.2.1 24 = .ok (.iload_n 1, 1) := zd_by (by decide +kernel)
theorem xd_126_25 : decode (wk_M 126).2.2.1 25 = .ok (.if_icmp .lt 11, 3) := zd_by (by decide +kernel)
theorem xd_126_28 : decode (wk_M 126).2.2.1 28 = .ok (.aload_n 0, 1) := zd_by (by decide +kernel)
theorem xd_126_29 : decode (wk_M 126).2.2.1 29 = .ok (.getfield 40, 3) := zd_by (by decide +kernel)
theorem xd_126_32 : decode (wk_M 126).2.2.1 32 = .ok (.iload_n 2, 1) := zd_by (by decide +kernel)
theorem xd_126_33 : decode (wk_M 126).2.2.1 33 = .ok (.if_icmp .le 15, 3) := zd_by (by decide +kernel)
theorem xd_126_36 : decode (wk_M 126).2.2.1 36 = .ok (.aload_n 0, 1) := zd_by (by decide +kernel)
theorem xd_126_37 : decode (wk_M 126).2.2.1 37 = .ok (.iconst 2, 1) := zd_by (by decide +kernel)
theorem xd_126_38 : decode (wk_M 126).2.2.1 38 = .ok (.aload_n 0, 1) := zd_by (by decide +kernel)
theorem xd_126_39 : decode (wk_M 126).2.2.1 39 = .ok (.getfield 55, 3) := zd_by (by decide +kernel)
theorem xd_126_42 : decode (wk_M 126).2.2.1 42 = .ok (.invokevirtual 80, 3) := zd_by (by decide +kernel)
theorem xd_126_45 : decode (wk_M 126).2.2.1 45 = .ok (.pop, 1) := zd_by (by decide +kernel)
theorem xd_126_46 : decode (wk_M 126).2.2.1 46 = .ok (.iconst 0, 1) := zd_by (by decide +kernel)
theorem xd_126_47 : decode (wk_M 126).2.2.1 47 = .ok (.ireturn, 1) := zd_by (by decide +kernel)
theorem xd_126_48 : decode (wk_M 126).2.2.1 48 = .ok (.aload_n 0, 1) := zd_by (by decide +kernel)
theorem xd_126_49 : decode (wk_M 126).2.2.1 49 = .ok (.getfield 40, 3) := zd_by (by decide +kernel)
theorem xd_126_52 : decode (wk_M 126).2.2.1 52 = .ok (.istore_n 3, 1) := zd_by (by decide +kernel)
theorem xd_126_53 : decode (wk_M 126).2.2.1 53 = .ok (.aload_n 0, 1) := zd_by (by decide +kernel)
theorem xd_126_54 : decode (wk_M 126).2.2.1 54 = .ok (.invokevirtual 37, 3) := zd_by (by decide +kernel)
theorem xd_126_57 : decode (wk_M 126).2.2.1 57 = .ok (.iload_n 3, 1) := zd_by (by decide +kernel)
theorem xd_126_58 : decode (wk_M 126).2.2.1 58 = .ok (.ireturn, 1) := zd_by (by decide +kernel)
abbrev D_126 (x0 : Int) (x1 : Int) (m : dc_M) (v : Int) (m' : dc_M) : Prop := ((((m 1 4) : Int) = 2 ∧ (((((m 1 7) : Int) < x0 ∧ (∃ v_44 m_49, D_123 2 ((m 1 5)) m v_44 m_49 ∧ (v = 0 ∧ m' = m_49))) ∨ (¬ (((m 1 7) : Int) < x0) ∧ (((((m 1 7) : Int) ≤ x1 ∧ (∃ v_97 m_102, D_117 m v_97 m_102 ∧ (v = (m 1 7) ∧ m' = m_102))) ∨ (¬ (((m 1 7) : Int) ≤ x1) ∧ (∃ v_127 m_132, D_123 2 ((m 1 5)) m v_127 m_132 ∧ (v = 0 ∧ m' = m_132))))))))) ∨ (¬ (((m 1 4) : Int) = 2) ∧ (∃ v_160 m_165, D_123 1 ((m 1 5)) m v_160 m_165 ∧ (v = 0 ∧ m' = m_165))))
theorem ds_126 (n : Nat) (x0 : Int) (x1 : Int) {h : ae_H} {r : ae_R} (ok : dc_ok h) (ix0 : sv_I x0) (ix1 : sv_I x1) (hr : ae_exe n 126 0 0 0 (ae_args [wk_r 1, wk_i x0, wk_i x1] 0) [] h = some r) : ∃ v, D_126 x0 x1 (dc_m h) v (dc_m r.2) ∧ r.1 = some (wk_i v) ∧ sv_I v ∧ dc_ok r.2 := by
  have q0 : ae_lk (ae_args [wk_r 1, wk_i x0, wk_i x1] 0) 0 = some (wk_r 1) := rfl
  have q1 : ae_lk (ae_args [wk_r 1, wk_i x0, wk_i x1] 0) 1 = some (wk_i x0) := rfl
  have q2 : ae_lk (ae_args [wk_r 1, wk_i x0, wk_i x1] 0) 2 = some (wk_i x1) := rfl
  obtain ⟨n_1, e_2, hr_3⟩ := iv_aload_n xm_126 xd_126_0 q0 hr
  have f_4 := dc_fi (j := 4) ok (rfl : sv_ty 1 = some 9) dt_9 rfl
  obtain ⟨n_5, e_6, hr_7⟩ := iv_getf (j := 4) xm_126 xd_126_1 (by decide +kernel) ok (rfl : sv_ty 1 = some 9) dt_9 f_4.1 hr_3
  obtain ⟨n_8, e_9, hr_10⟩ := iv_iconst xm_126 xd_126_4 (by decide) hr_7
  rcases iv_icmp 20 xm_126 xd_126_5 (by decide) f_4.2 (by unfold sv_I; omega) hr_10 with ⟨c_11, n_12, e_13, hr_14⟩ | ⟨c_11, n_12, e_13, hr_14⟩
  · obtain ⟨n_15, e_16, hr_17⟩ := iv_aload_n xm_126 xd_126_20 q0 hr_14
    have f_18 := dc_fi (j := 7) ok (rfl : sv_ty 1 = some 9) dt_9 rfl
    obtain ⟨n_19, e_20, hr_21⟩ := iv_getf (j := 7) xm_126 xd_126_21 (by decide +kernel) ok (rfl : sv_ty 1 = some 9) dt_9 f_18.1 hr_17
    obtain ⟨n_22, e_23, hr_24⟩ := iv_iload_n xm_126 xd_126_24 q1 hr_21
    rcases iv_icmp 36 xm_126 xd_126_25 (by decide) f_18.2 ix0 hr_24 with ⟨c_25, n_26, e_27, hr_28⟩ | ⟨c_25, n_26, e_27, hr_28⟩
    · obtain ⟨n_29, e_30, hr_31⟩ := iv_aload_n xm_126 xd_126_36 q0 hr_28
      obtain ⟨n_32, e_33, hr_34⟩ := iv_iconst xm_126 xd_126_37 (by decide) hr_31
      obtain ⟨n_35, e_36, hr_37⟩ := iv_aload_n xm_126 xd_126_38 q0 hr_34
      have f_38 := dc_fi (j := 5) ok (rfl : sv_ty 1 = some 9) dt_9 rfl
      obtain ⟨n_39, e_40, hr_41⟩ := iv_getf (j := 5) xm_126 xd_126_39 (by decide +kernel) ok (rfl : sv_ty 1 = some 9) dt_9 f_38.1 hr_37
      obtain ⟨n_51, r_42, e_52, hc_43, hr_53⟩ := iv_call (Or.inr ⟨rfl, rfl⟩) xm_126 xd_126_42 (by decide +kernel) xm_123 rfl (by decide +kernel) hr_41
      obtain ⟨v_44, d_45, er_46, iv_47, ok_48⟩ := ds_123 _ _ _ ok (by unfold sv_I; omega) f_38.2 hc_43
      obtain ⟨_, h_50⟩ := r_42
      have er_46 : _ = some (wk_i v_44) := er_46
      subst er_46
      have hr_54 : ae_exe n_51 126 (42 + 3) 0 0 (ae_args [wk_r 1, wk_i x0, wk_i x1] 0) _ h_50 = some r := hr_53
      obtain ⟨n_55, e_56, hr_57⟩ := iv_pop xm_126 xd_126_45 rfl hr_54
      obtain ⟨n_58, e_59, hr_60⟩ := iv_iconst xm_126 xd_126_46 (by decide) hr_57
      have rr_61 := iv_ireturn xm_126 xd_126_47 hr_60
      subst rr_61
      exact ⟨_, Or.inl ⟨c_11, Or.inl ⟨c_25, ⟨_, _, d_45, ⟨rfl, rfl⟩⟩⟩⟩, rfl, (by unfold sv_I; omega), ok_48⟩
    · obtain ⟨n_62, e_63, hr_64⟩ := iv_aload_n xm_126 xd_126_28 q0 hr_28
      have f_65 := dc_fi (j := 7) ok (rfl : sv_ty 1 = some 9) dt_9 rfl
      obtain ⟨n_66, e_67, hr_68⟩ := iv_getf (j := 7) xm_126 xd_126_29 (by decide +kernel) ok (rfl : sv_ty 1 = some 9) dt_9 f_65.1 hr_64
      obtain ⟨n_69, e_70, hr_71⟩ := iv_iload_n xm_126 xd_126_32 q2 hr_68
      rcases iv_icmp 48 xm_126 xd_126_33 (by decide) f_65.2 ix1 hr_71 with ⟨c_72, n_73, e_74, hr_75⟩ | ⟨c_72, n_73, e_74, hr_75⟩
      · obtain ⟨n_76, e_77, hr_78⟩ := iv_aload_n xm_126 xd_126_48 q0 hr_75
        have f_79 := dc_fi (j := 7) ok (rfl : sv_ty 1 = some 9) dt_9 rfl
        obtain ⟨n_80, e_81, hr_82⟩ := iv_getf (j := 7) xm_126 xd_126_49 (by decide +kernel) ok (rfl : sv_ty 1 = some 9) dt_9 f_79.1 hr_78
        obtain ⟨lv_84, sl_83, n_85, e_86, hr_87⟩ := iv_istore_n xm_126 xd_126_52 (by decide +kernel) hr_82
        have l_88 := sl_83.2 0 _ q0 (by decide) (Or.inl rfl)
        have l_89 := sl_83.2 1 _ q1 (by decide) (Or.inl rfl)
        have l_90 := sl_83.2 2 _ q2 (by decide) (Or.inl rfl)
        have l_91 := sl_83.1
        obtain ⟨n_92, e_93, hr_94⟩ := iv_aload_n xm_126 xd_126_53 l_88 hr_87
        obtain ⟨n_104, r_95, e_105, hc_96, hr_106⟩ := iv_call (Or.inr ⟨rfl, rfl⟩) xm_126 xd_126_54 (by decide +kernel) xm_117 rfl (by decide +kernel) hr_94
        obtain ⟨v_97, d_98, er_99, iv_100, ok_101⟩ := ds_117 _  ok hc_96
        obtain ⟨_, h_103⟩ := r_95
        have er_99 : _ = none := er_99
        subst er_99
        have hr_107 : ae_exe n_104 126 (54 + 3) 0 0 lv_84 _ h_103 = some r := hr_106
        obtain ⟨n_108, e_109, hr_110⟩ := iv_iload_n xm_126 xd_126_57 l_91 hr_107
        have rr_111 := iv_ireturn xm_126 xd_126_58 hr_110
        subst rr_111
        exact ⟨_, Or.inl ⟨c_11, Or.inr ⟨c_25, Or.inl ⟨c_72, ⟨_, _, d_98, ⟨rfl, rfl⟩⟩⟩⟩⟩, rfl, f_79.2, ok_101⟩
      · obtain ⟨n_112, e_113, hr_114⟩ := iv_aload_n xm_126 xd_126_36 q0 hr_75
        obtain ⟨n_115, e_116, hr_117⟩ := iv_iconst xm_126 xd_126_37 (by decide) hr_114
        obtain ⟨n_118, e_119, hr_120⟩ := iv_aload_n xm_126 xd_126_38 q0 hr_117
        have f_121 := dc_fi (j := 5) ok (rfl : sv_ty 1 = some 9) dt_9 rfl
        obtain ⟨n_122, e_123, hr_124⟩ := iv_getf (j := 5) xm_126 xd_126_39 (by decide +kernel) ok (rfl : sv_ty 1 = some 9) dt_9 f_121.1 hr_120
        obtain ⟨n_134, r_125, e_135, hc_126, hr_136⟩ := iv_call (Or.inr ⟨rfl, rfl⟩) xm_126 xd_126_42 (by decide +kernel) xm_123 rfl (by decide +kernel) hr_124
        obtain ⟨v_127, d_128, er_129, iv_130, ok_131⟩ := ds_123 _ _ _ ok (by unfold sv_I; omega) f_121.2 hc_126
        obtain ⟨_, h_133⟩ := r_125
        have er_129 : _ = some (wk_i v_127) := er_129
        subst er_129
        have hr_137 : ae_exe n_134 126 (42 + 3) 0 0 (ae_args [wk_r 1, wk_i x0, wk_i x1] 0) _ h_133 = some r := hr_136
        obtain ⟨n_138, e_139, hr_140⟩ := iv_pop xm_126 xd_126_45 rfl hr_137
        obtain ⟨n_141, e_142, hr_143⟩ := iv_iconst xm_126 xd_126_46 (by decide) hr_140
        have rr_144 := iv_ireturn xm_126 xd_126_47 hr_143
        subst rr_144
        exact ⟨_, Or.inl ⟨c_11, Or.inr ⟨c_25, Or.inr ⟨c_72, ⟨_, _, d_128, ⟨rfl, rfl⟩⟩⟩⟩⟩, rfl, (by unfold sv_I; omega), ok_131⟩
  · obtain ⟨n_145, e_146, hr_147⟩ := iv_aload_n xm_126 xd_126_8 q0 hr_14
    obtain ⟨n_148, e_149, hr_150⟩ := iv_iconst xm_126 xd_126_9 (by decide) hr_147
    obtain ⟨n_151, e_152, hr_153⟩ := iv_aload_n xm_126 xd_126_10 q0 hr_150
    have f_154 := dc_fi (j := 5) ok (rfl : sv_ty 1 = some 9) dt_9 rfl
    obtain ⟨n_155, e_156, hr_157⟩ := iv_getf (j := 5) xm_126 xd_126_11 (by decide +kernel) ok (rfl : sv_ty 1 = some 9) dt_9 f_154.1 hr_153
    obtain ⟨n_167, r_158, e_168, hc_159, hr_169⟩ := iv_call (Or.inr ⟨rfl, rfl⟩) xm_126 xd_126_14 (by decide +kernel) xm_123 rfl (by decide +kernel) hr_157
    obtain ⟨v_160, d_161, er_162, iv_163, ok_164⟩ := ds_123 _ _ _ ok (by unfold sv_I; omega) f_154.2 hc_159
    obtain ⟨_, h_166⟩ := r_158
    have er_162 : _ = some (wk_i v_160) := er_162
    subst er_162
    have hr_170 : ae_exe n_167 126 (14 + 3) 0 0 (ae_args [wk_r 1, wk_i x0, wk_i x1] 0) _ h_166 = some r := hr_169
    obtain ⟨n_171, e_172, hr_173⟩ := iv_pop xm_126 xd_126_17 rfl hr_170
    obtain ⟨n_174, e_175, hr_176⟩ := iv_iconst xm_126 xd_126_18 (by decide) hr_173
    have rr_177 := iv_ireturn xm_126 xd_126_19 hr_176
    subst rr_177
    exact ⟨_, Or.inr ⟨c_11, ⟨_, _, d_161, ⟨rfl, rfl⟩⟩⟩, rfl, (by unfold sv_I; omega), ok_164⟩
/-! method 116 -/
theorem xm_116 : ae_m 116 = some (wk_M 116) := rfl
theorem xd_116_0 : decode (wk_M 116).2.2.1 0 = .ok (.aload_n 0, 1) := zd_by (by decide +kernel)
theorem xd_116_1 : decode (wk_M 116).2.2.1 1 = .ok (.iload_n 1, 1) := zd_by (by decide +kernel)
theorem xd_116_2 : decode (wk_M 116).2.2.1 2 = .ok (.putfield 25, 3) := zd_by (by decide +kernel)
theorem xd_116_5 : decode (wk_M 116).2.2.1 5 = .ok (.aload_n 0, 1) := zd_by (by decide +kernel)
theorem xd_116_6 : decode (wk_M 116).2.2.1 6 = .ok (.iconst 0, 1) := zd_by (by decide +kernel)
theorem xd_116_7 : decode (wk_M 116).2.2.1 7 = .ok (.putfield 28, 3) := zd_by (by decide +kernel)
theorem xd_116_10 : decode (wk_M 116).2.2.1 10 = .ok (.aload_n 0, 1) := zd_by (by decide +kernel)
theorem xd_116_11 : decode (wk_M 116).2.2.1 11 = .ok (.iconst 0, 1) := zd_by (by decide +kernel)
theorem xd_116_12 : decode (wk_M 116).2.2.1 12 = .ok (.putfield 31, 3) := zd_by (by decide +kernel)
theorem xd_116_15 : decode (wk_M 116).2.2.1 15 = .ok (.aload_n 0, 1) := zd_by (by decide +kernel)
theorem xd_116_16 : decode (wk_M 116).2.2.1 16 = .ok (.iconst 0, 1) := zd_by (by decide +kernel)
theorem xd_116_17 : decode (wk_M 116).2.2.1 17 = .ok (.putfield 34, 3) := zd_by (by decide +kernel)
theorem xd_116_20 : decode (wk_M 116).2.2.1 20 = .ok (.aload_n 0, 1) := zd_by (by decide +kernel)
theorem xd_116_21 : decode (wk_M 116).2.2.1 21 = .ok (.invokevirtual 37, 3) := zd_by (by decide +kernel)
theorem xd_116_24 : decode (wk_M 116).2.2.1 24 = .ok (.return_, 1) := zd_by (by decide +kernel)
abbrev D_116 (x0 : Int) (m : dc_M) (v : Int) (m' : dc_M) : Prop := ∃ m_10, m_10 = dc_up m 1 2 x0 ∧ (∃ m_23, m_23 = dc_up m_10 1 3 0 ∧ (∃ m_36, m_36 = dc_up m_23 1 8 0 ∧ (∃ m_49, m_49 = dc_up m_36 1 9 0 ∧ (∃ v_58 m_63, D_117 m_49 v_58 m_63 ∧ (v = 0 ∧ m' = m_63)))))
theorem ds_116 (n : Nat) (x0 : Int) {h : ae_H} {r : ae_R} (ok : dc_ok h) (ix0 : sv_I x0) (hr : ae_exe n 116 0 0 0 (ae_args [wk_r 1, wk_i x0] 0) [] h = some r) : ∃ v, D_116 x0 (dc_m h) v (dc_m r.2) ∧ r.1 = none ∧ sv_I v ∧ dc_ok r.2 := by
  have q0 : ae_lk (ae_args [wk_r 1, wk_i x0] 0) 0 = some (wk_r 1) := rfl
  have q1 : ae_lk (ae_args [wk_r 1, wk_i x0] 0) 1 = some (wk_i x0) := rfl
  obtain ⟨n_1, e_2, hr_3⟩ := iv_aload_n xm_116 xd_116_0 q0 hr
  obtain ⟨n_4, e_5, hr_6⟩ := iv_iload_n xm_116 xd_116_1 q1 hr_3
  obtain ⟨h_7, ok_8, em_9, n_11, e_12, hr_13⟩ := iv_puti (j := 2) (fk := 0) xm_116 xd_116_2 (by decide +kernel) ok (rfl : sv_ty 1 = some 9) dt_9 rfl (by decide +kernel) rfl ix0 hr_6
  obtain ⟨n_14, e_15, hr_16⟩ := iv_aload_n xm_116 xd_116_5 q0 hr_13
  obtain ⟨n_17, e_18, hr_19⟩ := iv_iconst xm_116 xd_116_6 (by decide) hr_16
  obtain ⟨h_20, ok_21, em_22, n_24, e_25, hr_26⟩ := iv_puti (j := 3) (fk := 0) xm_116 xd_116_7 (by decide +kernel) ok_8 (rfl : sv_ty 1 = some 9) dt_9 rfl (by decide +kernel) rfl (by unfold sv_I; omega) hr_19
  obtain ⟨n_27, e_28, hr_29⟩ := iv_aload_n xm_116 xd_116_10 q0 hr_26
  obtain ⟨n_30, e_31, hr_32⟩ := iv_iconst xm_116 xd_116_11 (by decide) hr_29
  obtain ⟨h_33, ok_34, em_35, n_37, e_38, hr_39⟩ := iv_puti (j := 8) (fk := 0) xm_116 xd_116_12 (by decide +kernel) ok_21 (rfl : sv_ty 1 = some 9) dt_9 rfl (by decide +kernel) rfl (by unfold sv_I; omega) hr_32
  obtain ⟨n_40, e_41, hr_42⟩ := iv_aload_n xm_116 xd_116_15 q0 hr_39
  obtain ⟨n_43, e_44, hr_45⟩ := iv_iconst xm_116 xd_116_16 (by decide) hr_42
  obtain ⟨h_46, ok_47, em_48, n_50, e_51, hr_52⟩ := iv_puti (j := 9) (fk := 0) xm_116 xd_116_17 (by decide +kernel) ok_34 (rfl : sv_ty 1 = some 9) dt_9 rfl (by decide +kernel) rfl (by unfold sv_I; omega) hr_45
  obtain ⟨n_53, e_54, hr_55⟩ := iv_aload_n xm_116 xd_116_20 q0 hr_52
  obtain ⟨n_65, r_56, e_66, hc_57, hr_67⟩ := iv_call (Or.inr ⟨rfl, rfl⟩) xm_116 xd_116_21 (by decide +kernel) xm_117 rfl (by decide +kernel) hr_55
  obtain ⟨v_58, d_59, er_60, iv_61, ok_62⟩ := ds_117 _  ok_47 hc_57
  obtain ⟨_, h_64⟩ := r_56
  have er_60 : _ = none := er_60
  subst er_60
  have hr_68 : ae_exe n_65 116 (21 + 3) 0 0 (ae_args [wk_r 1, wk_i x0] 0) _ h_64 = some r := hr_67
  have rr_69 := iv_return xm_116 xd_116_24 hr_68 rfl
  subst rr_69
  exact ⟨_, ⟨_, em_9, ⟨_, em_22, ⟨_, em_35, ⟨_, em_48, ⟨_, _, d_59, ⟨rfl, rfl⟩⟩⟩⟩⟩⟩, rfl, (by unfold sv_I; omega), ok_62⟩
/-! method 122 -/
theorem xm_122 : ae_m 122 = some (wk_M 122) := rfl
theorem xd_122_0 : decode (wk_M 122).2.2.1 0 = .ok (.iconst 0, 1) := zd_by (by decide +kernel)
theorem xd_122_1 : decode (wk_M 122).2.2.1 1 = .ok (.istore_n 3, 1) := zd_by (by decide +kernel)
theorem xd_122_2 : decode (wk_M 122).2.2.1 2 = .ok (.iload_n 3, 1) := zd_by (by decide +kernel)
theorem xd_122_3 : decode (wk_M 122).2.2.1 3 = .ok (.aload_n 0, 1) := zd_by (by decide +kernel)
theorem xd_122_4 : decode (wk_M 122).2.2.1 4 = .ok (.getfield 43, 3) := zd_by (by decide +kernel)
theorem xd_122_7 : decode (wk_M 122).2.2.1 7 = .ok (.if_icmp .ge 42, 3) := zd_by (by decide +kernel)
theorem xd_122_10 : decode (wk_M 122).2.2.1 10 = .ok (.iload_n 2, 1) := zd_by (by decide +kernel)
theorem xd_122_11 : decode (wk_M 122).2.2.1 11 = .ok (.iload_n 3, 1) := zd_by (by decide +kernel)
theorem xd_122_12 : decode (wk_M 122).2.2.1 12 = .ok (.iadd, 1) := zd_by (by decide +kernel)
theorem xd_122_13 : decode (wk_M 122).2.2.1 13 = .ok (.aload_n 1, 1) := zd_by (by decide +kernel)
theorem xd_122_14 : decode (wk_M 122).2.2.1 14 = .ok (.invokevirtual 67, 3) := zd_by (by decide +kernel)
theorem xd_122_17 : decode (wk_M 122).2.2.1 17 = .ok (.if_icmp .ge 24, 3) := zd_by (by decide +kernel)
theorem xd_122_20 : decode (wk_M 122).2.2.1 20 = .ok (.aload_n 1, 1) := zd_by (by decide +kernel)
theorem xd_122_21 : decode (wk_M 122).2.2.1 21 = .ok (.iload_n 2, 1) := zd_by (by decide +kernel)
theorem xd_122_22 : decode (wk_M 122).2.2.1 22 = .ok (.iload_n 3, 1) := zd_by (by decide +kernel)
theorem xd_122_23 : decode (wk_M 122).2.2.1 23 = .ok (.iadd, 1) := zd_by (by decide +kernel)
theorem xd_122_24 : decode (wk_M 122).2.2.1 24 = .ok (.invokevirtual 76, 3) := zd_by (by decide +kernel)
theorem xd_122_27 : decode (wk_M 122).2.2.1 27 = .ok (.aload_n 0, 1) := zd_by (by decide +kernel)
theorem xd_122_28 : decode (wk_M 122).2.2.1 28 = .ok (.getfield 11, 3) := zd_by (by decide +kernel)
theorem xd_122_31 : decode (wk_M 122).2.2.1 31 = .ok (.aload_n 0, 1) := zd_by (by decide +kernel)
theorem xd_122_32 : decode (wk_M 122).2.2.1 32 = .ok (.getfield 55, 3) := zd_by (by decide +kernel)
theorem xd_122_35 : decode (wk_M 122).2.2.1 35 = .ok (.iload_n 3, 1) := zd_by (by decide +kernel)
theorem xd_122_36 : decode (wk_M 122).2.2.1 36 = .ok (.iadd, 1) := zd_by (by decide +kernel)
theorem xd_122_37 : decode (wk_M 122).2.2.1 37 = .ok (.iaload, 1) := zd_by (by decide +kernel)
theorem xd_122_38 : decode (wk_M 122).2.2.1 38 = .ok (.if_icmp .eq 5, 3) := zd_by (by decide +kernel)
theorem xd_122_41 : decode (wk_M 122).2.2.1 41 = .ok (.iconst 0, 1) := zd_by (by decide +kernel)
theorem xd_122_42 : decode (wk_M 122).2.2.1 42 = .ok (.ireturn, 1) := zd_by (by decide +kernel)
theorem xd_122_43 : decode (wk_M 122).2.2.1 43 = .ok (.iinc 3 1, 3) := zd_by (by decide +kernel)
theorem xd_122_46 : decode (wk_M 122).2.2.1 46 = .ok (.goto (-44), 3) := zd_by (by decide +kernel)
theorem xd_122_49 : decode (wk_M 122).2.2.1 49 = .ok (.iconst 1, 1) := zd_by (by decide +kernel)
theorem xd_122_50 : decode (wk_M 122).2.2.1 50 = .ok (.ireturn, 1) := zd_by (by decide +kernel)
def LM_122 (s0 : Nat) (x1 : Int) : Nat → Nat → Int → dc_M → Int → dc_M → Prop
  | 0, _, _, _, _, _ => False
  | c + 1, tag, l3, m, v, m' => match tag with
    | _ => (((l3 : Int) ≥ (m 1 6) ∧ (v = 1 ∧ m' = m)) ∨ (¬ ((l3 : Int) ≥ (m 1 6)) ∧ (((((dc_w (x1 + l3)) : Int) ≥ ((dc_xs s0).length : Int) ∧ (v = 0 ∧ m' = m)) ∨ (¬ (((dc_w (x1 + l3)) : Int) ≥ ((dc_xs s0).length : Int)) ∧ ((0 ≤ ((dc_w (x1 + l3)) : Int) ∧ ((dc_w (x1 + l3)) : Int) < (dc_xs s0).length) ∧ ((0 ≤ ((dc_w ((m 1 5) + l3)) : Int) ∧ ((dc_w ((m 1 5) + l3)) : Int) < 740) ∧ (((((sv_g ((dc_xs s0).getD ((dc_w (x1 + l3)) : Int).toNat 0)) : Int) = (m 2 (dc_w ((m 1 5) + l3))) ∧ (LM_122 s0 x1 c 2 (dc_w (l3 + 1)) m v m')) ∨ (¬ (((sv_g ((dc_xs s0).getD ((dc_w (x1 + l3)) : Int).toNat 0)) : Int) = (m 2 (dc_w ((m 1 5) + l3)))) ∧ (v = 0 ∧ m' = m)))))))))))
theorem lm_122_2 {s0 : Nat} {x1 : Int} {c : Nat} {l3 : Int} {m : dc_M} {v : Int} {m' : dc_M} : LM_122 s0 x1 (c + 1) 2 l3 m v m' ↔ (((l3 : Int) ≥ (m 1 6) ∧ (v = 1 ∧ m' = m)) ∨ (¬ ((l3 : Int) ≥ (m 1 6)) ∧ (((((dc_w (x1 + l3)) : Int) ≥ ((dc_xs s0).length : Int) ∧ (v = 0 ∧ m' = m)) ∨ (¬ (((dc_w (x1 + l3)) : Int) ≥ ((dc_xs s0).length : Int)) ∧ ((0 ≤ ((dc_w (x1 + l3)) : Int) ∧ ((dc_w (x1 + l3)) : Int) < (dc_xs s0).length) ∧ ((0 ≤ ((dc_w ((m 1 5) + l3)) : Int) ∧ ((dc_w ((m 1 5) + l3)) : Int) < 740) ∧ (((((sv_g ((dc_xs s0).getD ((dc_w (x1 + l3)) : Int).toNat 0)) : Int) = (m 2 (dc_w ((m 1 5) + l3))) ∧ (LM_122 s0 x1 c 2 (dc_w (l3 + 1)) m v m')) ∨ (¬ (((sv_g ((dc_xs s0).getD ((dc_w (x1 + l3)) : Int).toNat 0)) : Int) = (m 2 (dc_w ((m 1 5) + l3)))) ∧ (v = 0 ∧ m' = m))))))))))) := Iff.rfl
theorem dl_122 {s0 : Nat} {x1 : Int} (is0 : 259 ≤ s0 ∧ s0 < 265) (ix1 : sv_I x1) : ∀ N : Nat, (∀ (n : Nat) (lv : ae_L) (h : ae_H) (r : ae_R) (l3 : Int), n ≤ N → dc_ok h → sv_I l3 → ae_lk lv 0 = some (wk_r 1) → ae_lk lv 1 = some (wk_r s0) → ae_lk lv 2 = some (wk_i x1) → ae_lk lv 3 = some (wk_i l3) → ae_exe n 122 2 0 0 lv [] h = some r → ∃ v, (∃ c, LM_122 s0 x1 c 2 l3 (dc_m h) v (dc_m r.2)) ∧ r.1 = some (wk_i v) ∧ sv_I v ∧ dc_ok r.2) := by
  intro N
  induction N with
  | zero =>
    exact fun n lv h r l3 hn ok il3 q0 q1 q2 q3 hr => by
      have e : n = 0 := by omega
      subst e
      cases hr
  | succ N ih =>
    have ih0 := ih
    intro n lv h r l3 hn ok il3 q0 q1 q2 q3 hr
    obtain ⟨n_1, e_2, hr_3⟩ := iv_iload_n xm_122 xd_122_2 q3 hr
    obtain ⟨n_4, e_5, hr_6⟩ := iv_aload_n xm_122 xd_122_3 q0 hr_3
    have f_7 := dc_fi (j := 6) ok (rfl : sv_ty 1 = some 9) dt_9 rfl
    obtain ⟨n_8, e_9, hr_10⟩ := iv_getf (j := 6) xm_122 xd_122_4 (by decide +kernel) ok (rfl : sv_ty 1 = some 9) dt_9 f_7.1 hr_6
    rcases iv_icmp 49 xm_122 xd_122_7 (by decide) il3 f_7.2 hr_10 with ⟨c_11, n_12, e_13, hr_14⟩ | ⟨c_11, n_12, e_13, hr_14⟩
    · obtain ⟨n_15, e_16, hr_17⟩ := iv_iconst xm_122 xd_122_49 (by decide) hr_14
      have rr_18 := iv_ireturn xm_122 xd_122_50 hr_17
      subst rr_18
      exact ⟨_, ⟨0 + 1, lm_122_2.mpr (Or.inl ⟨c_11, ⟨rfl, rfl⟩⟩)⟩, rfl, (by unfold sv_I; omega), ok⟩
    · obtain ⟨n_19, e_20, hr_21⟩ := iv_iload_n xm_122 xd_122_10 q2 hr_14
      obtain ⟨n_22, e_23, hr_24⟩ := iv_iload_n xm_122 xd_122_11 q3 hr_21
      obtain ⟨n_25, e_26, hr_27⟩ := iw_iadd xm_122 xd_122_12 hr_24
      obtain ⟨n_28, e_29, hr_30⟩ := iv_aload_n xm_122 xd_122_13 q1 hr_27
      obtain ⟨n_31, e_32, hr_33⟩ := iw_slen (k := s0) (a := 0) (b := 0) (l := (dc_xs s0)) xm_122 xd_122_14 (by decide +kernel) (by omega) (dc_xs_at is0) hr_30
      rcases iv_icmp 41 xm_122 xd_122_17 (by decide) (dc_w_I _) (dc_len_I (dc_xs_len is0)) hr_33 with ⟨c_34, n_35, e_36, hr_37⟩ | ⟨c_34, n_35, e_36, hr_37⟩
      · obtain ⟨n_38, e_39, hr_40⟩ := iv_iconst xm_122 xd_122_41 (by decide) hr_37
        have rr_41 := iv_ireturn xm_122 xd_122_42 hr_40
        subst rr_41
        exact ⟨_, ⟨0 + 1, lm_122_2.mpr (Or.inr ⟨c_11, Or.inl ⟨c_34, ⟨rfl, rfl⟩⟩⟩)⟩, rfl, (by unfold sv_I; omega), ok⟩
      · obtain ⟨n_42, e_43, hr_44⟩ := iv_aload_n xm_122 xd_122_20 q1 hr_37
        obtain ⟨n_45, e_46, hr_47⟩ := iv_iload_n xm_122 xd_122_21 q2 hr_44
        obtain ⟨n_48, e_49, hr_50⟩ := iv_iload_n xm_122 xd_122_22 q3 hr_47
        obtain ⟨n_51, e_52, hr_53⟩ := iw_iadd xm_122 xd_122_23 hr_50
        obtain ⟨q_54, n_55, e_56, hr_57⟩ := iw_schar (k := s0) (a := 0) (b := 0) (l := (dc_xs s0)) xm_122 xd_122_24 (by decide +kernel) (by omega) (dc_xs_at is0) (dc_w_I _) hr_53
        obtain ⟨n_58, e_59, hr_60⟩ := iv_aload_n xm_122 xd_122_27 q0 hr_57
        have f_61 := dc_fr (j := 0) ok (rfl : sv_ty 1 = some 9) dt_9 rfl
        obtain ⟨n_62, e_63, hr_64⟩ := iv_getf (j := 0) xm_122 xd_122_28 (by decide +kernel) ok (rfl : sv_ty 1 = some 9) dt_9 f_61 hr_60
        obtain ⟨n_65, e_66, hr_67⟩ := iv_aload_n xm_122 xd_122_31 q0 hr_64
        have f_68 := dc_fi (j := 5) ok (rfl : sv_ty 1 = some 9) dt_9 rfl
        obtain ⟨n_69, e_70, hr_71⟩ := iv_getf (j := 5) xm_122 xd_122_32 (by decide +kernel) ok (rfl : sv_ty 1 = some 9) dt_9 f_68.1 hr_67
        obtain ⟨n_72, e_73, hr_74⟩ := iv_iload_n xm_122 xd_122_35 q3 hr_71
        obtain ⟨n_75, e_76, hr_77⟩ := iw_iadd xm_122 xd_122_36 hr_74
        obtain ⟨q_78, qi_79, n_80, e_81, hr_82⟩ := iv_iald xm_122 xd_122_37 ok (rfl : sv_ty 2 = some 13) dt_13 (by decide) (dc_w_I _) hr_77
        rcases iv_icmp 43 xm_122 xd_122_38 (by decide) (sv_g_I (dc_xs_lt is0 _)) qi_79 hr_82 with ⟨c_83, n_84, e_85, hr_86⟩ | ⟨c_83, n_84, e_85, hr_86⟩
        · obtain ⟨lv_88, sl_87, n_89, e_90, hr_91⟩ := iw_iinc xm_122 xd_122_43 (by decide +kernel) (by decide) q3 hr_86
          have l_92 := sl_87.2 0 _ q0 (by decide) (Or.inl rfl)
          have l_93 := sl_87.2 1 _ q1 (by decide) (Or.inl rfl)
          have l_94 := sl_87.2 2 _ q2 (by decide) (Or.inl rfl)
          have l_95 := sl_87.1
          obtain ⟨n_96, e_97, hr_98⟩ := iv_goto 2 xm_122 xd_122_46 (by decide) hr_91
          obtain ⟨v, ⟨c, hL⟩, e1, e2, e3⟩ := ih0 _ lv_88 h _ _ (by omega) ok (dc_w_I _) l_92 l_93 l_94 l_95 hr_98
          exact ⟨v, ⟨c + 1, lm_122_2.mpr (Or.inr ⟨c_11, Or.inr ⟨c_34, ⟨q_54, ⟨q_78, Or.inl ⟨c_83, hL⟩⟩⟩⟩⟩)⟩, e1, e2, e3⟩
        · obtain ⟨n_99, e_100, hr_101⟩ := iv_iconst xm_122 xd_122_41 (by decide) hr_86
          have rr_102 := iv_ireturn xm_122 xd_122_42 hr_101
          subst rr_102
          exact ⟨_, ⟨0 + 1, lm_122_2.mpr (Or.inr ⟨c_11, Or.inr ⟨c_34, ⟨q_54, ⟨q_78, Or.inr ⟨c_83, ⟨rfl, rfl⟩⟩⟩⟩⟩⟩)⟩, rfl, (by unfold sv_I; omega), ok⟩
abbrev D_122 (s0 : Nat) (x1 : Int) (m : dc_M) (v : Int) (m' : dc_M) : Prop := ∃ c, LM_122 s0 x1 c 2 0 m v m'
theorem ds_122 (n : Nat) (s0 : Nat) (x1 : Int) {h : ae_H} {r : ae_R} (ok : dc_ok h) (is0 : 259 ≤ s0 ∧ s0 < 265) (ix1 : sv_I x1) (hr : ae_exe n 122 0 0 0 (ae_args [wk_r 1, wk_r s0, wk_i x1] 0) [] h = some r) : ∃ v, D_122 s0 x1 (dc_m h) v (dc_m r.2) ∧ r.1 = some (wk_i v) ∧ sv_I v ∧ dc_ok r.2 := by
  have q0 : ae_lk (ae_args [wk_r 1, wk_r s0, wk_i x1] 0) 0 = some (wk_r 1) := rfl
  have q1 : ae_lk (ae_args [wk_r 1, wk_r s0, wk_i x1] 0) 1 = some (wk_r s0) := rfl
  have q2 : ae_lk (ae_args [wk_r 1, wk_r s0, wk_i x1] 0) 2 = some (wk_i x1) := rfl
  obtain ⟨n_103, e_104, hr_105⟩ := iv_iconst xm_122 xd_122_0 (by decide) hr
  obtain ⟨lv_107, sl_106, n_108, e_109, hr_110⟩ := iv_istore_n xm_122 xd_122_1 (by decide +kernel) hr_105
  have l_111 := sl_106.2 0 _ q0 (by decide) (Or.inl rfl)
  have l_112 := sl_106.2 1 _ q1 (by decide) (Or.inl rfl)
  have l_113 := sl_106.2 2 _ q2 (by decide) (Or.inl rfl)
  have l_114 := sl_106.1
  obtain ⟨v, ⟨c, hL⟩, e1, e2, e3⟩ := (dl_122 is0 ix1 _) _ lv_107 h _ _ (Nat.le_refl _) ok (by unfold sv_I; omega) l_111 l_112 l_113 l_114 hr_110
  exact ⟨v, ⟨_, hL⟩, e1, e2, e3⟩
/-! method 11 -/
theorem xm_11 : ae_m 11 = some (wk_M 11) := rfl
theorem xd_11_0 : decode (wk_M 11).2.2.1 0 = .ok (.aload_n 0, 1) := zd_by (by decide +kernel)
theorem xd_11_1 : decode (wk_M 11).2.2.1 1 = .ok (.getfield 51, 3) := zd_by (by decide +kernel)
theorem xd_11_4 : decode (wk_M 11).2.2.1 4 = .ok (.iconst 1, 1) := zd_by (by decide +kernel)
theorem xd_11_5 : decode (wk_M 11).2.2.1 5 = .ok (.if_icmp .eq 5, 3) := zd_by (by decide +kernel)
theorem xd_11_8 : decode (wk_M 11).2.2.1 8 = .ok (.iconst (-1), 1) := zd_by (by decide +kernel)
theorem xd_11_9 : decode (wk_M 11).2.2.1 9 = .ok (.ireturn, 1) := zd_by (by decide +kernel)
theorem xd_11_10 : decode (wk_M 11).2.2.1 10 = .ok (.iconst 0, 1) := zd_by (by decide +kernel)
theorem xd_11_11 : decode (wk_M 11).2.2.1 11 = .ok (.istore_n 1, 1) := zd_by (by decide +kernel)
theorem xd_11_12 : decode (wk_M 11).2.2.1 12 = .ok (.iload_n 1, 1) := zd_by (by decide +kernel)
theorem xd_11_13 : decode (wk_M 11).2.2.1 13 = .ok (.bipush 23, 2) := zd_by (by decide +kernel)
theorem xd_11_15 : decode (wk_M 11).2.2.1 15 = .ok (.if_icmp .ge 59, 3) := zd_by (by decide +kernel)
theorem xd_11_18 : decode (wk_M 11).2.2.1 18 = .ok (.iload_n 1, 1) := zd_by (by decide +kernel)
theorem xd_11_19 : decode (wk_M 11).2.2.1 19 = .ok (.iconst 5, 1) := zd_by (by decide +kernel)
theorem xd_11_20 : decode (wk_M 11).2.2.1 20 = .ok (.imul, 1) := zd_by (by decide +kernel)
theorem xd_11_21 : decode (wk_M 11).2.2.1 21 = .ok (.istore_n 2, 1) := zd_by (by decide +kernel)
theorem xd_11_22 : decode (wk_M 11).2.2.1 22 = .ok (.aload_n 0, 1) := zd_by (by decide +kernel)
theorem xd_11_23 : decode (wk_M 11).2.2.1 23 = .ok (.getfield 93, 3) := zd_by (by decide +kernel)
theorem xd_11_26 : decode (wk_M 11).2.2.1 26 = .ok (.iconst 5, 1) := zd_by (by decide +kernel)
theorem xd_11_27 : decode (wk_M 11).2.2.1 27 = .ok (.if_icmp .eq 19, 3) := zd_by (by decide +kernel)
theorem xd_11_30 : decode (wk_M 11).2.2.1 30 = .ok (.ldc 96, 2) := zd_by (by decide +kernel)
theorem xd_11_32 : decode (wk_M 11).2.2.1 32 = .ok (.iload_n 2, 1) := zd_by (by decide +kernel)
theorem xd_11_33 : decode (wk_M 11).2.2.1 33 = .ok (.aload_n 0, 1) := zd_by (by decide +kernel)
theorem xd_11_34 : decode (wk_M 11).2.2.1 34 = .ok (.getfield 93, 3) := zd_by (by decide +kernel)
theorem xd_11_37 : decode (wk_M 11).2.2.1 37 = .ok (.iadd, 1) := zd_by (by decide +kernel)
theorem xd_11_38 : decode (wk_M 11).2.2.1 38 = .ok (.invokevirtual 98, 3) := zd_by (by decide +kernel)
theorem xd_11_41 : decode (wk_M 11).2.2.1 41 = .ok (.bipush 32, 2) := zd_by (by decide +kernel)
theorem xd_11_43 : decode (wk_M 11).2.2.1 43 = .ok (.if_icmp .ne 7, 3) := zd_by (by decide +kernel)
theorem xd_11_46 : decode (wk_M 11).2.2.1 46 = .ok (.iconst 1, 1) := zd_by (by decide +kernel)
theorem xd_11_47 : decode (wk_M 11).2.2.1 47 = .ok (.goto 4, 3) := zd_by (by decide +kernel)
theorem xd_11_50 : decode (wk_M 11).2.2.1 50 = .ok (.iconst 0, 1) := zd_by (by decide +kernel)
theorem xd_11_51 : decode (wk_M 11).2.2.1 51 = .ok (.istore_n 3, 1) := zd_by (by decide +kernel)
theorem xd_11_52 : decode (wk_M 11).2.2.1 52 = .ok (.iload_n 3, 1) := zd_by (by decide +kernel)
theorem xd_11_53 : decode (wk_M 11).2.2.1 53 = .ok (.ifCond .eq 15, 3) := zd_by (by decide +kernel)
theorem xd_11_56 : decode (wk_M 11).2.2.1 56 = .ok (.aload_n 0, 1) := zd_by (by decide +kernel)
theorem xd_11_57 : decode (wk_M 11).2.2.1 57 = .ok (.ldc 96, 2) := zd_by (by decide +kernel)
theorem xd_11_59 : decode (wk_M 11).2.2.1 59 = .ok (.iload_n 2, 1) := zd_by (by decide +kernel)
theorem xd_11_60 : decode (wk_M 11).2.2.1 60 = .ok (.invokevirtual 104, 3) := zd_by (by decide +kernel)
theorem xd_11_63 : decode (wk_M 11).2.2.1 63 = .ok (.ifCond .eq 5, 3) := zd_by (by decide +kernel)
theorem xd_11_66 : decode (wk_M 11).2.2.1 66 = .ok (.iload_n 1, 1) := zd_by (by decide +kernel)
theorem xd_11_67 : decode (wk_M 11).2.2.1 67 = .ok (.ireturn, 1) := zd_by (by decide +kernel)
theorem xd_11_68 : decode (wk_M 11).2.2.1 68 = .ok (.iinc 1 1, 3) := zd_by (by decide +kernel)
theorem xd_11_71 : decode (wk_M 11).2.2.1 71 = .ok (.goto (-59), 3) := zd_by (by decide +kernel)
theorem xd_11_74 : decode (wk_M 11).2.2.1 74 = .ok (.iconst (-1), 1) := zd_by (by decide +kernel)
theorem xd_11_75 : decode (wk_M 11).2.2.1 75 = .ok (.ireturn, 1) := zd_by (by decide +kernel)
def LM_11  : Nat → Nat → Int → dc_M → Int → dc_M → Prop
  | 0, _, _, _, _, _ => False
  | c + 1, tag, l1, m, v, m' => match tag with
    | _ => (((l1 : Int) ≥ 23 ∧ (v = (-1) ∧ m' = m)) ∨ (¬ ((l1 : Int) ≥ 23) ∧ (((((m 1 6) : Int) = 5 ∧ (∃ v_79 m_84, D_122 259 ((dc_w (l1 * 5))) m v_79 m_84 ∧ ((((v_79 : Int) = 0 ∧ (LM_11  c 12 (dc_w (l1 + 1)) m_84 v m')) ∨ (¬ ((v_79 : Int) = 0) ∧ (v = l1 ∧ m' = m_84)))))) ∨ (¬ (((m 1 6) : Int) = 5) ∧ ((0 ≤ ((dc_w ((dc_w (l1 * 5)) + (m 1 6))) : Int) ∧ ((dc_w ((dc_w (l1 * 5)) + (m 1 6))) : Int) < (ae_xr9 3).length) ∧ (((((sv_g ((ae_xr9 3).getD ((dc_w ((dc_w (l1 * 5)) + (m 1 6))) : Int).toNat 0)) : Int) ≠ 32 ∧ (LM_11  c 12 (dc_w (l1 + 1)) m v m')) ∨ (¬ (((sv_g ((ae_xr9 3).getD ((dc_w ((dc_w (l1 * 5)) + (m 1 6))) : Int).toNat 0)) : Int) ≠ 32) ∧ (∃ v_201 m_206, D_122 259 ((dc_w (l1 * 5))) m v_201 m_206 ∧ ((((v_201 : Int) = 0 ∧ (LM_11  c 12 (dc_w (l1 + 1)) m_206 v m')) ∨ (¬ ((v_201 : Int) = 0) ∧ (v = l1 ∧ m' = m_206))))))))))))))
theorem lm_11_12  {c : Nat} {l1 : Int} {m : dc_M} {v : Int} {m' : dc_M} : LM_11  (c + 1) 12 l1 m v m' ↔ (((l1 : Int) ≥ 23 ∧ (v = (-1) ∧ m' = m)) ∨ (¬ ((l1 : Int) ≥ 23) ∧ (((((m 1 6) : Int) = 5 ∧ (∃ v_79 m_84, D_122 259 ((dc_w (l1 * 5))) m v_79 m_84 ∧ ((((v_79 : Int) = 0 ∧ (LM_11  c 12 (dc_w (l1 + 1)) m_84 v m')) ∨ (¬ ((v_79 : Int) = 0) ∧ (v = l1 ∧ m' = m_84)))))) ∨ (¬ (((m 1 6) : Int) = 5) ∧ ((0 ≤ ((dc_w ((dc_w (l1 * 5)) + (m 1 6))) : Int) ∧ ((dc_w ((dc_w (l1 * 5)) + (m 1 6))) : Int) < (ae_xr9 3).length) ∧ (((((sv_g ((ae_xr9 3).getD ((dc_w ((dc_w (l1 * 5)) + (m 1 6))) : Int).toNat 0)) : Int) ≠ 32 ∧ (LM_11  c 12 (dc_w (l1 + 1)) m v m')) ∨ (¬ (((sv_g ((ae_xr9 3).getD ((dc_w ((dc_w (l1 * 5)) + (m 1 6))) : Int).toNat 0)) : Int) ≠ 32) ∧ (∃ v_201 m_206, D_122 259 ((dc_w (l1 * 5))) m v_201 m_206 ∧ ((((v_201 : Int) = 0 ∧ (LM_11  c 12 (dc_w (l1 + 1)) m_206 v m')) ∨ (¬ ((v_201 : Int) = 0) ∧ (v = l1 ∧ m' = m_206)))))))))))))) := Iff.rfl
theorem dl_11   : ∀ N : Nat, (∀ (n : Nat) (lv : ae_L) (h : ae_H) (r : ae_R) (l1 : Int), n ≤ N → dc_ok h → sv_I l1 → ae_lk lv 0 = some (wk_r 1) → ae_lk lv 1 = some (wk_i l1) → ae_exe n 11 12 0 0 lv [] h = some r → ∃ v, (∃ c, LM_11  c 12 l1 (dc_m h) v (dc_m r.2)) ∧ r.1 = some (wk_i v) ∧ sv_I v ∧ dc_ok r.2) := by
  intro N
  induction N with
  | zero =>
    exact fun n lv h r l1 hn ok il1 q0 q1 hr => by
      have e : n = 0 := by omega
      subst e
      cases hr
  | succ N ih =>
    have ih0 := ih
    intro n lv h r l1 hn ok il1 q0 q1 hr
    obtain ⟨n_1, e_2, hr_3⟩ := iv_iload_n xm_11 xd_11_12 q1 hr
    obtain ⟨n_4, e_5, hr_6⟩ := iv_bipush xm_11 xd_11_13 (by decide) hr_3
    rcases iv_icmp 74 xm_11 xd_11_15 (by decide) il1 (by unfold sv_I; omega) hr_6 with ⟨c_7, n_8, e_9, hr_10⟩ | ⟨c_7, n_8, e_9, hr_10⟩
    · obtain ⟨n_11, e_12, hr_13⟩ := iv_iconst xm_11 xd_11_74 (by decide) hr_10
      have rr_14 := iv_ireturn xm_11 xd_11_75 hr_13
      subst rr_14
      exact ⟨_, ⟨0 + 1, lm_11_12.mpr (Or.inl ⟨c_7, ⟨rfl, rfl⟩⟩)⟩, rfl, (by unfold sv_I; omega), ok⟩
    · obtain ⟨n_15, e_16, hr_17⟩ := iv_iload_n xm_11 xd_11_18 q1 hr_10
      obtain ⟨n_18, e_19, hr_20⟩ := iv_iconst xm_11 xd_11_19 (by decide) hr_17
      obtain ⟨n_21, e_22, hr_23⟩ := iw_imul xm_11 xd_11_20 hr_20
      obtain ⟨lv_25, sl_24, n_26, e_27, hr_28⟩ := iv_istore_n xm_11 xd_11_21 (by decide +kernel) hr_23
      have l_29 := sl_24.2 0 _ q0 (by decide) (Or.inl rfl)
      have l_30 := sl_24.2 1 _ q1 (by decide) (Or.inl rfl)
      have l_31 := sl_24.1
      obtain ⟨n_32, e_33, hr_34⟩ := iv_aload_n xm_11 xd_11_22 l_29 hr_28
      have f_35 := dc_fi (j := 6) ok (rfl : sv_ty 1 = some 9) dt_9 rfl
      obtain ⟨n_36, e_37, hr_38⟩ := iv_getf (j := 6) xm_11 xd_11_23 (by decide +kernel) ok (rfl : sv_ty 1 = some 9) dt_9 f_35.1 hr_34
      obtain ⟨n_39, e_40, hr_41⟩ := iv_iconst xm_11 xd_11_26 (by decide) hr_38
      rcases iv_icmp 46 xm_11 xd_11_27 (by decide) f_35.2 (by unfold sv_I; omega) hr_41 with ⟨c_42, n_43, e_44, hr_45⟩ | ⟨c_42, n_43, e_44, hr_45⟩
      · obtain ⟨n_46, e_47, hr_48⟩ := iv_iconst xm_11 xd_11_46 (by decide) hr_45
        obtain ⟨n_49, e_50, hr_51⟩ := iv_goto 51 xm_11 xd_11_47 (by decide) hr_48
        obtain ⟨lv_53, sl_52, n_54, e_55, hr_56⟩ := iv_istore_n xm_11 xd_11_51 (by decide +kernel) hr_51
        have l_57 := sl_52.2 0 _ l_29 (by decide) (Or.inl rfl)
        have l_58 := sl_52.2 1 _ l_30 (by decide) (Or.inl rfl)
        have l_59 := sl_52.2 2 _ l_31 (by decide) (Or.inl rfl)
        have l_60 := sl_52.1
        obtain ⟨n_61, e_62, hr_63⟩ := iv_iload_n xm_11 xd_11_52 l_60 hr_56
        rcases iv_if 68 xm_11 xd_11_53 (by decide) (by unfold sv_I; omega) hr_63 with ⟨c_64, n_65, e_66, hr_67⟩ | ⟨c_64, n_65, e_66, hr_67⟩
        · exact absurd (show (1 : Int) = 0 from c_64) (by decide)
        obtain ⟨n_68, e_69, hr_70⟩ := iv_aload_n xm_11 xd_11_56 l_57 hr_67
        obtain ⟨n_71, e_72, hr_73⟩ := iv_out (j := 3) (z := 0) (Or.inl ⟨rfl, rfl, by decide +kernel⟩) xm_11 xd_11_57 hr_70
        obtain ⟨n_74, e_75, hr_76⟩ := iv_iload_n xm_11 xd_11_59 l_59 hr_73
        obtain ⟨n_86, r_77, e_87, hc_78, hr_88⟩ := iv_call (Or.inr ⟨rfl, rfl⟩) xm_11 xd_11_60 (by decide +kernel) xm_122 rfl (by decide +kernel) hr_76
        obtain ⟨v_79, d_80, er_81, iv_82, ok_83⟩ := ds_122 _ _ _ ok ⟨by decide, by decide⟩ (dc_w_I _) hc_78
        obtain ⟨_, h_85⟩ := r_77
        have er_81 : _ = some (wk_i v_79) := er_81
        subst er_81
        have hr_89 : ae_exe n_86 11 (60 + 3) 0 0 lv_53 _ h_85 = some r := hr_88
        rcases iv_if 68 xm_11 xd_11_63 (by decide) iv_82 hr_89 with ⟨c_90, n_91, e_92, hr_93⟩ | ⟨c_90, n_91, e_92, hr_93⟩
        · obtain ⟨lv_95, sl_94, n_96, e_97, hr_98⟩ := iw_iinc xm_11 xd_11_68 (by decide +kernel) (by decide) l_58 hr_93
          have l_99 := sl_94.2 0 _ l_57 (by decide) (Or.inl rfl)
          have l_100 := sl_94.2 2 _ l_59 (by decide) (Or.inl rfl)
          have l_101 := sl_94.2 3 _ l_60 (by decide) (Or.inl rfl)
          have l_102 := sl_94.1
          obtain ⟨n_103, e_104, hr_105⟩ := iv_goto 12 xm_11 xd_11_71 (by decide) hr_98
          obtain ⟨v, ⟨c, hL⟩, e1, e2, e3⟩ := ih0 _ lv_95 h_85 _ _ (by omega) ok_83 (dc_w_I _) l_99 l_102 hr_105
          exact ⟨v, ⟨c + 1, lm_11_12.mpr (Or.inr ⟨c_7, Or.inl ⟨c_42, ⟨_, _, d_80, Or.inl ⟨c_90, hL⟩⟩⟩⟩)⟩, e1, e2, e3⟩
        · obtain ⟨n_106, e_107, hr_108⟩ := iv_iload_n xm_11 xd_11_66 l_58 hr_93
          have rr_109 := iv_ireturn xm_11 xd_11_67 hr_108
          subst rr_109
          exact ⟨_, ⟨0 + 1, lm_11_12.mpr (Or.inr ⟨c_7, Or.inl ⟨c_42, ⟨_, _, d_80, Or.inr ⟨c_90, ⟨rfl, rfl⟩⟩⟩⟩⟩)⟩, rfl, il1, ok_83⟩
      · obtain ⟨n_110, e_111, hr_112⟩ := iv_out (j := 3) (z := 0) (Or.inl ⟨rfl, rfl, by decide +kernel⟩) xm_11 xd_11_30 hr_45
        obtain ⟨n_113, e_114, hr_115⟩ := iv_iload_n xm_11 xd_11_32 l_31 hr_112
        obtain ⟨n_116, e_117, hr_118⟩ := iv_aload_n xm_11 xd_11_33 l_29 hr_115
        have f_119 := dc_fi (j := 6) ok (rfl : sv_ty 1 = some 9) dt_9 rfl
        obtain ⟨n_120, e_121, hr_122⟩ := iv_getf (j := 6) xm_11 xd_11_34 (by decide +kernel) ok (rfl : sv_ty 1 = some 9) dt_9 f_119.1 hr_118
        obtain ⟨n_123, e_124, hr_125⟩ := iw_iadd xm_11 xd_11_37 hr_122
        obtain ⟨q_126, n_127, e_128, hr_129⟩ := iw_schar (k := 259) (a := 0) (b := 0) (l := (ae_xr9 3)) xm_11 xd_11_38 (by decide +kernel) (by decide) rfl (dc_w_I _) hr_125
        obtain ⟨n_130, e_131, hr_132⟩ := iv_bipush xm_11 xd_11_41 (by decide) hr_129
        rcases iv_icmp 50 xm_11 xd_11_43 (by decide) (sv_g_I (dc_xr_lt 3 _)) (by unfold sv_I; omega) hr_132 with ⟨c_133, n_134, e_135, hr_136⟩ | ⟨c_133, n_134, e_135, hr_136⟩
        · obtain ⟨n_137, e_138, hr_139⟩ := iv_iconst xm_11 xd_11_50 (by decide) hr_136
          obtain ⟨lv_141, sl_140, n_142, e_143, hr_144⟩ := iv_istore_n xm_11 xd_11_51 (by decide +kernel) hr_139
          have l_145 := sl_140.2 0 _ l_29 (by decide) (Or.inl rfl)
          have l_146 := sl_140.2 1 _ l_30 (by decide) (Or.inl rfl)
          have l_147 := sl_140.2 2 _ l_31 (by decide) (Or.inl rfl)
          have l_148 := sl_140.1
          obtain ⟨n_149, e_150, hr_151⟩ := iv_iload_n xm_11 xd_11_52 l_148 hr_144
          rcases iv_if 68 xm_11 xd_11_53 (by decide) (by unfold sv_I; omega) hr_151 with ⟨c_152, n_153, e_154, hr_155⟩ | ⟨c_152, n_153, e_154, hr_155⟩
          rotate_left
          · exact absurd (show ¬ ((0 : Int) = 0) from c_152) (by decide)
          obtain ⟨lv_157, sl_156, n_158, e_159, hr_160⟩ := iw_iinc xm_11 xd_11_68 (by decide +kernel) (by decide) l_146 hr_155
          have l_161 := sl_156.2 0 _ l_145 (by decide) (Or.inl rfl)
          have l_162 := sl_156.2 2 _ l_147 (by decide) (Or.inl rfl)
          have l_163 := sl_156.2 3 _ l_148 (by decide) (Or.inl rfl)
          have l_164 := sl_156.1
          obtain ⟨n_165, e_166, hr_167⟩ := iv_goto 12 xm_11 xd_11_71 (by decide) hr_160
          obtain ⟨v, ⟨c, hL⟩, e1, e2, e3⟩ := ih0 _ lv_157 h _ _ (by omega) ok (dc_w_I _) l_161 l_164 hr_167
          exact ⟨v, ⟨c + 1, lm_11_12.mpr (Or.inr ⟨c_7, Or.inr ⟨c_42, ⟨q_126, Or.inl ⟨c_133, hL⟩⟩⟩⟩)⟩, e1, e2, e3⟩
        · obtain ⟨n_168, e_169, hr_170⟩ := iv_iconst xm_11 xd_11_46 (by decide) hr_136
          obtain ⟨n_171, e_172, hr_173⟩ := iv_goto 51 xm_11 xd_11_47 (by decide) hr_170
          obtain ⟨lv_175, sl_174, n_176, e_177, hr_178⟩ := iv_istore_n xm_11 xd_11_51 (by decide +kernel) hr_173
          have l_179 := sl_174.2 0 _ l_29 (by decide) (Or.inl rfl)
          have l_180 := sl_174.2 1 _ l_30 (by decide) (Or.inl rfl)
          have l_181 := sl_174.2 2 _ l_31 (by decide) (Or.inl rfl)
          have l_182 := sl_174.1
          obtain ⟨n_183, e_184, hr_185⟩ := iv_iload_n xm_11 xd_11_52 l_182 hr_178
          rcases iv_if 68 xm_11 xd_11_53 (by decide) (by unfold sv_I; omega) hr_185 with ⟨c_186, n_187, e_188, hr_189⟩ | ⟨c_186, n_187, e_188, hr_189⟩
          · exact absurd (show (1 : Int) = 0 from c_186) (by decide)
          obtain ⟨n_190, e_191, hr_192⟩ := iv_aload_n xm_11 xd_11_56 l_179 hr_189
          obtain ⟨n_193, e_194, hr_195⟩ := iv_out (j := 3) (z := 0) (Or.inl ⟨rfl, rfl, by decide +kernel⟩) xm_11 xd_11_57 hr_192
          obtain ⟨n_196, e_197, hr_198⟩ := iv_iload_n xm_11 xd_11_59 l_181 hr_195
          obtain ⟨n_208, r_199, e_209, hc_200, hr_210⟩ := iv_call (Or.inr ⟨rfl, rfl⟩) xm_11 xd_11_60 (by decide +kernel) xm_122 rfl (by decide +kernel) hr_198
          obtain ⟨v_201, d_202, er_203, iv_204, ok_205⟩ := ds_122 _ _ _ ok ⟨by decide, by decide⟩ (dc_w_I _) hc_200
          obtain ⟨_, h_207⟩ := r_199
          have er_203 : _ = some (wk_i v_201) := er_203
          subst er_203
          have hr_211 : ae_exe n_208 11 (60 + 3) 0 0 lv_175 _ h_207 = some r := hr_210
          rcases iv_if 68 xm_11 xd_11_63 (by decide) iv_204 hr_211 with ⟨c_212, n_213, e_214, hr_215⟩ | ⟨c_212, n_213, e_214, hr_215⟩
          · obtain ⟨lv_217, sl_216, n_218, e_219, hr_220⟩ := iw_iinc xm_11 xd_11_68 (by decide +kernel) (by decide) l_180 hr_215
            have l_221 := sl_216.2 0 _ l_179 (by decide) (Or.inl rfl)
            have l_222 := sl_216.2 2 _ l_181 (by decide) (Or.inl rfl)
            have l_223 := sl_216.2 3 _ l_182 (by decide) (Or.inl rfl)
            have l_224 := sl_216.1
            obtain ⟨n_225, e_226, hr_227⟩ := iv_goto 12 xm_11 xd_11_71 (by decide) hr_220
            obtain ⟨v, ⟨c, hL⟩, e1, e2, e3⟩ := ih0 _ lv_217 h_207 _ _ (by omega) ok_205 (dc_w_I _) l_221 l_224 hr_227
            exact ⟨v, ⟨c + 1, lm_11_12.mpr (Or.inr ⟨c_7, Or.inr ⟨c_42, ⟨q_126, Or.inr ⟨c_133, ⟨_, _, d_202, Or.inl ⟨c_212, hL⟩⟩⟩⟩⟩⟩)⟩, e1, e2, e3⟩
          · obtain ⟨n_228, e_229, hr_230⟩ := iv_iload_n xm_11 xd_11_66 l_180 hr_215
            have rr_231 := iv_ireturn xm_11 xd_11_67 hr_230
            subst rr_231
            exact ⟨_, ⟨0 + 1, lm_11_12.mpr (Or.inr ⟨c_7, Or.inr ⟨c_42, ⟨q_126, Or.inr ⟨c_133, ⟨_, _, d_202, Or.inr ⟨c_212, ⟨rfl, rfl⟩⟩⟩⟩⟩⟩⟩)⟩, rfl, il1, ok_205⟩
abbrev D_11  (m : dc_M) (v : Int) (m' : dc_M) : Prop := ((((m 1 4) : Int) = 1 ∧ (∃ c, LM_11  c 12 0 m v m')) ∨ (¬ (((m 1 4) : Int) = 1) ∧ (v = (-1) ∧ m' = m)))
theorem ds_11 (n : Nat)  {h : ae_H} {r : ae_R} (ok : dc_ok h)  (hr : ae_exe n 11 0 0 0 (ae_args [wk_r 1] 0) [] h = some r) : ∃ v, D_11  (dc_m h) v (dc_m r.2) ∧ r.1 = some (wk_i v) ∧ sv_I v ∧ dc_ok r.2 := by
  have q0 : ae_lk (ae_args [wk_r 1] 0) 0 = some (wk_r 1) := rfl
  obtain ⟨n_232, e_233, hr_234⟩ := iv_aload_n xm_11 xd_11_0 q0 hr
  have f_235 := dc_fi (j := 4) ok (rfl : sv_ty 1 = some 9) dt_9 rfl
  obtain ⟨n_236, e_237, hr_238⟩ := iv_getf (j := 4) xm_11 xd_11_1 (by decide +kernel) ok (rfl : sv_ty 1 = some 9) dt_9 f_235.1 hr_234
  obtain ⟨n_239, e_240, hr_241⟩ := iv_iconst xm_11 xd_11_4 (by decide) hr_238
  rcases iv_icmp 10 xm_11 xd_11_5 (by decide) f_235.2 (by unfold sv_I; omega) hr_241 with ⟨c_242, n_243, e_244, hr_245⟩ | ⟨c_242, n_243, e_244, hr_245⟩
  · obtain ⟨n_246, e_247, hr_248⟩ := iv_iconst xm_11 xd_11_10 (by decide) hr_245
    obtain ⟨lv_250, sl_249, n_251, e_252, hr_253⟩ := iv_istore_n xm_11 xd_11_11 (by decide +kernel) hr_248
    have l_254 := sl_249.2 0 _ q0 (by decide) (Or.inl rfl)
    have l_255 := sl_249.1
    obtain ⟨v, ⟨c, hL⟩, e1, e2, e3⟩ := (dl_11  _) _ lv_250 h _ _ (Nat.le_refl _) ok (by unfold sv_I; omega) l_254 l_255 hr_253
    exact ⟨v, Or.inl ⟨c_242, ⟨_, hL⟩⟩, e1, e2, e3⟩
  · obtain ⟨n_256, e_257, hr_258⟩ := iv_iconst xm_11 xd_11_8 (by decide) hr_245
    have rr_259 := iv_ireturn xm_11 xd_11_9 hr_258
    subst rr_259
    exact ⟨_, Or.inr ⟨c_242, ⟨rfl, rfl⟩⟩, rfl, (by unfold sv_I; omega), ok⟩
/-! method 12 -/
theorem xm_12 : ae_m 12 = some (wk_M 12) := rfl
theorem xd_12_0 : decode (wk_M 12).2.2.1 0 = .ok (.getstatic 32, 3) := zd_by (by decide +kernel)
theorem xd_12_3 : decode (wk_M 12).2.2.1 3 = .ok (.iload_n 1, 1) := zd_by (by decide +kernel)
theorem xd_12_4 : decode (wk_M 12).2.2.1 4 = .ok (.iaload, 1) := zd_by (by decide +kernel)
theorem xd_12_5 : decode (wk_M 12).2.2.1 5 = .ok (.istore_n 2, 1) := zd_by (by decide +kernel)
theorem xd_12_6 : decode (wk_M 12).2.2.1 6 = .ok (.getstatic 108, 3) := zd_by (by decide +kernel)
theorem xd_12_9 : decode (wk_M 12).2.2.1 9 = .ok (.iload_n 1, 1) := zd_by (by decide +kernel)
theorem xd_12_10 : decode (wk_M 12).2.2.1 10 = .ok (.iaload, 1) := zd_by (by decide +kernel)
theorem xd_12_11 : decode (wk_M 12).2.2.1 11 = .ok (.ifCond .ne 5, 3) := zd_by (by decide +kernel)
theorem xd_12_14 : decode (wk_M 12).2.2.1 14 = .ok (.iload_n 2, 1) := zd_by (by decide +kernel)
theorem xd_12_15 : decode (wk_M 12).2.2.1 15 = .ok (.ireturn, 1) := zd_by (by decide +kernel)
theorem xd_12_16 : decode (wk_M 12).2.2.1 16 = .ok (.aload_n 0, 1) := zd_by (by decide +kernel)
theorem xd_12_17 : decode (wk_M 12).2.2.1 17 = .ok (.iconst 1, 1) := zd_by (by decide +kernel)
theorem xd_12_18 : decode (wk_M 12).2.2.1 18 = .ok (.getstatic 108, 3) := zd_by (by decide +kernel)
theorem xd_12_21 : decode (wk_M 12).2.2.1 21 = .ok (.iload_n 1, 1) := zd_by (by decide +kernel)
theorem xd_12_22 : decode (wk_M 12).2.2.1 22 = .ok (.iaload, 1) := zd_by (by decide +kernel)
theorem xd_12_23 : decode (wk_M 12).2.2.1 23 = .ok (.invokevirtual 111, 3) := zd_by (by decide +kernel)
theorem xd_12_26 : decode (wk_M 12).2.2.1 26 = .ok (.istore_n 3, 1) := zd_by (by decide +kernel)
theorem xd_12_27 : decode (wk_M 12).2.2.1 27 = .ok (.iload_n 3, 1) := zd_by (by decide +kernel)
theorem xd_12_28 : decode (wk_M 12).2.2.1 28 = .ok (.ifCond .ne 5, 3) := zd_by (by decide +kernel)
theorem xd_12_31 : decode (wk_M 12).2.2.1 31 = .ok (.iconst (-1), 1) := zd_by (by decide +kernel)
theorem xd_12_32 : decode (wk_M 12).2.2.1 32 = .ok (.ireturn, 1) := zd_by (by decide +kernel)
theorem xd_12_33 : decode (wk_M 12).2.2.1 33 = .ok (.getstatic 115, 3) := zd_by (by decide +kernel)
theorem xd_12_36 : decode (wk_M 12).2.2.1 36 = .ok (.iload_n 1, 1) := zd_by (by decide +kernel)
theorem xd_12_37 : decode (wk_M 12).2.2.1 37 = .ok (.iaload, 1) := zd_by (by decide +kernel)
theorem xd_12_38 : decode (wk_M 12).2.2.1 38 = .ok (.ifCond .ne 9, 3) := zd_by (by decide +kernel)
theorem xd_12_41 : decode (wk_M 12).2.2.1 41 = .ok (.iload_n 2, 1) := zd_by (by decide +kernel)
theorem xd_12_42 : decode (wk_M 12).2.2.1 42 = .ok (.iload_n 3, 1) := zd_by (by decide +kernel)
theorem xd_12_43 : decode (wk_M 12).2.2.1 43 = .ok (.iadd, 1) := zd_by (by decide +kernel)
theorem xd_12_44 : decode (wk_M 12).2.2.1 44 = .ok (.iconst 1, 1) := zd_by (by decide +kernel)
theorem xd_12_45 : decode (wk_M 12).2.2.1 45 = .ok (.isub, 1) := zd_by (by decide +kernel)
theorem xd_12_46 : decode (wk_M 12).2.2.1 46 = .ok (.ireturn, 1) := zd_by (by decide +kernel)
theorem xd_12_47 : decode (wk_M 12).2.2.1 47 = .ok (.aload_n 0, 1) := zd_by (by decide +kernel)
theorem xd_12_48 : decode (wk_M 12).2.2.1 48 = .ok (.bipush 46, 2) := zd_by (by decide +kernel)
theorem xd_12_50 : decode (wk_M 12).2.2.1 50 = .ok (.invokevirtual 66, 3) := zd_by (by decide +kernel)
theorem xd_12_53 : decode (wk_M 12).2.2.1 53 = .ok (.ifCond .ne 5, 3) := zd_by (by decide +kernel)
theorem xd_12_56 : decode (wk_M 12).2.2.1 56 = .ok (.iconst (-1), 1) := zd_by (by decide +kernel)
theorem xd_12_57 : decode (wk_M 12).2.2.1 57 = .ok (.ireturn, 1) := zd_by (by decide +kernel)
theorem xd_12_58 : decode (wk_M 12).2.2.1 58 = .ok (.aload_n 0, 1) := zd_by (by decide +kernel)
theorem xd_12_59 : decode (wk_M 12).2.2.1 59 = .ok (.iconst 1, 1) := zd_by (by decide +kernel)
theorem xd_12_60 : decode (wk_M 12).2.2.1 60 = .ok (.getstatic 115, 3) := zd_by (by decide +kernel)
theorem xd_12_63 : decode (wk_M 12).2.2.1 63 = .ok (.iload_n 1, 1) := zd_by (by decide +kernel)
theorem xd_12_64 : decode (wk_M 12).2.2.1 64 = .ok (.iaload, 1) := zd_by (by decide +kernel)
theorem xd_12_65 : decode (wk_M 12).2.2.1 65 = .ok (.invokevirtual 111, 3) := zd_by (by decide +kernel)
theorem xd_12_68 : decode (wk_M 12).2.2.1 68 = .ok (.istore 4, 2) := zd_by (by decide +kernel)
theorem xd_12_70 : decode (wk_M 12).2.2.1 70 = .ok (.iload 4, 2) := zd_by (by decide +kernel)
theorem xd_12_72 : decode (wk_M 12).2.2.1 72 = .ok (.ifCond .ne 7, 3) := zd_by (by decide +kernel)
theorem xd_12_75 : decode (wk_M 12).2.2.1 75 = .ok (.iconst (-1), 1) := zd_by (by decide +kernel)
theorem xd_12_76 : decode (wk_M 12).2.2.1 76 = .ok (.goto 19, 3) := zd_by (by decide +kernel)
theorem xd_12_79 : decode (wk_M 12).2.2.1 79 = .ok (.iload_n 2, 1) := zd_by (by decide +kernel)
theorem xd_12_80 : decode (wk_M 12).2.2.1 80 = .ok (.iload_n 3, 1) := zd_by (by decide +kernel)
theorem xd_12_81 : decode (wk_M 12).2.2.1 81 = .ok (.iconst 1, 1) := zd_by (by decide +kernel)
theorem xd_12_82 : decode (wk_M 12).2.2.1 82 = .ok (.isub, 1) := zd_by (by decide +kernel)
theorem xd_12_83 : decode (wk_M 12).2.2.1 83 = .ok (.getstatic 115, 3) := zd_by (by decide +kernel)
theorem xd_12_86 : decode (wk_M 12).2.2.1 86 = .ok (.iload_n 1, 1) := zd_by (by decide +kernel)
theorem xd_12_87 : decode (wk_M 12).2.2.1 87 = .ok (.iaload, 1) := zd_by (by decide +kernel)
theorem xd_12_88 : decode (wk_M 12).2.2.1 88 = .ok (.imul, 1) := zd_by (by decide +kernel)
theorem xd_12_89 : decode (wk_M 12).2.2.1 89 = .ok (.iadd, 1) := zd_by (by decide +kernel)
theorem xd_12_90 : decode (wk_M 12).2.2.1 90 = .ok (.iload 4, 2) := zd_by (by decide +kernel)
theorem xd_12_92 : decode (wk_M 12).2.2.1 92 = .ok (.iadd, 1) := zd_by (by decide +kernel)
theorem xd_12_93 : decode (wk_M 12).2.2.1 93 = .ok (.iconst 1, 1) := zd_by (by decide +kernel)
theorem xd_12_94 : decode (wk_M 12).2.2.1 94 = .ok (.isub, 1) := zd_by (by decide +kernel)
theorem xd_12_95 : decode (wk_M 12).2.2.1 95 = .ok (.ireturn, 1) := zd_by (by decide +kernel)
abbrev D_12 (x1 : Int) (m : dc_M) (v : Int) (m' : dc_M) : Prop := (0 ≤ (x1 : Int) ∧ (x1 : Int) < 24) ∧ ((0 ≤ (x1 : Int) ∧ (x1 : Int) < 23) ∧ (((((sv_g ((ae_xr9 1).getD (x1 : Int).toNat 0)) : Int) ≠ 0 ∧ ((0 ≤ (x1 : Int) ∧ (x1 : Int) < 23) ∧ (∃ v_51 m_56, D_126 1 ((sv_g ((ae_xr9 1).getD (x1 : Int).toNat 0))) m v_51 m_56 ∧ ((((v_51 : Int) ≠ 0 ∧ ((0 ≤ (x1 : Int) ∧ (x1 : Int) < 23) ∧ (((((sv_g ((ae_xr9 2).getD (x1 : Int).toNat 0)) : Int) ≠ 0 ∧ (∃ v_100 m_105, D_125 46 m_56 v_100 m_105 ∧ ((((v_100 : Int) ≠ 0 ∧ ((0 ≤ (x1 : Int) ∧ (x1 : Int) < 23) ∧ (∃ v_133 m_138, D_126 1 ((sv_g ((ae_xr9 2).getD (x1 : Int).toNat 0))) m_105 v_133 m_138 ∧ ((((v_133 : Int) ≠ 0 ∧ ((0 ≤ (x1 : Int) ∧ (x1 : Int) < 23) ∧ (v = (dc_w ((dc_w ((dc_w ((sv_g ((ae_xr9 0).getD (x1 : Int).toNat 0)) + (dc_w ((dc_w (v_51 - 1)) * (sv_g ((ae_xr9 2).getD (x1 : Int).toNat 0)))))) + v_133)) - 1)) ∧ m' = m_138))) ∨ (¬ ((v_133 : Int) ≠ 0) ∧ (v = (-1) ∧ m' = m_138))))))) ∨ (¬ ((v_100 : Int) ≠ 0) ∧ (v = (-1) ∧ m' = m_105)))))) ∨ (¬ (((sv_g ((ae_xr9 2).getD (x1 : Int).toNat 0)) : Int) ≠ 0) ∧ (v = (dc_w ((dc_w ((sv_g ((ae_xr9 0).getD (x1 : Int).toNat 0)) + v_51)) - 1)) ∧ m' = m_56)))))) ∨ (¬ ((v_51 : Int) ≠ 0) ∧ (v = (-1) ∧ m' = m_56))))))) ∨ (¬ (((sv_g ((ae_xr9 1).getD (x1 : Int).toNat 0)) : Int) ≠ 0) ∧ (v = (sv_g ((ae_xr9 0).getD (x1 : Int).toNat 0)) ∧ m' = m)))))
theorem ds_12 (n : Nat) (x1 : Int) {h : ae_H} {r : ae_R} (ok : dc_ok h) (ix1 : sv_I x1) (hr : ae_exe n 12 0 0 0 (ae_args [wk_r 1, wk_i x1] 0) [] h = some r) : ∃ v, D_12 x1 (dc_m h) v (dc_m r.2) ∧ r.1 = some (wk_i v) ∧ sv_I v ∧ dc_ok r.2 := by
  have q0 : ae_lk (ae_args [wk_r 1, wk_i x1] 0) 0 = some (wk_r 1) := rfl
  have q1 : ae_lk (ae_args [wk_r 1, wk_i x1] 0) 1 = some (wk_i x1) := rfl
  obtain ⟨n_1, e_2, hr_3⟩ := iv_out (j := 0) (z := 0) (Or.inr ⟨rfl, rfl, by decide +kernel⟩) xm_12 xd_12_0 hr
  obtain ⟨n_4, e_5, hr_6⟩ := iv_iload_n xm_12 xd_12_3 q1 hr_3
  obtain ⟨q_7, n_8, e_9, hr_10⟩ := iw_ldx (k := 256) (l := ae_xr9 0) xm_12 xd_12_4 ⟨by decide, by decide⟩ rfl ix1 hr_6
  obtain ⟨lv_12, sl_11, n_13, e_14, hr_15⟩ := iv_istore_n xm_12 xd_12_5 (by decide +kernel) hr_10
  have l_16 := sl_11.2 0 _ q0 (by decide) (Or.inl rfl)
  have l_17 := sl_11.2 1 _ q1 (by decide) (Or.inl rfl)
  have l_18 := sl_11.1
  obtain ⟨n_19, e_20, hr_21⟩ := iv_out (j := 1) (z := 0) (Or.inr ⟨rfl, rfl, by decide +kernel⟩) xm_12 xd_12_6 hr_15
  obtain ⟨n_22, e_23, hr_24⟩ := iv_iload_n xm_12 xd_12_9 l_17 hr_21
  obtain ⟨q_25, n_26, e_27, hr_28⟩ := iw_ldx (k := 257) (l := ae_xr9 1) xm_12 xd_12_10 ⟨by decide, by decide⟩ rfl ix1 hr_24
  rcases iv_if 16 xm_12 xd_12_11 (by decide) (sv_g_I (dc_xr_lt 1 _)) hr_28 with ⟨c_29, n_30, e_31, hr_32⟩ | ⟨c_29, n_30, e_31, hr_32⟩
  · obtain ⟨n_33, e_34, hr_35⟩ := iv_aload_n xm_12 xd_12_16 l_16 hr_32
    obtain ⟨n_36, e_37, hr_38⟩ := iv_iconst xm_12 xd_12_17 (by decide) hr_35
    obtain ⟨n_39, e_40, hr_41⟩ := iv_out (j := 1) (z := 0) (Or.inr ⟨rfl, rfl, by decide +kernel⟩) xm_12 xd_12_18 hr_38
    obtain ⟨n_42, e_43, hr_44⟩ := iv_iload_n xm_12 xd_12_21 l_17 hr_41
    obtain ⟨q_45, n_46, e_47, hr_48⟩ := iw_ldx (k := 257) (l := ae_xr9 1) xm_12 xd_12_22 ⟨by decide, by decide⟩ rfl ix1 hr_44
    obtain ⟨n_58, r_49, e_59, hc_50, hr_60⟩ := iv_call (Or.inr ⟨rfl, rfl⟩) xm_12 xd_12_23 (by decide +kernel) xm_126 rfl (by decide +kernel) hr_48
    obtain ⟨v_51, d_52, er_53, iv_54, ok_55⟩ := ds_126 _ _ _ ok (by unfold sv_I; omega) (sv_g_I (dc_xr_lt 1 _)) hc_50
    obtain ⟨_, h_57⟩ := r_49
    have er_53 : _ = some (wk_i v_51) := er_53
    subst er_53
    have hr_61 : ae_exe n_58 12 (23 + 3) 0 0 lv_12 _ h_57 = some r := hr_60
    obtain ⟨lv_63, sl_62, n_64, e_65, hr_66⟩ := iv_istore_n xm_12 xd_12_26 (by decide +kernel) hr_61
    have l_67 := sl_62.2 0 _ l_16 (by decide) (Or.inl rfl)
    have l_68 := sl_62.2 1 _ l_17 (by decide) (Or.inl rfl)
    have l_69 := sl_62.2 2 _ l_18 (by decide) (Or.inl rfl)
    have l_70 := sl_62.1
    obtain ⟨n_71, e_72, hr_73⟩ := iv_iload_n xm_12 xd_12_27 l_70 hr_66
    rcases iv_if 33 xm_12 xd_12_28 (by decide) iv_54 hr_73 with ⟨c_74, n_75, e_76, hr_77⟩ | ⟨c_74, n_75, e_76, hr_77⟩
    · obtain ⟨n_78, e_79, hr_80⟩ := iv_out (j := 2) (z := 0) (Or.inr ⟨rfl, rfl, by decide +kernel⟩) xm_12 xd_12_33 hr_77
      obtain ⟨n_81, e_82, hr_83⟩ := iv_iload_n xm_12 xd_12_36 l_68 hr_80
      obtain ⟨q_84, n_85, e_86, hr_87⟩ := iw_ldx (k := 258) (l := ae_xr9 2) xm_12 xd_12_37 ⟨by decide, by decide⟩ rfl ix1 hr_83
      rcases iv_if 47 xm_12 xd_12_38 (by decide) (sv_g_I (dc_xr_lt 2 _)) hr_87 with ⟨c_88, n_89, e_90, hr_91⟩ | ⟨c_88, n_89, e_90, hr_91⟩
      · obtain ⟨n_92, e_93, hr_94⟩ := iv_aload_n xm_12 xd_12_47 l_67 hr_91
        obtain ⟨n_95, e_96, hr_97⟩ := iv_bipush xm_12 xd_12_48 (by decide) hr_94
        obtain ⟨n_107, r_98, e_108, hc_99, hr_109⟩ := iv_call (Or.inr ⟨rfl, rfl⟩) xm_12 xd_12_50 (by decide +kernel) xm_125 rfl (by decide +kernel) hr_97
        obtain ⟨v_100, d_101, er_102, iv_103, ok_104⟩ := ds_125 _ _ ok_55 (by unfold sv_I; omega) hc_99
        obtain ⟨_, h_106⟩ := r_98
        have er_102 : _ = some (wk_i v_100) := er_102
        subst er_102
        have hr_110 : ae_exe n_107 12 (50 + 3) 0 0 lv_63 _ h_106 = some r := hr_109
        rcases iv_if 58 xm_12 xd_12_53 (by decide) iv_103 hr_110 with ⟨c_111, n_112, e_113, hr_114⟩ | ⟨c_111, n_112, e_113, hr_114⟩
        · obtain ⟨n_115, e_116, hr_117⟩ := iv_aload_n xm_12 xd_12_58 l_67 hr_114
          obtain ⟨n_118, e_119, hr_120⟩ := iv_iconst xm_12 xd_12_59 (by decide) hr_117
          obtain ⟨n_121, e_122, hr_123⟩ := iv_out (j := 2) (z := 0) (Or.inr ⟨rfl, rfl, by decide +kernel⟩) xm_12 xd_12_60 hr_120
          obtain ⟨n_124, e_125, hr_126⟩ := iv_iload_n xm_12 xd_12_63 l_68 hr_123
          obtain ⟨q_127, n_128, e_129, hr_130⟩ := iw_ldx (k := 258) (l := ae_xr9 2) xm_12 xd_12_64 ⟨by decide, by decide⟩ rfl ix1 hr_126
          obtain ⟨n_140, r_131, e_141, hc_132, hr_142⟩ := iv_call (Or.inr ⟨rfl, rfl⟩) xm_12 xd_12_65 (by decide +kernel) xm_126 rfl (by decide +kernel) hr_130
          obtain ⟨v_133, d_134, er_135, iv_136, ok_137⟩ := ds_126 _ _ _ ok_104 (by unfold sv_I; omega) (sv_g_I (dc_xr_lt 2 _)) hc_132
          obtain ⟨_, h_139⟩ := r_131
          have er_135 : _ = some (wk_i v_133) := er_135
          subst er_135
          have hr_143 : ae_exe n_140 12 (65 + 3) 0 0 lv_63 _ h_139 = some r := hr_142
          obtain ⟨lv_145, sl_144, n_146, e_147, hr_148⟩ := iv_istore xm_12 xd_12_68 (by decide +kernel) hr_143
          have l_149 := sl_144.2 0 _ l_67 (by decide) (Or.inl rfl)
          have l_150 := sl_144.2 1 _ l_68 (by decide) (Or.inl rfl)
          have l_151 := sl_144.2 2 _ l_69 (by decide) (Or.inl rfl)
          have l_152 := sl_144.2 3 _ l_70 (by decide) (Or.inl rfl)
          have l_153 := sl_144.1
          obtain ⟨n_154, e_155, hr_156⟩ := iv_iload xm_12 xd_12_70 l_153 hr_148
          rcases iv_if 79 xm_12 xd_12_72 (by decide) iv_136 hr_156 with ⟨c_157, n_158, e_159, hr_160⟩ | ⟨c_157, n_158, e_159, hr_160⟩
          · obtain ⟨n_161, e_162, hr_163⟩ := iv_iload_n xm_12 xd_12_79 l_151 hr_160
            obtain ⟨n_164, e_165, hr_166⟩ := iv_iload_n xm_12 xd_12_80 l_152 hr_163
            obtain ⟨n_167, e_168, hr_169⟩ := iv_iconst xm_12 xd_12_81 (by decide) hr_166
            obtain ⟨n_170, e_171, hr_172⟩ := iw_isub xm_12 xd_12_82 hr_169
            obtain ⟨n_173, e_174, hr_175⟩ := iv_out (j := 2) (z := 0) (Or.inr ⟨rfl, rfl, by decide +kernel⟩) xm_12 xd_12_83 hr_172
            obtain ⟨n_176, e_177, hr_178⟩ := iv_iload_n xm_12 xd_12_86 l_150 hr_175
            obtain ⟨q_179, n_180, e_181, hr_182⟩ := iw_ldx (k := 258) (l := ae_xr9 2) xm_12 xd_12_87 ⟨by decide, by decide⟩ rfl ix1 hr_178
            obtain ⟨n_183, e_184, hr_185⟩ := iw_imul xm_12 xd_12_88 hr_182
            obtain ⟨n_186, e_187, hr_188⟩ := iw_iadd xm_12 xd_12_89 hr_185
            obtain ⟨n_189, e_190, hr_191⟩ := iv_iload xm_12 xd_12_90 l_153 hr_188
            obtain ⟨n_192, e_193, hr_194⟩ := iw_iadd xm_12 xd_12_92 hr_191
            obtain ⟨n_195, e_196, hr_197⟩ := iv_iconst xm_12 xd_12_93 (by decide) hr_194
            obtain ⟨n_198, e_199, hr_200⟩ := iw_isub xm_12 xd_12_94 hr_197
            have rr_201 := iv_ireturn xm_12 xd_12_95 hr_200
            subst rr_201
            exact ⟨_, ⟨q_7, ⟨q_25, Or.inl ⟨c_29, ⟨q_45, ⟨_, _, d_52, Or.inl ⟨c_74, ⟨q_84, Or.inl ⟨c_88, ⟨_, _, d_101, Or.inl ⟨c_111, ⟨q_127, ⟨_, _, d_134, Or.inl ⟨c_157, ⟨q_179, ⟨rfl, rfl⟩⟩⟩⟩⟩⟩⟩⟩⟩⟩⟩⟩⟩⟩⟩, rfl, (dc_w_I _), ok_137⟩
          · obtain ⟨n_202, e_203, hr_204⟩ := iv_iconst xm_12 xd_12_75 (by decide) hr_160
            obtain ⟨n_205, e_206, hr_207⟩ := iv_goto 95 xm_12 xd_12_76 (by decide) hr_204
            have rr_208 := iv_ireturn xm_12 xd_12_95 hr_207
            subst rr_208
            exact ⟨_, ⟨q_7, ⟨q_25, Or.inl ⟨c_29, ⟨q_45, ⟨_, _, d_52, Or.inl ⟨c_74, ⟨q_84, Or.inl ⟨c_88, ⟨_, _, d_101, Or.inl ⟨c_111, ⟨q_127, ⟨_, _, d_134, Or.inr ⟨c_157, ⟨rfl, rfl⟩⟩⟩⟩⟩⟩⟩⟩⟩⟩⟩⟩⟩⟩, rfl, (by unfold sv_I; omega), ok_137⟩
        · obtain ⟨n_209, e_210, hr_211⟩ := iv_iconst xm_12 xd_12_56 (by decide) hr_114
          have rr_212 := iv_ireturn xm_12 xd_12_57 hr_211
          subst rr_212
          exact ⟨_, ⟨q_7, ⟨q_25, Or.inl ⟨c_29, ⟨q_45, ⟨_, _, d_52, Or.inl ⟨c_74, ⟨q_84, Or.inl ⟨c_88, ⟨_, _, d_101, Or.inr ⟨c_111, ⟨rfl, rfl⟩⟩⟩⟩⟩⟩⟩⟩⟩⟩⟩, rfl, (by unfold sv_I; omega), ok_104⟩
      · obtain ⟨n_213, e_214, hr_215⟩ := iv_iload_n xm_12 xd_12_41 l_69 hr_91
        obtain ⟨n_216, e_217, hr_218⟩ := iv_iload_n xm_12 xd_12_42 l_70 hr_215
        obtain ⟨n_219, e_220, hr_221⟩ := iw_iadd xm_12 xd_12_43 hr_218
        obtain ⟨n_222, e_223, hr_224⟩ := iv_iconst xm_12 xd_12_44 (by decide) hr_221
        obtain ⟨n_225, e_226, hr_227⟩ := iw_isub xm_12 xd_12_45 hr_224
        have rr_228 := iv_ireturn xm_12 xd_12_46 hr_227
        subst rr_228
        exact ⟨_, ⟨q_7, ⟨q_25, Or.inl ⟨c_29, ⟨q_45, ⟨_, _, d_52, Or.inl ⟨c_74, ⟨q_84, Or.inr ⟨c_88, ⟨rfl, rfl⟩⟩⟩⟩⟩⟩⟩⟩⟩, rfl, (dc_w_I _), ok_55⟩
    · obtain ⟨n_229, e_230, hr_231⟩ := iv_iconst xm_12 xd_12_31 (by decide) hr_77
      have rr_232 := iv_ireturn xm_12 xd_12_32 hr_231
      subst rr_232
      exact ⟨_, ⟨q_7, ⟨q_25, Or.inl ⟨c_29, ⟨q_45, ⟨_, _, d_52, Or.inr ⟨c_74, ⟨rfl, rfl⟩⟩⟩⟩⟩⟩⟩, rfl, (by unfold sv_I; omega), ok_55⟩
  · obtain ⟨n_233, e_234, hr_235⟩ := iv_iload_n xm_12 xd_12_14 l_18 hr_32
    have rr_236 := iv_ireturn xm_12 xd_12_15 hr_235
    subst rr_236
    exact ⟨_, ⟨q_7, ⟨q_25, Or.inr ⟨c_29, ⟨rfl, rfl⟩⟩⟩⟩, rfl, (sv_g_I (dc_xr_lt 0 _)), ok⟩
/-! method 3 -/
theorem xm_3 : ae_m 3 = some (wk_M 3) := rfl
theorem xd_3_0 : decode (wk_M 3).2.2.1 0 = .ok (.iconst 0, 1) := zd_by (by decide +kernel)
theorem xd_3_1 : decode (wk_M 3).2.2.1 1 = .ok (.istore_n 2, 1) := zd_by (by decide +kernel)
theorem xd_3_2 : decode (wk_M 3).2.2.1 2 = .ok (.iconst 0, 1) := zd_by (by decide +kernel)
theorem xd_3_3 : decode (wk_M 3).2.2.1 3 = .ok (.istore_n 3, 1) := zd_by (by decide +kernel)
theorem xd_3_4 : decode (wk_M 3).2.2.1 4 = .ok (.iload_n 3, 1) := zd_by (by decide +kernel)
theorem xd_3_5 : decode (wk_M 3).2.2.1 5 = .ok (.aload_n 0, 1) := zd_by (by decide +kernel)
theorem xd_3_6 : decode (wk_M 3).2.2.1 6 = .ok (.getfield 18, 3) := zd_by (by decide +kernel)
theorem xd_3_9 : decode (wk_M 3).2.2.1 9 = .ok (.if_icmp .ge 32, 3) := zd_by (by decide +kernel)
theorem xd_3_12 : decode (wk_M 3).2.2.1 12 = .ok (.aload_n 0, 1) := zd_by (by decide +kernel)
theorem xd_3_13 : decode (wk_M 3).2.2.1 13 = .ok (.getfield 11, 3) := zd_by (by decide +kernel)
theorem xd_3_16 : decode (wk_M 3).2.2.1 16 = .ok (.iload_n 3, 1) := zd_by (by decide +kernel)
theorem xd_3_17 : decode (wk_M 3).2.2.1 17 = .ok (.iaload, 1) := zd_by (by decide +kernel)
theorem xd_3_18 : decode (wk_M 3).2.2.1 18 = .ok (.iload_n 1, 1) := zd_by (by decide +kernel)
theorem xd_3_19 : decode (wk_M 3).2.2.1 19 = .ok (.if_icmp .eq 13, 3) := zd_by (by decide +kernel)
theorem xd_3_22 : decode (wk_M 3).2.2.1 22 = .ok (.aload_n 0, 1) := zd_by (by decide +kernel)
theorem xd_3_23 : decode (wk_M 3).2.2.1 23 = .ok (.getfield 15, 3) := zd_by (by decide +kernel)
theorem xd_3_26 : decode (wk_M 3).2.2.1 26 = .ok (.iload_n 3, 1) := zd_by (by decide +kernel)
theorem xd_3_27 : decode (wk_M 3).2.2.1 27 = .ok (.iaload, 1) := zd_by (by decide +kernel)
theorem xd_3_28 : decode (wk_M 3).2.2.1 28 = .ok (.iload_n 1, 1) := zd_by (by decide +kernel)
theorem xd_3_29 : decode (wk_M 3).2.2.1 29 = .ok (.if_icmp .ne 6, 3) := zd_by (by decide +kernel)
theorem xd_3_32 : decode (wk_M 3).2.2.1 32 = .ok (.iinc 2 1, 3) := zd_by (by decide +kernel)
theorem xd_3_35 : decode (wk_M 3).2.2.1 35 = .ok (.iinc 3 1, 3) := zd_by (by decide +kernel)
theorem xd_3_38 : decode (wk_M 3).2.2.1 38 = .ok (.goto (-34), 3) := zd_by (by decide +kernel)
theorem xd_3_41 : decode (wk_M 3).2.2.1 41 = .ok (.iload_n 2, 1) := zd_by (by decide +kernel)
theorem xd_3_42 : decode (wk_M 3).2.2.1 42 = .ok (.ireturn, 1) := zd_by (by decide +kernel)
def LM_3 (k0 : Nat) (x0 : Int) : Nat → Nat → Int → Int → dc_M → Int → dc_M → Prop
  | 0, _, _, _, _, _, _ => False
  | c + 1, tag, l2, l3, m, v, m' => match tag with
    | _ => (((l3 : Int) ≥ (m k0 2) ∧ (v = l2 ∧ m' = m)) ∨ (¬ ((l3 : Int) ≥ (m k0 2)) ∧ ((0 ≤ (l3 : Int) ∧ (l3 : Int) < 60) ∧ (((((m (k0 + 1) l3) : Int) = x0 ∧ (LM_3 k0 x0 c 4 (dc_w (l2 + 1)) (dc_w (l3 + 1)) m v m')) ∨ (¬ (((m (k0 + 1) l3) : Int) = x0) ∧ ((0 ≤ (l3 : Int) ∧ (l3 : Int) < 60) ∧ (((((m (k0 + 2) l3) : Int) ≠ x0 ∧ (LM_3 k0 x0 c 4 l2 (dc_w (l3 + 1)) m v m')) ∨ (¬ (((m (k0 + 2) l3) : Int) ≠ x0) ∧ (LM_3 k0 x0 c 4 (dc_w (l2 + 1)) (dc_w (l3 + 1)) m v m')))))))))))
theorem lm_3_4 {k0 : Nat} {x0 : Int} {c : Nat} {l2 : Int} {l3 : Int} {m : dc_M} {v : Int} {m' : dc_M} : LM_3 k0 x0 (c + 1) 4 l2 l3 m v m' ↔ (((l3 : Int) ≥ (m k0 2) ∧ (v = l2 ∧ m' = m)) ∨ (¬ ((l3 : Int) ≥ (m k0 2)) ∧ ((0 ≤ (l3 : Int) ∧ (l3 : Int) < 60) ∧ (((((m (k0 + 1) l3) : Int) = x0 ∧ (LM_3 k0 x0 c 4 (dc_w (l2 + 1)) (dc_w (l3 + 1)) m v m')) ∨ (¬ (((m (k0 + 1) l3) : Int) = x0) ∧ ((0 ≤ (l3 : Int) ∧ (l3 : Int) < 60) ∧ (((((m (k0 + 2) l3) : Int) ≠ x0 ∧ (LM_3 k0 x0 c 4 l2 (dc_w (l3 + 1)) m v m')) ∨ (¬ (((m (k0 + 2) l3) : Int) ≠ x0) ∧ (LM_3 k0 x0 c 4 (dc_w (l2 + 1)) (dc_w (l3 + 1)) m v m'))))))))))) := Iff.rfl
theorem dl_3 {k0 : Nat} {x0 : Int} (t_k0 : sv_ty k0 = some 0) (ix0 : sv_I x0) : ∀ N : Nat, (∀ (n : Nat) (lv : ae_L) (h : ae_H) (r : ae_R) (l2 : Int) (l3 : Int), n ≤ N → dc_ok h → sv_I l2 → sv_I l3 → ae_lk lv 0 = some (wk_r k0) → ae_lk lv 1 = some (wk_i x0) → ae_lk lv 2 = some (wk_i l2) → ae_lk lv 3 = some (wk_i l3) → ae_exe n 3 4 0 0 lv [] h = some r → ∃ v, (∃ c, LM_3 k0 x0 c 4 l2 l3 (dc_m h) v (dc_m r.2)) ∧ r.1 = some (wk_i v) ∧ sv_I v ∧ dc_ok r.2) := by
  intro N
  induction N with
  | zero =>
    exact fun n lv h r l2 l3 hn ok il2 il3 q0 q1 q2 q3 hr => by
      have e : n = 0 := by omega
      subst e
      cases hr
  | succ N ih =>
    have ih0 := ih
    intro n lv h r l2 l3 hn ok il2 il3 q0 q1 q2 q3 hr
    obtain ⟨n_1, e_2, hr_3⟩ := iv_iload_n xm_3 xd_3_4 q3 hr
    obtain ⟨n_4, e_5, hr_6⟩ := iv_aload_n xm_3 xd_3_5 q0 hr_3
    have f_7 := dc_fi (j := 2) ok t_k0 dt_0 rfl
    obtain ⟨n_8, e_9, hr_10⟩ := iv_getf (j := 2) xm_3 xd_3_6 (by decide +kernel) ok t_k0 dt_0 f_7.1 hr_6
    rcases iv_icmp 41 xm_3 xd_3_9 (by decide) il3 f_7.2 hr_10 with ⟨c_11, n_12, e_13, hr_14⟩ | ⟨c_11, n_12, e_13, hr_14⟩
    · obtain ⟨n_15, e_16, hr_17⟩ := iv_iload_n xm_3 xd_3_41 q2 hr_14
      have rr_18 := iv_ireturn xm_3 xd_3_42 hr_17
      subst rr_18
      exact ⟨_, ⟨0 + 1, lm_3_4.mpr (Or.inl ⟨c_11, ⟨rfl, rfl⟩⟩)⟩, rfl, il2, ok⟩
    · obtain ⟨n_19, e_20, hr_21⟩ := iv_aload_n xm_3 xd_3_12 q0 hr_14
      have f_22 := dc_fr (j := 0) ok t_k0 dt_0 rfl
      obtain ⟨n_23, e_24, hr_25⟩ := iv_getf (j := 0) xm_3 xd_3_13 (by decide +kernel) ok t_k0 dt_0 f_22 hr_21
      obtain ⟨n_26, e_27, hr_28⟩ := iv_iload_n xm_3 xd_3_16 q3 hr_25
      obtain ⟨q_29, qi_30, n_31, e_32, hr_33⟩ := iv_iald xm_3 xd_3_17 ok (do_0_0 t_k0) dt_21 (by decide) il3 hr_28
      obtain ⟨n_34, e_35, hr_36⟩ := iv_iload_n xm_3 xd_3_18 q1 hr_33
      rcases iv_icmp 32 xm_3 xd_3_19 (by decide) qi_30 ix0 hr_36 with ⟨c_37, n_38, e_39, hr_40⟩ | ⟨c_37, n_38, e_39, hr_40⟩
      · obtain ⟨lv_42, sl_41, n_43, e_44, hr_45⟩ := iw_iinc xm_3 xd_3_32 (by decide +kernel) (by decide) q2 hr_40
        have l_46 := sl_41.2 0 _ q0 (by decide) (Or.inl rfl)
        have l_47 := sl_41.2 1 _ q1 (by decide) (Or.inl rfl)
        have l_48 := sl_41.2 3 _ q3 (by decide) (Or.inl rfl)
        have l_49 := sl_41.1
        obtain ⟨lv_51, sl_50, n_52, e_53, hr_54⟩ := iw_iinc xm_3 xd_3_35 (by decide +kernel) (by decide) l_48 hr_45
        have l_55 := sl_50.2 0 _ l_46 (by decide) (Or.inl rfl)
        have l_56 := sl_50.2 1 _ l_47 (by decide) (Or.inl rfl)
        have l_57 := sl_50.2 2 _ l_49 (by decide) (Or.inl rfl)
        have l_58 := sl_50.1
        obtain ⟨n_59, e_60, hr_61⟩ := iv_goto 4 xm_3 xd_3_38 (by decide) hr_54
        obtain ⟨v, ⟨c, hL⟩, e1, e2, e3⟩ := ih0 _ lv_51 h _ _ _ (by omega) ok (dc_w_I _) (dc_w_I _) l_55 l_56 l_57 l_58 hr_61
        exact ⟨v, ⟨c + 1, lm_3_4.mpr (Or.inr ⟨c_11, ⟨q_29, Or.inl ⟨c_37, hL⟩⟩⟩)⟩, e1, e2, e3⟩
      · obtain ⟨n_62, e_63, hr_64⟩ := iv_aload_n xm_3 xd_3_22 q0 hr_40
        have f_65 := dc_fr (j := 1) ok t_k0 dt_0 rfl
        obtain ⟨n_66, e_67, hr_68⟩ := iv_getf (j := 1) xm_3 xd_3_23 (by decide +kernel) ok t_k0 dt_0 f_65 hr_64
        obtain ⟨n_69, e_70, hr_71⟩ := iv_iload_n xm_3 xd_3_26 q3 hr_68
        obtain ⟨q_72, qi_73, n_74, e_75, hr_76⟩ := iv_iald xm_3 xd_3_27 ok (do_0_1 t_k0) dt_21 (by decide) il3 hr_71
        obtain ⟨n_77, e_78, hr_79⟩ := iv_iload_n xm_3 xd_3_28 q1 hr_76
        rcases iv_icmp 35 xm_3 xd_3_29 (by decide) qi_73 ix0 hr_79 with ⟨c_80, n_81, e_82, hr_83⟩ | ⟨c_80, n_81, e_82, hr_83⟩
        · obtain ⟨lv_85, sl_84, n_86, e_87, hr_88⟩ := iw_iinc xm_3 xd_3_35 (by decide +kernel) (by decide) q3 hr_83
          have l_89 := sl_84.2 0 _ q0 (by decide) (Or.inl rfl)
          have l_90 := sl_84.2 1 _ q1 (by decide) (Or.inl rfl)
          have l_91 := sl_84.2 2 _ q2 (by decide) (Or.inl rfl)
          have l_92 := sl_84.1
          obtain ⟨n_93, e_94, hr_95⟩ := iv_goto 4 xm_3 xd_3_38 (by decide) hr_88
          obtain ⟨v, ⟨c, hL⟩, e1, e2, e3⟩ := ih0 _ lv_85 h _ _ _ (by omega) ok il2 (dc_w_I _) l_89 l_90 l_91 l_92 hr_95
          exact ⟨v, ⟨c + 1, lm_3_4.mpr (Or.inr ⟨c_11, ⟨q_29, Or.inr ⟨c_37, ⟨q_72, Or.inl ⟨c_80, hL⟩⟩⟩⟩⟩)⟩, e1, e2, e3⟩
        · obtain ⟨lv_97, sl_96, n_98, e_99, hr_100⟩ := iw_iinc xm_3 xd_3_32 (by decide +kernel) (by decide) q2 hr_83
          have l_101 := sl_96.2 0 _ q0 (by decide) (Or.inl rfl)
          have l_102 := sl_96.2 1 _ q1 (by decide) (Or.inl rfl)
          have l_103 := sl_96.2 3 _ q3 (by decide) (Or.inl rfl)
          have l_104 := sl_96.1
          obtain ⟨lv_106, sl_105, n_107, e_108, hr_109⟩ := iw_iinc xm_3 xd_3_35 (by decide +kernel) (by decide) l_103 hr_100
          have l_110 := sl_105.2 0 _ l_101 (by decide) (Or.inl rfl)
          have l_111 := sl_105.2 1 _ l_102 (by decide) (Or.inl rfl)
          have l_112 := sl_105.2 2 _ l_104 (by decide) (Or.inl rfl)
          have l_113 := sl_105.1
          obtain ⟨n_114, e_115, hr_116⟩ := iv_goto 4 xm_3 xd_3_38 (by decide) hr_109
          obtain ⟨v, ⟨c, hL⟩, e1, e2, e3⟩ := ih0 _ lv_106 h _ _ _ (by omega) ok (dc_w_I _) (dc_w_I _) l_110 l_111 l_112 l_113 hr_116
          exact ⟨v, ⟨c + 1, lm_3_4.mpr (Or.inr ⟨c_11, ⟨q_29, Or.inr ⟨c_37, ⟨q_72, Or.inr ⟨c_80, hL⟩⟩⟩⟩⟩)⟩, e1, e2, e3⟩
abbrev D_3 (k0 : Nat) (x0 : Int) (m : dc_M) (v : Int) (m' : dc_M) : Prop := ∃ c, LM_3 k0 x0 c 4 0 0 m v m'
theorem ds_3 (n : Nat) (k0 : Nat) (x0 : Int) {h : ae_H} {r : ae_R} (ok : dc_ok h) (t_k0 : sv_ty k0 = some 0) (ix0 : sv_I x0) (hr : ae_exe n 3 0 0 0 (ae_args [wk_r k0, wk_i x0] 0) [] h = some r) : ∃ v, D_3 k0 x0 (dc_m h) v (dc_m r.2) ∧ r.1 = some (wk_i v) ∧ sv_I v ∧ dc_ok r.2 := by
  have q0 : ae_lk (ae_args [wk_r k0, wk_i x0] 0) 0 = some (wk_r k0) := rfl
  have q1 : ae_lk (ae_args [wk_r k0, wk_i x0] 0) 1 = some (wk_i x0) := rfl
  obtain ⟨n_117, e_118, hr_119⟩ := iv_iconst xm_3 xd_3_0 (by decide) hr
  obtain ⟨lv_121, sl_120, n_122, e_123, hr_124⟩ := iv_istore_n xm_3 xd_3_1 (by decide +kernel) hr_119
  have l_125 := sl_120.2 0 _ q0 (by decide) (Or.inl rfl)
  have l_126 := sl_120.2 1 _ q1 (by decide) (Or.inl rfl)
  have l_127 := sl_120.1
  obtain ⟨n_128, e_129, hr_130⟩ := iv_iconst xm_3 xd_3_2 (by decide) hr_124
  obtain ⟨lv_132, sl_131, n_133, e_134, hr_135⟩ := iv_istore_n xm_3 xd_3_3 (by decide +kernel) hr_130
  have l_136 := sl_131.2 0 _ l_125 (by decide) (Or.inl rfl)
  have l_137 := sl_131.2 1 _ l_126 (by decide) (Or.inl rfl)
  have l_138 := sl_131.2 2 _ l_127 (by decide) (Or.inl rfl)
  have l_139 := sl_131.1
  obtain ⟨v, ⟨c, hL⟩, e1, e2, e3⟩ := (dl_3 t_k0 ix0 _) _ lv_132 h _ _ _ (Nat.le_refl _) ok (by unfold sv_I; omega) (by unfold sv_I; omega) l_136 l_137 l_138 l_139 hr_135
  exact ⟨v, ⟨_, hL⟩, e1, e2, e3⟩
/-! method 4 -/
theorem xm_4 : ae_m 4 = some (wk_M 4) := rfl
theorem xd_4_0 : decode (wk_M 4).2.2.1 0 = .ok (.iload_n 1, 1) := zd_by (by decide +kernel)
theorem xd_4_1 : decode (wk_M 4).2.2.1 1 = .ok (.bipush 96, 2) := zd_by (by decide +kernel)
theorem xd_4_3 : decode (wk_M 4).2.2.1 3 = .ok (.if_icmp .lt 14, 3) := zd_by (by decide +kernel)
theorem xd_4_6 : decode (wk_M 4).2.2.1 6 = .ok (.iload_n 1, 1) := zd_by (by decide +kernel)
theorem xd_4_7 : decode (wk_M 4).2.2.1 7 = .ok (.sipush 181, 3) := zd_by (by decide +kernel)
theorem xd_4_10 : decode (wk_M 4).2.2.1 10 = .ok (.if_icmp .ge 7, 3) := zd_by (by decide +kernel)
theorem xd_4_13 : decode (wk_M 4).2.2.1 13 = .ok (.iconst 1, 1) := zd_by (by decide +kernel)
theorem xd_4_14 : decode (wk_M 4).2.2.1 14 = .ok (.goto 4, 3) := zd_by (by decide +kernel)
theorem xd_4_17 : decode (wk_M 4).2.2.1 17 = .ok (.iconst 0, 1) := zd_by (by decide +kernel)
theorem xd_4_18 : decode (wk_M 4).2.2.1 18 = .ok (.istore_n 2, 1) := zd_by (by decide +kernel)
theorem xd_4_19 : decode (wk_M 4).2.2.1 19 = .ok (.aload_n 0, 1) := zd_by (by decide +kernel)
theorem xd_4_20 : decode (wk_M 4).2.2.1 20 = .ok (.iload_n 1, 1) := zd_by (by decide +kernel)
theorem xd_4_21 : decode (wk_M 4).2.2.1 21 = .ok (.invokevirtual 28, 3) := zd_by (by decide +kernel)
theorem xd_4_24 : decode (wk_M 4).2.2.1 24 = .ok (.iload_n 2, 1) := zd_by (by decide +kernel)
theorem xd_4_25 : decode (wk_M 4).2.2.1 25 = .ok (.ifCond .eq 7, 3) := zd_by (by decide +kernel)
theorem xd_4_28 : decode (wk_M 4).2.2.1 28 = .ok (.iconst 1, 1) := zd_by (by decide +kernel)
theorem xd_4_29 : decode (wk_M 4).2.2.1 29 = .ok (.goto 5, 3) := zd_by (by decide +kernel)
theorem xd_4_32 : decode (wk_M 4).2.2.1 32 = .ok (.bipush 8, 2) := zd_by (by decide +kernel)
theorem xd_4_34 : decode (wk_M 4).2.2.1 34 = .ok (.if_icmp .ge 7, 3) := zd_by (by decide +kernel)
theorem xd_4_37 : decode (wk_M 4).2.2.1 37 = .ok (.iconst 1, 1) := zd_by (by decide +kernel)
theorem xd_4_38 : decode (wk_M 4).2.2.1 38 = .ok (.goto 4, 3) := zd_by (by decide +kernel)
theorem xd_4_41 : decode (wk_M 4).2.2.1 41 = .ok (.iconst 0, 1) := zd_by (by decide +kernel)
theorem xd_4_42 : decode (wk_M 4).2.2.1 42 = .ok (.ireturn, 1) := zd_by (by decide +kernel)
abbrev D_4 (k0 : Nat) (x0 : Int) (m : dc_M) (v : Int) (m' : dc_M) : Prop := (((x0 : Int) < 96 ∧ (∃ v_30 m_35, D_3 k0 x0 m v_30 m_35 ∧ ((((v_30 : Int) ≥ 8 ∧ (v = 0 ∧ m' = m_35)) ∨ (¬ ((v_30 : Int) ≥ 8) ∧ (v = 1 ∧ m' = m_35)))))) ∨ (¬ ((x0 : Int) < 96) ∧ ((((x0 : Int) ≥ 181 ∧ (∃ v_95 m_100, D_3 k0 x0 m v_95 m_100 ∧ ((((v_95 : Int) ≥ 8 ∧ (v = 0 ∧ m' = m_100)) ∨ (¬ ((v_95 : Int) ≥ 8) ∧ (v = 1 ∧ m' = m_100)))))) ∨ (¬ ((x0 : Int) ≥ 181) ∧ (∃ v_153 m_158, D_3 k0 x0 m v_153 m_158 ∧ ((((v_153 : Int) ≥ 1 ∧ (v = 0 ∧ m' = m_158)) ∨ (¬ ((v_153 : Int) ≥ 1) ∧ (v = 1 ∧ m' = m_158))))))))))
theorem ds_4 (n : Nat) (k0 : Nat) (x0 : Int) {h : ae_H} {r : ae_R} (ok : dc_ok h) (t_k0 : sv_ty k0 = some 0) (ix0 : sv_I x0) (hr : ae_exe n 4 0 0 0 (ae_args [wk_r k0, wk_i x0] 0) [] h = some r) : ∃ v, D_4 k0 x0 (dc_m h) v (dc_m r.2) ∧ r.1 = some (wk_i v) ∧ sv_I v ∧ dc_ok r.2 := by
  have q0 : ae_lk (ae_args [wk_r k0, wk_i x0] 0) 0 = some (wk_r k0) := rfl
  have q1 : ae_lk (ae_args [wk_r k0, wk_i x0] 0) 1 = some (wk_i x0) := rfl
  obtain ⟨n_1, e_2, hr_3⟩ := iv_iload_n xm_4 xd_4_0 q1 hr
  obtain ⟨n_4, e_5, hr_6⟩ := iv_bipush xm_4 xd_4_1 (by decide) hr_3
  rcases iv_icmp 17 xm_4 xd_4_3 (by decide) ix0 (by unfold sv_I; omega) hr_6 with ⟨c_7, n_8, e_9, hr_10⟩ | ⟨c_7, n_8, e_9, hr_10⟩
  · obtain ⟨n_11, e_12, hr_13⟩ := iv_iconst xm_4 xd_4_17 (by decide) hr_10
    obtain ⟨lv_15, sl_14, n_16, e_17, hr_18⟩ := iv_istore_n xm_4 xd_4_18 (by decide +kernel) hr_13
    have l_19 := sl_14.2 0 _ q0 (by decide) (Or.inl rfl)
    have l_20 := sl_14.2 1 _ q1 (by decide) (Or.inl rfl)
    have l_21 := sl_14.1
    obtain ⟨n_22, e_23, hr_24⟩ := iv_aload_n xm_4 xd_4_19 l_19 hr_18
    obtain ⟨n_25, e_26, hr_27⟩ := iv_iload_n xm_4 xd_4_20 l_20 hr_24
    obtain ⟨n_37, r_28, e_38, hc_29, hr_39⟩ := iv_call (Or.inr ⟨rfl, rfl⟩) xm_4 xd_4_21 (by decide +kernel) xm_3 rfl (by decide +kernel) hr_27
    obtain ⟨v_30, d_31, er_32, iv_33, ok_34⟩ := ds_3 _ _ _ ok t_k0 ix0 hc_29
    obtain ⟨_, h_36⟩ := r_28
    have er_32 : _ = some (wk_i v_30) := er_32
    subst er_32
    have hr_40 : ae_exe n_37 4 (21 + 3) 0 0 lv_15 _ h_36 = some r := hr_39
    obtain ⟨n_41, e_42, hr_43⟩ := iv_iload_n xm_4 xd_4_24 l_21 hr_40
    rcases iv_if 32 xm_4 xd_4_25 (by decide) (by unfold sv_I; omega) hr_43 with ⟨c_44, n_45, e_46, hr_47⟩ | ⟨c_44, n_45, e_46, hr_47⟩
    rotate_left
    · exact absurd (show ¬ ((0 : Int) = 0) from c_44) (by decide)
    obtain ⟨n_48, e_49, hr_50⟩ := iv_bipush xm_4 xd_4_32 (by decide) hr_47
    rcases iv_icmp 41 xm_4 xd_4_34 (by decide) iv_33 (by unfold sv_I; omega) hr_50 with ⟨c_51, n_52, e_53, hr_54⟩ | ⟨c_51, n_52, e_53, hr_54⟩
    · obtain ⟨n_55, e_56, hr_57⟩ := iv_iconst xm_4 xd_4_41 (by decide) hr_54
      have rr_58 := iv_ireturn xm_4 xd_4_42 hr_57
      subst rr_58
      exact ⟨_, Or.inl ⟨c_7, ⟨_, _, d_31, Or.inl ⟨c_51, ⟨rfl, rfl⟩⟩⟩⟩, rfl, (by unfold sv_I; omega), ok_34⟩
    · obtain ⟨n_59, e_60, hr_61⟩ := iv_iconst xm_4 xd_4_37 (by decide) hr_54
      obtain ⟨n_62, e_63, hr_64⟩ := iv_goto 42 xm_4 xd_4_38 (by decide) hr_61
      have rr_65 := iv_ireturn xm_4 xd_4_42 hr_64
      subst rr_65
      exact ⟨_, Or.inl ⟨c_7, ⟨_, _, d_31, Or.inr ⟨c_51, ⟨rfl, rfl⟩⟩⟩⟩, rfl, (by unfold sv_I; omega), ok_34⟩
  · obtain ⟨n_66, e_67, hr_68⟩ := iv_iload_n xm_4 xd_4_6 q1 hr_10
    obtain ⟨n_69, e_70, hr_71⟩ := iv_sipush xm_4 xd_4_7 (by decide) hr_68
    rcases iv_icmp 17 xm_4 xd_4_10 (by decide) ix0 (by unfold sv_I; omega) hr_71 with ⟨c_72, n_73, e_74, hr_75⟩ | ⟨c_72, n_73, e_74, hr_75⟩
    · obtain ⟨n_76, e_77, hr_78⟩ := iv_iconst xm_4 xd_4_17 (by decide) hr_75
      obtain ⟨lv_80, sl_79, n_81, e_82, hr_83⟩ := iv_istore_n xm_4 xd_4_18 (by decide +kernel) hr_78
      have l_84 := sl_79.2 0 _ q0 (by decide) (Or.inl rfl)
      have l_85 := sl_79.2 1 _ q1 (by decide) (Or.inl rfl)
      have l_86 := sl_79.1
      obtain ⟨n_87, e_88, hr_89⟩ := iv_aload_n xm_4 xd_4_19 l_84 hr_83
      obtain ⟨n_90, e_91, hr_92⟩ := iv_iload_n xm_4 xd_4_20 l_85 hr_89
      obtain ⟨n_102, r_93, e_103, hc_94, hr_104⟩ := iv_call (Or.inr ⟨rfl, rfl⟩) xm_4 xd_4_21 (by decide +kernel) xm_3 rfl (by decide +kernel) hr_92
      obtain ⟨v_95, d_96, er_97, iv_98, ok_99⟩ := ds_3 _ _ _ ok t_k0 ix0 hc_94
      obtain ⟨_, h_101⟩ := r_93
      have er_97 : _ = some (wk_i v_95) := er_97
      subst er_97
      have hr_105 : ae_exe n_102 4 (21 + 3) 0 0 lv_80 _ h_101 = some r := hr_104
      obtain ⟨n_106, e_107, hr_108⟩ := iv_iload_n xm_4 xd_4_24 l_86 hr_105
      rcases iv_if 32 xm_4 xd_4_25 (by decide) (by unfold sv_I; omega) hr_108 with ⟨c_109, n_110, e_111, hr_112⟩ | ⟨c_109, n_110, e_111, hr_112⟩
      rotate_left
      · exact absurd (show ¬ ((0 : Int) = 0) from c_109) (by decide)
      obtain ⟨n_113, e_114, hr_115⟩ := iv_bipush xm_4 xd_4_32 (by decide) hr_112
      rcases iv_icmp 41 xm_4 xd_4_34 (by decide) iv_98 (by unfold sv_I; omega) hr_115 with ⟨c_116, n_117, e_118, hr_119⟩ | ⟨c_116, n_117, e_118, hr_119⟩
      · obtain ⟨n_120, e_121, hr_122⟩ := iv_iconst xm_4 xd_4_41 (by decide) hr_119
        have rr_123 := iv_ireturn xm_4 xd_4_42 hr_122
        subst rr_123
        exact ⟨_, Or.inr ⟨c_7, Or.inl ⟨c_72, ⟨_, _, d_96, Or.inl ⟨c_116, ⟨rfl, rfl⟩⟩⟩⟩⟩, rfl, (by unfold sv_I; omega), ok_99⟩
      · obtain ⟨n_124, e_125, hr_126⟩ := iv_iconst xm_4 xd_4_37 (by decide) hr_119
        obtain ⟨n_127, e_128, hr_129⟩ := iv_goto 42 xm_4 xd_4_38 (by decide) hr_126
        have rr_130 := iv_ireturn xm_4 xd_4_42 hr_129
        subst rr_130
        exact ⟨_, Or.inr ⟨c_7, Or.inl ⟨c_72, ⟨_, _, d_96, Or.inr ⟨c_116, ⟨rfl, rfl⟩⟩⟩⟩⟩, rfl, (by unfold sv_I; omega), ok_99⟩
    · obtain ⟨n_131, e_132, hr_133⟩ := iv_iconst xm_4 xd_4_13 (by decide) hr_75
      obtain ⟨n_134, e_135, hr_136⟩ := iv_goto 18 xm_4 xd_4_14 (by decide) hr_133
      obtain ⟨lv_138, sl_137, n_139, e_140, hr_141⟩ := iv_istore_n xm_4 xd_4_18 (by decide +kernel) hr_136
      have l_142 := sl_137.2 0 _ q0 (by decide) (Or.inl rfl)
      have l_143 := sl_137.2 1 _ q1 (by decide) (Or.inl rfl)
      have l_144 := sl_137.1
      obtain ⟨n_145, e_146, hr_147⟩ := iv_aload_n xm_4 xd_4_19 l_142 hr_141
      obtain ⟨n_148, e_149, hr_150⟩ := iv_iload_n xm_4 xd_4_20 l_143 hr_147
      obtain ⟨n_160, r_151, e_161, hc_152, hr_162⟩ := iv_call (Or.inr ⟨rfl, rfl⟩) xm_4 xd_4_21 (by decide +kernel) xm_3 rfl (by decide +kernel) hr_150
      obtain ⟨v_153, d_154, er_155, iv_156, ok_157⟩ := ds_3 _ _ _ ok t_k0 ix0 hc_152
      obtain ⟨_, h_159⟩ := r_151
      have er_155 : _ = some (wk_i v_153) := er_155
      subst er_155
      have hr_163 : ae_exe n_160 4 (21 + 3) 0 0 lv_138 _ h_159 = some r := hr_162
      obtain ⟨n_164, e_165, hr_166⟩ := iv_iload_n xm_4 xd_4_24 l_144 hr_163
      rcases iv_if 32 xm_4 xd_4_25 (by decide) (by unfold sv_I; omega) hr_166 with ⟨c_167, n_168, e_169, hr_170⟩ | ⟨c_167, n_168, e_169, hr_170⟩
      · exact absurd (show (1 : Int) = 0 from c_167) (by decide)
      obtain ⟨n_171, e_172, hr_173⟩ := iv_iconst xm_4 xd_4_28 (by decide) hr_170
      obtain ⟨n_174, e_175, hr_176⟩ := iv_goto 34 xm_4 xd_4_29 (by decide) hr_173
      rcases iv_icmp 41 xm_4 xd_4_34 (by decide) iv_156 (by unfold sv_I; omega) hr_176 with ⟨c_177, n_178, e_179, hr_180⟩ | ⟨c_177, n_178, e_179, hr_180⟩
      · obtain ⟨n_181, e_182, hr_183⟩ := iv_iconst xm_4 xd_4_41 (by decide) hr_180
        have rr_184 := iv_ireturn xm_4 xd_4_42 hr_183
        subst rr_184
        exact ⟨_, Or.inr ⟨c_7, Or.inr ⟨c_72, ⟨_, _, d_154, Or.inl ⟨c_177, ⟨rfl, rfl⟩⟩⟩⟩⟩, rfl, (by unfold sv_I; omega), ok_157⟩
      · obtain ⟨n_185, e_186, hr_187⟩ := iv_iconst xm_4 xd_4_37 (by decide) hr_180
        obtain ⟨n_188, e_189, hr_190⟩ := iv_goto 42 xm_4 xd_4_38 (by decide) hr_187
        have rr_191 := iv_ireturn xm_4 xd_4_42 hr_190
        subst rr_191
        exact ⟨_, Or.inr ⟨c_7, Or.inr ⟨c_72, ⟨_, _, d_154, Or.inr ⟨c_177, ⟨rfl, rfl⟩⟩⟩⟩⟩, rfl, (by unfold sv_I; omega), ok_157⟩
/-! method 2 -/
theorem xm_2 : ae_m 2 = some (wk_M 2) := rfl
theorem xd_2_0 : decode (wk_M 2).2.2.1 0 = .ok (.aload_n 0, 1) := zd_by (by decide +kernel)
theorem xd_2_1 : decode (wk_M 2).2.2.1 1 = .ok (.getfield 18, 3) := zd_by (by decide +kernel)
theorem xd_2_4 : decode (wk_M 2).2.2.1 4 = .ok (.bipush 60, 2) := zd_by (by decide +kernel)
theorem xd_2_6 : decode (wk_M 2).2.2.1 6 = .ok (.if_icmp .lt 5, 3) := zd_by (by decide +kernel)
theorem xd_2_9 : decode (wk_M 2).2.2.1 9 = .ok (.iconst 0, 1) := zd_by (by decide +kernel)
theorem xd_2_10 : decode (wk_M 2).2.2.1 10 = .ok (.ireturn, 1) := zd_by (by decide +kernel)
theorem xd_2_11 : decode (wk_M 2).2.2.1 11 = .ok (.aload_n 0, 1) := zd_by (by decide +kernel)
theorem xd_2_12 : decode (wk_M 2).2.2.1 12 = .ok (.getfield 11, 3) := zd_by (by decide +kernel)
theorem xd_2_15 : decode (wk_M 2).2.2.1 15 = .ok (.aload_n 0, 1) := zd_by (by decide +kernel)
theorem xd_2_16 : decode (wk_M 2).2.2.1 16 = .ok (.getfield 18, 3) := zd_by (by decide +kernel)
theorem xd_2_19 : decode (wk_M 2).2.2.1 19 = .ok (.iload_n 1, 1) := zd_by (by decide +kernel)
theorem xd_2_20 : decode (wk_M 2).2.2.1 20 = .ok (.iastore, 1) := zd_by (by decide +kernel)
theorem xd_2_21 : decode (wk_M 2).2.2.1 21 = .ok (.aload_n 0, 1) := zd_by (by decide +kernel)
theorem xd_2_22 : decode (wk_M 2).2.2.1 22 = .ok (.getfield 15, 3) := zd_by (by decide +kernel)
theorem xd_2_25 : decode (wk_M 2).2.2.1 25 = .ok (.aload_n 0, 1) := zd_by (by decide +kernel)
theorem xd_2_26 : decode (wk_M 2).2.2.1 26 = .ok (.getfield 18, 3) := zd_by (by decide +kernel)
theorem xd_2_29 : decode (wk_M 2).2.2.1 29 = .ok (.iload_n 2, 1) := zd_by (by decide +kernel)
theorem xd_2_30 : decode (wk_M 2).2.2.1 30 = .ok (.iastore, 1) := zd_by (by decide +kernel)
theorem xd_2_31 : decode (wk_M 2).2.2.1 31 = .ok (.aload_n 0, 1) := zd_by (by decide +kernel)
theorem xd_2_32 : decode (wk_M 2).2.2.1 32 = .ok (.dup, 1) := zd_by (by decide +kernel)
theorem xd_2_33 : decode (wk_M 2).2.2.1 33 = .ok (.getfield 18, 3) := zd_by (by decide +kernel)
theorem xd_2_36 : decode (wk_M 2).2.2.1 36 = .ok (.iconst 1, 1) := zd_by (by decide +kernel)
theorem xd_2_37 : decode (wk_M 2).2.2.1 37 = .ok (.iadd, 1) := zd_by (by decide +kernel)
theorem xd_2_38 : decode (wk_M 2).2.2.1 38 = .ok (.putfield 18, 3) := zd_by (by decide +kernel)
theorem xd_2_41 : decode (wk_M 2).2.2.1 41 = .ok (.iconst 1, 1) := zd_by (by decide +kernel)
theorem xd_2_42 : decode (wk_M 2).2.2.1 42 = .ok (.ireturn, 1) := zd_by (by decide +kernel)
abbrev D_2 (k0 : Nat) (x0 : Int) (x1 : Int) (m : dc_M) (v : Int) (m' : dc_M) : Prop := ((((m k0 2) : Int) < 60 ∧ ((0 ≤ ((m k0 2) : Int) ∧ ((m k0 2) : Int) < 60) ∧ ∃ m_36, m_36 = dc_up m (k0 + 1) (m k0 2) x0 ∧ ((0 ≤ ((m_36 k0 2) : Int) ∧ ((m_36 k0 2) : Int) < 60) ∧ ∃ m_61, m_61 = dc_up m_36 (k0 + 2) (m_36 k0 2) x1 ∧ (∃ m_84, m_84 = dc_up m_61 k0 2 (dc_w ((m_61 k0 2) + 1)) ∧ (v = 1 ∧ m' = m_84))))) ∨ (¬ (((m k0 2) : Int) < 60) ∧ (v = 0 ∧ m' = m)))
theorem ds_2 (n : Nat) (k0 : Nat) (x0 : Int) (x1 : Int) {h : ae_H} {r : ae_R} (ok : dc_ok h) (t_k0 : sv_ty k0 = some 0) (ix0 : sv_I x0) (ix1 : sv_I x1) (hr : ae_exe n 2 0 0 0 (ae_args [wk_r k0, wk_i x0, wk_i x1] 0) [] h = some r) : ∃ v, D_2 k0 x0 x1 (dc_m h) v (dc_m r.2) ∧ r.1 = some (wk_i v) ∧ sv_I v ∧ dc_ok r.2 := by
  have q0 : ae_lk (ae_args [wk_r k0, wk_i x0, wk_i x1] 0) 0 = some (wk_r k0) := rfl
  have q1 : ae_lk (ae_args [wk_r k0, wk_i x0, wk_i x1] 0) 1 = some (wk_i x0) := rfl
  have q2 : ae_lk (ae_args [wk_r k0, wk_i x0, wk_i x1] 0) 2 = some (wk_i x1) := rfl
  obtain ⟨n_1, e_2, hr_3⟩ := iv_aload_n xm_2 xd_2_0 q0 hr
  have f_4 := dc_fi (j := 2) ok t_k0 dt_0 rfl
  obtain ⟨n_5, e_6, hr_7⟩ := iv_getf (j := 2) xm_2 xd_2_1 (by decide +kernel) ok t_k0 dt_0 f_4.1 hr_3
  obtain ⟨n_8, e_9, hr_10⟩ := iv_bipush xm_2 xd_2_4 (by decide) hr_7
  rcases iv_icmp 11 xm_2 xd_2_6 (by decide) f_4.2 (by unfold sv_I; omega) hr_10 with ⟨c_11, n_12, e_13, hr_14⟩ | ⟨c_11, n_12, e_13, hr_14⟩
  · obtain ⟨n_15, e_16, hr_17⟩ := iv_aload_n xm_2 xd_2_11 q0 hr_14
    have f_18 := dc_fr (j := 0) ok t_k0 dt_0 rfl
    obtain ⟨n_19, e_20, hr_21⟩ := iv_getf (j := 0) xm_2 xd_2_12 (by decide +kernel) ok t_k0 dt_0 f_18 hr_17
    obtain ⟨n_22, e_23, hr_24⟩ := iv_aload_n xm_2 xd_2_15 q0 hr_21
    have f_25 := dc_fi (j := 2) ok t_k0 dt_0 rfl
    obtain ⟨n_26, e_27, hr_28⟩ := iv_getf (j := 2) xm_2 xd_2_16 (by decide +kernel) ok t_k0 dt_0 f_25.1 hr_24
    obtain ⟨n_29, e_30, hr_31⟩ := iv_iload_n xm_2 xd_2_19 q1 hr_28
    obtain ⟨q_32, h_33, ok_34, em_35, n_37, e_38, hr_39⟩ := iv_iast xm_2 xd_2_20 ok (do_0_0 t_k0) dt_21 (by decide) f_25.2 ix0 hr_31
    obtain ⟨n_40, e_41, hr_42⟩ := iv_aload_n xm_2 xd_2_21 q0 hr_39
    have f_43 := dc_fr (j := 1) ok_34 t_k0 dt_0 rfl
    obtain ⟨n_44, e_45, hr_46⟩ := iv_getf (j := 1) xm_2 xd_2_22 (by decide +kernel) ok_34 t_k0 dt_0 f_43 hr_42
    obtain ⟨n_47, e_48, hr_49⟩ := iv_aload_n xm_2 xd_2_25 q0 hr_46
    have f_50 := dc_fi (j := 2) ok_34 t_k0 dt_0 rfl
    obtain ⟨n_51, e_52, hr_53⟩ := iv_getf (j := 2) xm_2 xd_2_26 (by decide +kernel) ok_34 t_k0 dt_0 f_50.1 hr_49
    obtain ⟨n_54, e_55, hr_56⟩ := iv_iload_n xm_2 xd_2_29 q2 hr_53
    obtain ⟨q_57, h_58, ok_59, em_60, n_62, e_63, hr_64⟩ := iv_iast xm_2 xd_2_30 ok_34 (do_0_1 t_k0) dt_21 (by decide) f_50.2 ix1 hr_56
    obtain ⟨n_65, e_66, hr_67⟩ := iv_aload_n xm_2 xd_2_31 q0 hr_64
    obtain ⟨n_68, e_69, hr_70⟩ := iv_dup xm_2 xd_2_32 rfl hr_67
    have f_71 := dc_fi (j := 2) ok_59 t_k0 dt_0 rfl
    obtain ⟨n_72, e_73, hr_74⟩ := iv_getf (j := 2) xm_2 xd_2_33 (by decide +kernel) ok_59 t_k0 dt_0 f_71.1 hr_70
    obtain ⟨n_75, e_76, hr_77⟩ := iv_iconst xm_2 xd_2_36 (by decide) hr_74
    obtain ⟨n_78, e_79, hr_80⟩ := iw_iadd xm_2 xd_2_37 hr_77
    obtain ⟨h_81, ok_82, em_83, n_85, e_86, hr_87⟩ := iv_puti (j := 2) (fk := 0) xm_2 xd_2_38 (by decide +kernel) ok_59 t_k0 dt_0 rfl (by decide +kernel) rfl (dc_w_I _) hr_80
    obtain ⟨n_88, e_89, hr_90⟩ := iv_iconst xm_2 xd_2_41 (by decide) hr_87
    have rr_91 := iv_ireturn xm_2 xd_2_42 hr_90
    subst rr_91
    exact ⟨_, Or.inl ⟨c_11, ⟨q_32, _, em_35, ⟨q_57, _, em_60, ⟨_, em_83, ⟨rfl, rfl⟩⟩⟩⟩⟩, rfl, (by unfold sv_I; omega), ok_82⟩
  · obtain ⟨n_92, e_93, hr_94⟩ := iv_iconst xm_2 xd_2_9 (by decide) hr_14
    have rr_95 := iv_ireturn xm_2 xd_2_10 hr_94
    subst rr_95
    exact ⟨_, Or.inr ⟨c_11, ⟨rfl, rfl⟩⟩, rfl, (by unfold sv_I; omega), ok⟩
/-! method 10 -/
theorem xm_10 : ae_m 10 = some (wk_M 10) := rfl
theorem xd_10_0 : decode (wk_M 10).2.2.1 0 = .ok (.aload_n 1, 1) := zd_by (by decide +kernel)
theorem xd_10_1 : decode (wk_M 10).2.2.1 1 = .ok (.getfield 74, 3) := zd_by (by decide +kernel)
theorem xd_10_4 : decode (wk_M 10).2.2.1 4 = .ok (.istore_n 3, 1) := zd_by (by decide +kernel)
theorem xd_10_5 : decode (wk_M 10).2.2.1 5 = .ok (.aload_n 1, 1) := zd_by (by decide +kernel)
theorem xd_10_6 : decode (wk_M 10).2.2.1 6 = .ok (.invokestatic 77, 3) := zd_by (by decide +kernel)
theorem xd_10_9 : decode (wk_M 10).2.2.1 9 = .ok (.istore 4, 2) := zd_by (by decide +kernel)
theorem xd_10_11 : decode (wk_M 10).2.2.1 11 = .ok (.iload 4, 2) := zd_by (by decide +kernel)
theorem xd_10_13 : decode (wk_M 10).2.2.1 13 = .ok (.iconst (-1), 1) := zd_by (by decide +kernel)
theorem xd_10_14 : decode (wk_M 10).2.2.1 14 = .ok (.if_icmp .ne 12, 3) := zd_by (by decide +kernel)
theorem xd_10_17 : decode (wk_M 10).2.2.1 17 = .ok (.aload_n 1, 1) := zd_by (by decide +kernel)
theorem xd_10_18 : decode (wk_M 10).2.2.1 18 = .ok (.iconst 1, 1) := zd_by (by decide +kernel)
theorem xd_10_19 : decode (wk_M 10).2.2.1 19 = .ok (.iload_n 3, 1) := zd_by (by decide +kernel)
theorem xd_10_20 : decode (wk_M 10).2.2.1 20 = .ok (.invokevirtual 81, 3) := zd_by (by decide +kernel)
theorem xd_10_23 : decode (wk_M 10).2.2.1 23 = .ok (.pop, 1) := zd_by (by decide +kernel)
theorem xd_10_24 : decode (wk_M 10).2.2.1 24 = .ok (.iconst (-1), 1) := zd_by (by decide +kernel)
theorem xd_10_25 : decode (wk_M 10).2.2.1 25 = .ok (.ireturn, 1) := zd_by (by decide +kernel)
theorem xd_10_26 : decode (wk_M 10).2.2.1 26 = .ok (.iload_n 2, 1) := zd_by (by decide +kernel)
theorem xd_10_27 : decode (wk_M 10).2.2.1 27 = .ok (.iconst (-1), 1) := zd_by (by decide +kernel)
theorem xd_10_28 : decode (wk_M 10).2.2.1 28 = .ok (.if_icmp .ne 21, 3) := zd_by (by decide +kernel)
theorem xd_10_31 : decode (wk_M 10).2.2.1 31 = .ok (.aload_n 0, 1) := zd_by (by decide +kernel)
theorem xd_10_32 : decode (wk_M 10).2.2.1 32 = .ok (.getfield 18, 3) := zd_by (by decide +kernel)
theorem xd_10_35 : decode (wk_M 10).2.2.1 35 = .ok (.bipush 60, 2) := zd_by (by decide +kernel)
theorem xd_10_37 : decode (wk_M 10).2.2.1 37 = .ok (.if_icmp .lt 12, 3) := zd_by (by decide +kernel)
theorem xd_10_40 : decode (wk_M 10).2.2.1 40 = .ok (.aload_n 1, 1) := zd_by (by decide +kernel)
theorem xd_10_41 : decode (wk_M 10).2.2.1 41 = .ok (.iconst 4, 1) := zd_by (by decide +kernel)
theorem xd_10_42 : decode (wk_M 10).2.2.1 42 = .ok (.iload_n 3, 1) := zd_by (by decide +kernel)
theorem xd_10_43 : decode (wk_M 10).2.2.1 43 = .ok (.invokevirtual 81, 3) := zd_by (by decide +kernel)
theorem xd_10_46 : decode (wk_M 10).2.2.1 46 = .ok (.pop, 1) := zd_by (by decide +kernel)
theorem xd_10_47 : decode (wk_M 10).2.2.1 47 = .ok (.iconst (-1), 1) := zd_by (by decide +kernel)
theorem xd_10_48 : decode (wk_M 10).2.2.1 48 = .ok (.ireturn, 1) := zd_by (by decide +kernel)
theorem xd_10_49 : decode (wk_M 10).2.2.1 49 = .ok (.aload_n 1, 1) := zd_by (by decide +kernel)
theorem xd_10_50 : decode (wk_M 10).2.2.1 50 = .ok (.invokevirtual 84, 3) := zd_by (by decide +kernel)
theorem xd_10_53 : decode (wk_M 10).2.2.1 53 = .ok (.aload_n 1, 1) := zd_by (by decide +kernel)
theorem xd_10_54 : decode (wk_M 10).2.2.1 54 = .ok (.iload 4, 2) := zd_by (by decide +kernel)
theorem xd_10_56 : decode (wk_M 10).2.2.1 56 = .ok (.invokestatic 87, 3) := zd_by (by decide +kernel)
theorem xd_10_59 : decode (wk_M 10).2.2.1 59 = .ok (.istore 5, 2) := zd_by (by decide +kernel)
theorem xd_10_61 : decode (wk_M 10).2.2.1 61 = .ok (.iload 5, 2) := zd_by (by decide +kernel)
theorem xd_10_63 : decode (wk_M 10).2.2.1 63 = .ok (.iconst (-1), 1) := zd_by (by decide +kernel)
theorem xd_10_64 : decode (wk_M 10).2.2.1 64 = .ok (.if_icmp .eq 27, 3) := zd_by (by decide +kernel)
theorem xd_10_67 : decode (wk_M 10).2.2.1 67 = .ok (.iload 5, 2) := zd_by (by decide +kernel)
theorem xd_10_69 : decode (wk_M 10).2.2.1 69 = .ok (.iload_n 2, 1) := zd_by (by decide +kernel)
theorem xd_10_70 : decode (wk_M 10).2.2.1 70 = .ok (.if_icmp .eq 12, 3) := zd_by (by decide +kernel)
theorem xd_10_73 : decode (wk_M 10).2.2.1 73 = .ok (.aload_n 0, 1) := zd_by (by decide +kernel)
theorem xd_10_74 : decode (wk_M 10).2.2.1 74 = .ok (.iload 5, 2) := zd_by (by decide +kernel)
theorem xd_10_76 : decode (wk_M 10).2.2.1 76 = .ok (.invokevirtual 90, 3) := zd_by (by decide +kernel)
theorem xd_10_79 : decode (wk_M 10).2.2.1 79 = .ok (.ifCond .ne 12, 3) := zd_by (by decide +kernel)
theorem xd_10_82 : decode (wk_M 10).2.2.1 82 = .ok (.aload_n 1, 1) := zd_by (by decide +kernel)
theorem xd_10_83 : decode (wk_M 10).2.2.1 83 = .ok (.iconst 3, 1) := zd_by (by decide +kernel)
theorem xd_10_84 : decode (wk_M 10).2.2.1 84 = .ok (.iload_n 3, 1) := zd_by (by decide +kernel)
theorem xd_10_85 : decode (wk_M 10).2.2.1 85 = .ok (.invokevirtual 81, 3) := zd_by (by decide +kernel)
theorem xd_10_88 : decode (wk_M 10).2.2.1 88 = .ok (.pop, 1) := zd_by (by decide +kernel)
theorem xd_10_89 : decode (wk_M 10).2.2.1 89 = .ok (.iconst (-1), 1) := zd_by (by decide +kernel)
theorem xd_10_90 : decode (wk_M 10).2.2.1 90 = .ok (.ireturn, 1) := zd_by (by decide +kernel)
theorem xd_10_91 : decode (wk_M 10).2.2.1 91 = .ok (.iload 5, 2) := zd_by (by decide +kernel)
theorem xd_10_93 : decode (wk_M 10).2.2.1 93 = .ok (.ireturn, 1) := zd_by (by decide +kernel)
abbrev D_10 (k0 : Nat) (x1 : Int) (m : dc_M) (v : Int) (m' : dc_M) : Prop := ∃ v_22 m_27, D_11 m v_22 m_27 ∧ ((((v_22 : Int) ≠ (-1) ∧ ((((x1 : Int) ≠ (-1) ∧ (∃ v_68 m_73, D_117 m_27 v_68 m_73 ∧ (∃ v_87 m_92, D_12 v_22 m_73 v_87 m_92 ∧ ((((v_87 : Int) = (-1) ∧ (v = v_87 ∧ m' = m_92)) ∨ (¬ ((v_87 : Int) = (-1)) ∧ ((((v_87 : Int) = x1 ∧ (∃ v_144 m_149, D_123 3 ((m 1 5)) m_92 v_144 m_149 ∧ (v = (-1) ∧ m' = m_149))) ∨ (¬ ((v_87 : Int) = x1) ∧ (∃ v_170 m_175, D_4 k0 v_87 m_92 v_170 m_175 ∧ ((((v_170 : Int) ≠ 0 ∧ (v = v_87 ∧ m' = m_175)) ∨ (¬ ((v_170 : Int) ≠ 0) ∧ (∃ v_200 m_205, D_123 3 ((m 1 5)) m_175 v_200 m_205 ∧ (v = (-1) ∧ m' = m_205))))))))))))))) ∨ (¬ ((x1 : Int) ≠ (-1)) ∧ (((((m_27 k0 2) : Int) < 60 ∧ (∃ v_237 m_242, D_117 m_27 v_237 m_242 ∧ (∃ v_256 m_261, D_12 v_22 m_242 v_256 m_261 ∧ ((((v_256 : Int) = (-1) ∧ (v = v_256 ∧ m' = m_261)) ∨ (¬ ((v_256 : Int) = (-1)) ∧ ((((v_256 : Int) = x1 ∧ (∃ v_313 m_318, D_123 3 ((m 1 5)) m_261 v_313 m_318 ∧ (v = (-1) ∧ m' = m_318))) ∨ (¬ ((v_256 : Int) = x1) ∧ (∃ v_339 m_344, D_4 k0 v_256 m_261 v_339 m_344 ∧ ((((v_339 : Int) ≠ 0 ∧ (v = v_256 ∧ m' = m_344)) ∨ (¬ ((v_339 : Int) ≠ 0) ∧ (∃ v_369 m_374, D_123 3 ((m 1 5)) m_344 v_369 m_374 ∧ (v = (-1) ∧ m' = m_374))))))))))))))) ∨ (¬ (((m_27 k0 2) : Int) < 60) ∧ (∃ v_398 m_403, D_123 4 ((m 1 5)) m_27 v_398 m_403 ∧ (v = (-1) ∧ m' = m_403))))))))) ∨ (¬ ((v_22 : Int) ≠ (-1)) ∧ (∃ v_427 m_432, D_123 1 ((m 1 5)) m_27 v_427 m_432 ∧ (v = (-1) ∧ m' = m_432)))))
theorem ds_10 (n : Nat) (k0 : Nat) (x1 : Int) {h : ae_H} {r : ae_R} (ok : dc_ok h) (t_k0 : sv_ty k0 = some 0) (ix1 : sv_I x1) (hr : ae_exe n 10 0 0 0 (ae_args [wk_r k0, wk_r 1, wk_i x1] 0) [] h = some r) : ∃ v, D_10 k0 x1 (dc_m h) v (dc_m r.2) ∧ r.1 = some (wk_i v) ∧ sv_I v ∧ dc_ok r.2 := by
  have q0 : ae_lk (ae_args [wk_r k0, wk_r 1, wk_i x1] 0) 0 = some (wk_r k0) := rfl
  have q1 : ae_lk (ae_args [wk_r k0, wk_r 1, wk_i x1] 0) 1 = some (wk_r 1) := rfl
  have q2 : ae_lk (ae_args [wk_r k0, wk_r 1, wk_i x1] 0) 2 = some (wk_i x1) := rfl
  obtain ⟨n_1, e_2, hr_3⟩ := iv_aload_n xm_10 xd_10_0 q1 hr
  have f_4 := dc_fi (j := 5) ok (rfl : sv_ty 1 = some 9) dt_9 rfl
  obtain ⟨n_5, e_6, hr_7⟩ := iv_getf (j := 5) xm_10 xd_10_1 (by decide +kernel) ok (rfl : sv_ty 1 = some 9) dt_9 f_4.1 hr_3
  obtain ⟨lv_9, sl_8, n_10, e_11, hr_12⟩ := iv_istore_n xm_10 xd_10_4 (by decide +kernel) hr_7
  have l_13 := sl_8.2 0 _ q0 (by decide) (Or.inl rfl)
  have l_14 := sl_8.2 1 _ q1 (by decide) (Or.inl rfl)
  have l_15 := sl_8.2 2 _ q2 (by decide) (Or.inl rfl)
  have l_16 := sl_8.1
  obtain ⟨n_17, e_18, hr_19⟩ := iv_aload_n xm_10 xd_10_5 l_14 hr_12
  obtain ⟨n_29, r_20, e_30, hc_21, hr_31⟩ := iv_call (Or.inl ⟨rfl, rfl⟩) xm_10 xd_10_6 (by decide +kernel) xm_11 rfl (by decide +kernel) hr_19
  obtain ⟨v_22, d_23, er_24, iv_25, ok_26⟩ := ds_11 _  ok hc_21
  obtain ⟨_, h_28⟩ := r_20
  have er_24 : _ = some (wk_i v_22) := er_24
  subst er_24
  have hr_32 : ae_exe n_29 10 (6 + 3) 0 0 lv_9 _ h_28 = some r := hr_31
  obtain ⟨lv_34, sl_33, n_35, e_36, hr_37⟩ := iv_istore xm_10 xd_10_9 (by decide +kernel) hr_32
  have l_38 := sl_33.2 0 _ l_13 (by decide) (Or.inl rfl)
  have l_39 := sl_33.2 1 _ l_14 (by decide) (Or.inl rfl)
  have l_40 := sl_33.2 2 _ l_15 (by decide) (Or.inl rfl)
  have l_41 := sl_33.2 3 _ l_16 (by decide) (Or.inl rfl)
  have l_42 := sl_33.1
  obtain ⟨n_43, e_44, hr_45⟩ := iv_iload xm_10 xd_10_11 l_42 hr_37
  obtain ⟨n_46, e_47, hr_48⟩ := iv_iconst xm_10 xd_10_13 (by decide) hr_45
  rcases iv_icmp 26 xm_10 xd_10_14 (by decide) iv_25 (by unfold sv_I; omega) hr_48 with ⟨c_49, n_50, e_51, hr_52⟩ | ⟨c_49, n_50, e_51, hr_52⟩
  · obtain ⟨n_53, e_54, hr_55⟩ := iv_iload_n xm_10 xd_10_26 l_40 hr_52
    obtain ⟨n_56, e_57, hr_58⟩ := iv_iconst xm_10 xd_10_27 (by decide) hr_55
    rcases iv_icmp 49 xm_10 xd_10_28 (by decide) ix1 (by unfold sv_I; omega) hr_58 with ⟨c_59, n_60, e_61, hr_62⟩ | ⟨c_59, n_60, e_61, hr_62⟩
    · obtain ⟨n_63, e_64, hr_65⟩ := iv_aload_n xm_10 xd_10_49 l_39 hr_62
      obtain ⟨n_75, r_66, e_76, hc_67, hr_77⟩ := iv_call (Or.inr ⟨rfl, rfl⟩) xm_10 xd_10_50 (by decide +kernel) xm_117 rfl (by decide +kernel) hr_65
      obtain ⟨v_68, d_69, er_70, iv_71, ok_72⟩ := ds_117 _  ok_26 hc_67
      obtain ⟨_, h_74⟩ := r_66
      have er_70 : _ = none := er_70
      subst er_70
      have hr_78 : ae_exe n_75 10 (50 + 3) 0 0 lv_34 _ h_74 = some r := hr_77
      obtain ⟨n_79, e_80, hr_81⟩ := iv_aload_n xm_10 xd_10_53 l_39 hr_78
      obtain ⟨n_82, e_83, hr_84⟩ := iv_iload xm_10 xd_10_54 l_42 hr_81
      obtain ⟨n_94, r_85, e_95, hc_86, hr_96⟩ := iv_call (Or.inl ⟨rfl, rfl⟩) xm_10 xd_10_56 (by decide +kernel) xm_12 rfl (by decide +kernel) hr_84
      obtain ⟨v_87, d_88, er_89, iv_90, ok_91⟩ := ds_12 _ _ ok_72 iv_25 hc_86
      obtain ⟨_, h_93⟩ := r_85
      have er_89 : _ = some (wk_i v_87) := er_89
      subst er_89
      have hr_97 : ae_exe n_94 10 (56 + 3) 0 0 lv_34 _ h_93 = some r := hr_96
      obtain ⟨lv_99, sl_98, n_100, e_101, hr_102⟩ := iv_istore xm_10 xd_10_59 (by decide +kernel) hr_97
      have l_103 := sl_98.2 0 _ l_38 (by decide) (Or.inl rfl)
      have l_104 := sl_98.2 1 _ l_39 (by decide) (Or.inl rfl)
      have l_105 := sl_98.2 2 _ l_40 (by decide) (Or.inl rfl)
      have l_106 := sl_98.2 3 _ l_41 (by decide) (Or.inl rfl)
      have l_107 := sl_98.2 4 _ l_42 (by decide) (Or.inl rfl)
      have l_108 := sl_98.1
      obtain ⟨n_109, e_110, hr_111⟩ := iv_iload xm_10 xd_10_61 l_108 hr_102
      obtain ⟨n_112, e_113, hr_114⟩ := iv_iconst xm_10 xd_10_63 (by decide) hr_111
      rcases iv_icmp 91 xm_10 xd_10_64 (by decide) iv_90 (by unfold sv_I; omega) hr_114 with ⟨c_115, n_116, e_117, hr_118⟩ | ⟨c_115, n_116, e_117, hr_118⟩
      · obtain ⟨n_119, e_120, hr_121⟩ := iv_iload xm_10 xd_10_91 l_108 hr_118
        have rr_122 := iv_ireturn xm_10 xd_10_93 hr_121
        subst rr_122
        exact ⟨_, ⟨_, _, d_23, Or.inl ⟨c_49, Or.inl ⟨c_59, ⟨_, _, d_69, ⟨_, _, d_88, Or.inl ⟨c_115, ⟨rfl, rfl⟩⟩⟩⟩⟩⟩⟩, rfl, iv_90, ok_91⟩
      · obtain ⟨n_123, e_124, hr_125⟩ := iv_iload xm_10 xd_10_67 l_108 hr_118
        obtain ⟨n_126, e_127, hr_128⟩ := iv_iload_n xm_10 xd_10_69 l_105 hr_125
        rcases iv_icmp 82 xm_10 xd_10_70 (by decide) iv_90 ix1 hr_128 with ⟨c_129, n_130, e_131, hr_132⟩ | ⟨c_129, n_130, e_131, hr_132⟩
        · obtain ⟨n_133, e_134, hr_135⟩ := iv_aload_n xm_10 xd_10_82 l_104 hr_132
          obtain ⟨n_136, e_137, hr_138⟩ := iv_iconst xm_10 xd_10_83 (by decide) hr_135
          obtain ⟨n_139, e_140, hr_141⟩ := iv_iload_n xm_10 xd_10_84 l_106 hr_138
          obtain ⟨n_151, r_142, e_152, hc_143, hr_153⟩ := iv_call (Or.inr ⟨rfl, rfl⟩) xm_10 xd_10_85 (by decide +kernel) xm_123 rfl (by decide +kernel) hr_141
          obtain ⟨v_144, d_145, er_146, iv_147, ok_148⟩ := ds_123 _ _ _ ok_91 (by unfold sv_I; omega) f_4.2 hc_143
          obtain ⟨_, h_150⟩ := r_142
          have er_146 : _ = some (wk_i v_144) := er_146
          subst er_146
          have hr_154 : ae_exe n_151 10 (85 + 3) 0 0 lv_99 _ h_150 = some r := hr_153
          obtain ⟨n_155, e_156, hr_157⟩ := iv_pop xm_10 xd_10_88 rfl hr_154
          obtain ⟨n_158, e_159, hr_160⟩ := iv_iconst xm_10 xd_10_89 (by decide) hr_157
          have rr_161 := iv_ireturn xm_10 xd_10_90 hr_160
          subst rr_161
          exact ⟨_, ⟨_, _, d_23, Or.inl ⟨c_49, Or.inl ⟨c_59, ⟨_, _, d_69, ⟨_, _, d_88, Or.inr ⟨c_115, Or.inl ⟨c_129, ⟨_, _, d_145, ⟨rfl, rfl⟩⟩⟩⟩⟩⟩⟩⟩⟩, rfl, (by unfold sv_I; omega), ok_148⟩
        · obtain ⟨n_162, e_163, hr_164⟩ := iv_aload_n xm_10 xd_10_73 l_103 hr_132
          obtain ⟨n_165, e_166, hr_167⟩ := iv_iload xm_10 xd_10_74 l_108 hr_164
          obtain ⟨n_177, r_168, e_178, hc_169, hr_179⟩ := iv_call (Or.inr ⟨rfl, rfl⟩) xm_10 xd_10_76 (by decide +kernel) xm_4 rfl (by decide +kernel) hr_167
          obtain ⟨v_170, d_171, er_172, iv_173, ok_174⟩ := ds_4 _ _ _ ok_91 t_k0 iv_90 hc_169
          obtain ⟨_, h_176⟩ := r_168
          have er_172 : _ = some (wk_i v_170) := er_172
          subst er_172
          have hr_180 : ae_exe n_177 10 (76 + 3) 0 0 lv_99 _ h_176 = some r := hr_179
          rcases iv_if 91 xm_10 xd_10_79 (by decide) iv_173 hr_180 with ⟨c_181, n_182, e_183, hr_184⟩ | ⟨c_181, n_182, e_183, hr_184⟩
          · obtain ⟨n_185, e_186, hr_187⟩ := iv_iload xm_10 xd_10_91 l_108 hr_184
            have rr_188 := iv_ireturn xm_10 xd_10_93 hr_187
            subst rr_188
            exact ⟨_, ⟨_, _, d_23, Or.inl ⟨c_49, Or.inl ⟨c_59, ⟨_, _, d_69, ⟨_, _, d_88, Or.inr ⟨c_115, Or.inr ⟨c_129, ⟨_, _, d_171, Or.inl ⟨c_181, ⟨rfl, rfl⟩⟩⟩⟩⟩⟩⟩⟩⟩⟩, rfl, iv_90, ok_174⟩
          · obtain ⟨n_189, e_190, hr_191⟩ := iv_aload_n xm_10 xd_10_82 l_104 hr_184
            obtain ⟨n_192, e_193, hr_194⟩ := iv_iconst xm_10 xd_10_83 (by decide) hr_191
            obtain ⟨n_195, e_196, hr_197⟩ := iv_iload_n xm_10 xd_10_84 l_106 hr_194
            obtain ⟨n_207, r_198, e_208, hc_199, hr_209⟩ := iv_call (Or.inr ⟨rfl, rfl⟩) xm_10 xd_10_85 (by decide +kernel) xm_123 rfl (by decide +kernel) hr_197
            obtain ⟨v_200, d_201, er_202, iv_203, ok_204⟩ := ds_123 _ _ _ ok_174 (by unfold sv_I; omega) f_4.2 hc_199
            obtain ⟨_, h_206⟩ := r_198
            have er_202 : _ = some (wk_i v_200) := er_202
            subst er_202
            have hr_210 : ae_exe n_207 10 (85 + 3) 0 0 lv_99 _ h_206 = some r := hr_209
            obtain ⟨n_211, e_212, hr_213⟩ := iv_pop xm_10 xd_10_88 rfl hr_210
            obtain ⟨n_214, e_215, hr_216⟩ := iv_iconst xm_10 xd_10_89 (by decide) hr_213
            have rr_217 := iv_ireturn xm_10 xd_10_90 hr_216
            subst rr_217
            exact ⟨_, ⟨_, _, d_23, Or.inl ⟨c_49, Or.inl ⟨c_59, ⟨_, _, d_69, ⟨_, _, d_88, Or.inr ⟨c_115, Or.inr ⟨c_129, ⟨_, _, d_171, Or.inr ⟨c_181, ⟨_, _, d_201, ⟨rfl, rfl⟩⟩⟩⟩⟩⟩⟩⟩⟩⟩⟩, rfl, (by unfold sv_I; omega), ok_204⟩
    · obtain ⟨n_218, e_219, hr_220⟩ := iv_aload_n xm_10 xd_10_31 l_38 hr_62
      have f_221 := dc_fi (j := 2) ok_26 t_k0 dt_0 rfl
      obtain ⟨n_222, e_223, hr_224⟩ := iv_getf (j := 2) xm_10 xd_10_32 (by decide +kernel) ok_26 t_k0 dt_0 f_221.1 hr_220
      obtain ⟨n_225, e_226, hr_227⟩ := iv_bipush xm_10 xd_10_35 (by decide) hr_224
      rcases iv_icmp 49 xm_10 xd_10_37 (by decide) f_221.2 (by unfold sv_I; omega) hr_227 with ⟨c_228, n_229, e_230, hr_231⟩ | ⟨c_228, n_229, e_230, hr_231⟩
      · obtain ⟨n_232, e_233, hr_234⟩ := iv_aload_n xm_10 xd_10_49 l_39 hr_231
        obtain ⟨n_244, r_235, e_245, hc_236, hr_246⟩ := iv_call (Or.inr ⟨rfl, rfl⟩) xm_10 xd_10_50 (by decide +kernel) xm_117 rfl (by decide +kernel) hr_234
        obtain ⟨v_237, d_238, er_239, iv_240, ok_241⟩ := ds_117 _  ok_26 hc_236
        obtain ⟨_, h_243⟩ := r_235
        have er_239 : _ = none := er_239
        subst er_239
        have hr_247 : ae_exe n_244 10 (50 + 3) 0 0 lv_34 _ h_243 = some r := hr_246
        obtain ⟨n_248, e_249, hr_250⟩ := iv_aload_n xm_10 xd_10_53 l_39 hr_247
        obtain ⟨n_251, e_252, hr_253⟩ := iv_iload xm_10 xd_10_54 l_42 hr_250
        obtain ⟨n_263, r_254, e_264, hc_255, hr_265⟩ := iv_call (Or.inl ⟨rfl, rfl⟩) xm_10 xd_10_56 (by decide +kernel) xm_12 rfl (by decide +kernel) hr_253
        obtain ⟨v_256, d_257, er_258, iv_259, ok_260⟩ := ds_12 _ _ ok_241 iv_25 hc_255
        obtain ⟨_, h_262⟩ := r_254
        have er_258 : _ = some (wk_i v_256) := er_258
        subst er_258
        have hr_266 : ae_exe n_263 10 (56 + 3) 0 0 lv_34 _ h_262 = some r := hr_265
        obtain ⟨lv_268, sl_267, n_269, e_270, hr_271⟩ := iv_istore xm_10 xd_10_59 (by decide +kernel) hr_266
        have l_272 := sl_267.2 0 _ l_38 (by decide) (Or.inl rfl)
        have l_273 := sl_267.2 1 _ l_39 (by decide) (Or.inl rfl)
        have l_274 := sl_267.2 2 _ l_40 (by decide) (Or.inl rfl)
        have l_275 := sl_267.2 3 _ l_41 (by decide) (Or.inl rfl)
        have l_276 := sl_267.2 4 _ l_42 (by decide) (Or.inl rfl)
        have l_277 := sl_267.1
        obtain ⟨n_278, e_279, hr_280⟩ := iv_iload xm_10 xd_10_61 l_277 hr_271
        obtain ⟨n_281, e_282, hr_283⟩ := iv_iconst xm_10 xd_10_63 (by decide) hr_280
        rcases iv_icmp 91 xm_10 xd_10_64 (by decide) iv_259 (by unfold sv_I; omega) hr_283 with ⟨c_284, n_285, e_286, hr_287⟩ | ⟨c_284, n_285, e_286, hr_287⟩
        · obtain ⟨n_288, e_289, hr_290⟩ := iv_iload xm_10 xd_10_91 l_277 hr_287
          have rr_291 := iv_ireturn xm_10 xd_10_93 hr_290
          subst rr_291
          exact ⟨_, ⟨_, _, d_23, Or.inl ⟨c_49, Or.inr ⟨c_59, Or.inl ⟨c_228, ⟨_, _, d_238, ⟨_, _, d_257, Or.inl ⟨c_284, ⟨rfl, rfl⟩⟩⟩⟩⟩⟩⟩⟩, rfl, iv_259, ok_260⟩
        · obtain ⟨n_292, e_293, hr_294⟩ := iv_iload xm_10 xd_10_67 l_277 hr_287
          obtain ⟨n_295, e_296, hr_297⟩ := iv_iload_n xm_10 xd_10_69 l_274 hr_294
          rcases iv_icmp 82 xm_10 xd_10_70 (by decide) iv_259 ix1 hr_297 with ⟨c_298, n_299, e_300, hr_301⟩ | ⟨c_298, n_299, e_300, hr_301⟩
          · obtain ⟨n_302, e_303, hr_304⟩ := iv_aload_n xm_10 xd_10_82 l_273 hr_301
            obtain ⟨n_305, e_306, hr_307⟩ := iv_iconst xm_10 xd_10_83 (by decide) hr_304
            obtain ⟨n_308, e_309, hr_310⟩ := iv_iload_n xm_10 xd_10_84 l_275 hr_307
            obtain ⟨n_320, r_311, e_321, hc_312, hr_322⟩ := iv_call (Or.inr ⟨rfl, rfl⟩) xm_10 xd_10_85 (by decide +kernel) xm_123 rfl (by decide +kernel) hr_310
            obtain ⟨v_313, d_314, er_315, iv_316, ok_317⟩ := ds_123 _ _ _ ok_260 (by unfold sv_I; omega) f_4.2 hc_312
            obtain ⟨_, h_319⟩ := r_311
            have er_315 : _ = some (wk_i v_313) := er_315
            subst er_315
            have hr_323 : ae_exe n_320 10 (85 + 3) 0 0 lv_268 _ h_319 = some r := hr_322
            obtain ⟨n_324, e_325, hr_326⟩ := iv_pop xm_10 xd_10_88 rfl hr_323
            obtain ⟨n_327, e_328, hr_329⟩ := iv_iconst xm_10 xd_10_89 (by decide) hr_326
            have rr_330 := iv_ireturn xm_10 xd_10_90 hr_329
            subst rr_330
            exact ⟨_, ⟨_, _, d_23, Or.inl ⟨c_49, Or.inr ⟨c_59, Or.inl ⟨c_228, ⟨_, _, d_238, ⟨_, _, d_257, Or.inr ⟨c_284, Or.inl ⟨c_298, ⟨_, _, d_314, ⟨rfl, rfl⟩⟩⟩⟩⟩⟩⟩⟩⟩⟩, rfl, (by unfold sv_I; omega), ok_317⟩
          · obtain ⟨n_331, e_332, hr_333⟩ := iv_aload_n xm_10 xd_10_73 l_272 hr_301
            obtain ⟨n_334, e_335, hr_336⟩ := iv_iload xm_10 xd_10_74 l_277 hr_333
            obtain ⟨n_346, r_337, e_347, hc_338, hr_348⟩ := iv_call (Or.inr ⟨rfl, rfl⟩) xm_10 xd_10_76 (by decide +kernel) xm_4 rfl (by decide +kernel) hr_336
            obtain ⟨v_339, d_340, er_341, iv_342, ok_343⟩ := ds_4 _ _ _ ok_260 t_k0 iv_259 hc_338
            obtain ⟨_, h_345⟩ := r_337
            have er_341 : _ = some (wk_i v_339) := er_341
            subst er_341
            have hr_349 : ae_exe n_346 10 (76 + 3) 0 0 lv_268 _ h_345 = some r := hr_348
            rcases iv_if 91 xm_10 xd_10_79 (by decide) iv_342 hr_349 with ⟨c_350, n_351, e_352, hr_353⟩ | ⟨c_350, n_351, e_352, hr_353⟩
            · obtain ⟨n_354, e_355, hr_356⟩ := iv_iload xm_10 xd_10_91 l_277 hr_353
              have rr_357 := iv_ireturn xm_10 xd_10_93 hr_356
              subst rr_357
              exact ⟨_, ⟨_, _, d_23, Or.inl ⟨c_49, Or.inr ⟨c_59, Or.inl ⟨c_228, ⟨_, _, d_238, ⟨_, _, d_257, Or.inr ⟨c_284, Or.inr ⟨c_298, ⟨_, _, d_340, Or.inl ⟨c_350, ⟨rfl, rfl⟩⟩⟩⟩⟩⟩⟩⟩⟩⟩⟩, rfl, iv_259, ok_343⟩
            · obtain ⟨n_358, e_359, hr_360⟩ := iv_aload_n xm_10 xd_10_82 l_273 hr_353
              obtain ⟨n_361, e_362, hr_363⟩ := iv_iconst xm_10 xd_10_83 (by decide) hr_360
              obtain ⟨n_364, e_365, hr_366⟩ := iv_iload_n xm_10 xd_10_84 l_275 hr_363
              obtain ⟨n_376, r_367, e_377, hc_368, hr_378⟩ := iv_call (Or.inr ⟨rfl, rfl⟩) xm_10 xd_10_85 (by decide +kernel) xm_123 rfl (by decide +kernel) hr_366
              obtain ⟨v_369, d_370, er_371, iv_372, ok_373⟩ := ds_123 _ _ _ ok_343 (by unfold sv_I; omega) f_4.2 hc_368
              obtain ⟨_, h_375⟩ := r_367
              have er_371 : _ = some (wk_i v_369) := er_371
              subst er_371
              have hr_379 : ae_exe n_376 10 (85 + 3) 0 0 lv_268 _ h_375 = some r := hr_378
              obtain ⟨n_380, e_381, hr_382⟩ := iv_pop xm_10 xd_10_88 rfl hr_379
              obtain ⟨n_383, e_384, hr_385⟩ := iv_iconst xm_10 xd_10_89 (by decide) hr_382
              have rr_386 := iv_ireturn xm_10 xd_10_90 hr_385
              subst rr_386
              exact ⟨_, ⟨_, _, d_23, Or.inl ⟨c_49, Or.inr ⟨c_59, Or.inl ⟨c_228, ⟨_, _, d_238, ⟨_, _, d_257, Or.inr ⟨c_284, Or.inr ⟨c_298, ⟨_, _, d_340, Or.inr ⟨c_350, ⟨_, _, d_370, ⟨rfl, rfl⟩⟩⟩⟩⟩⟩⟩⟩⟩⟩⟩⟩, rfl, (by unfold sv_I; omega), ok_373⟩
      · obtain ⟨n_387, e_388, hr_389⟩ := iv_aload_n xm_10 xd_10_40 l_39 hr_231
        obtain ⟨n_390, e_391, hr_392⟩ := iv_iconst xm_10 xd_10_41 (by decide) hr_389
        obtain ⟨n_393, e_394, hr_395⟩ := iv_iload_n xm_10 xd_10_42 l_41 hr_392
        obtain ⟨n_405, r_396, e_406, hc_397, hr_407⟩ := iv_call (Or.inr ⟨rfl, rfl⟩) xm_10 xd_10_43 (by decide +kernel) xm_123 rfl (by decide +kernel) hr_395
        obtain ⟨v_398, d_399, er_400, iv_401, ok_402⟩ := ds_123 _ _ _ ok_26 (by unfold sv_I; omega) f_4.2 hc_397
        obtain ⟨_, h_404⟩ := r_396
        have er_400 : _ = some (wk_i v_398) := er_400
        subst er_400
        have hr_408 : ae_exe n_405 10 (43 + 3) 0 0 lv_34 _ h_404 = some r := hr_407
        obtain ⟨n_409, e_410, hr_411⟩ := iv_pop xm_10 xd_10_46 rfl hr_408
        obtain ⟨n_412, e_413, hr_414⟩ := iv_iconst xm_10 xd_10_47 (by decide) hr_411
        have rr_415 := iv_ireturn xm_10 xd_10_48 hr_414
        subst rr_415
        exact ⟨_, ⟨_, _, d_23, Or.inl ⟨c_49, Or.inr ⟨c_59, Or.inr ⟨c_228, ⟨_, _, d_399, ⟨rfl, rfl⟩⟩⟩⟩⟩⟩, rfl, (by unfold sv_I; omega), ok_402⟩
  · obtain ⟨n_416, e_417, hr_418⟩ := iv_aload_n xm_10 xd_10_17 l_39 hr_52
    obtain ⟨n_419, e_420, hr_421⟩ := iv_iconst xm_10 xd_10_18 (by decide) hr_418
    obtain ⟨n_422, e_423, hr_424⟩ := iv_iload_n xm_10 xd_10_19 l_41 hr_421
    obtain ⟨n_434, r_425, e_435, hc_426, hr_436⟩ := iv_call (Or.inr ⟨rfl, rfl⟩) xm_10 xd_10_20 (by decide +kernel) xm_123 rfl (by decide +kernel) hr_424
    obtain ⟨v_427, d_428, er_429, iv_430, ok_431⟩ := ds_123 _ _ _ ok_26 (by unfold sv_I; omega) f_4.2 hc_426
    obtain ⟨_, h_433⟩ := r_425
    have er_429 : _ = some (wk_i v_427) := er_429
    subst er_429
    have hr_437 : ae_exe n_434 10 (20 + 3) 0 0 lv_34 _ h_433 = some r := hr_436
    obtain ⟨n_438, e_439, hr_440⟩ := iv_pop xm_10 xd_10_23 rfl hr_437
    obtain ⟨n_441, e_442, hr_443⟩ := iv_iconst xm_10 xd_10_24 (by decide) hr_440
    have rr_444 := iv_ireturn xm_10 xd_10_25 hr_443
    subst rr_444
    exact ⟨_, ⟨_, _, d_23, Or.inr ⟨c_49, ⟨_, _, d_428, ⟨rfl, rfl⟩⟩⟩⟩, rfl, (by unfold sv_I; omega), ok_431⟩
/-! method 9 -/
theorem xm_9 : ae_m 9 = some (wk_M 9) := rfl
theorem xd_9_0 : decode (wk_M 9).2.2.1 0 = .ok (.aload_n 0, 1) := zd_by (by decide +kernel)
theorem xd_9_1 : decode (wk_M 9).2.2.1 1 = .ok (.aload_n 1, 1) := zd_by (by decide +kernel)
theorem xd_9_2 : decode (wk_M 9).2.2.1 2 = .ok (.iconst (-1), 1) := zd_by (by decide +kernel)
theorem xd_9_3 : decode (wk_M 9).2.2.1 3 = .ok (.invokevirtual 62, 3) := zd_by (by decide +kernel)
theorem xd_9_6 : decode (wk_M 9).2.2.1 6 = .ok (.istore_n 2, 1) := zd_by (by decide +kernel)
theorem xd_9_7 : decode (wk_M 9).2.2.1 7 = .ok (.iload_n 2, 1) := zd_by (by decide +kernel)
theorem xd_9_8 : decode (wk_M 9).2.2.1 8 = .ok (.iconst (-1), 1) := zd_by (by decide +kernel)
theorem xd_9_9 : decode (wk_M 9).2.2.1 9 = .ok (.if_icmp .eq 12, 3) := zd_by (by decide +kernel)
theorem xd_9_12 : decode (wk_M 9).2.2.1 12 = .ok (.aload_n 1, 1) := zd_by (by decide +kernel)
theorem xd_9_13 : decode (wk_M 9).2.2.1 13 = .ok (.bipush 45, 2) := zd_by (by decide +kernel)
theorem xd_9_15 : decode (wk_M 9).2.2.1 15 = .ok (.invokevirtual 66, 3) := zd_by (by decide +kernel)
theorem xd_9_18 : decode (wk_M 9).2.2.1 18 = .ok (.ifCond .ne 5, 3) := zd_by (by decide +kernel)
theorem xd_9_21 : decode (wk_M 9).2.2.1 21 = .ok (.iconst 0, 1) := zd_by (by decide +kernel)
theorem xd_9_22 : decode (wk_M 9).2.2.1 22 = .ok (.ireturn, 1) := zd_by (by decide +kernel)
theorem xd_9_23 : decode (wk_M 9).2.2.1 23 = .ok (.aload_n 0, 1) := zd_by (by decide +kernel)
theorem xd_9_24 : decode (wk_M 9).2.2.1 24 = .ok (.aload_n 1, 1) := zd_by (by decide +kernel)
theorem xd_9_25 : decode (wk_M 9).2.2.1 25 = .ok (.iload_n 2, 1) := zd_by (by decide +kernel)
theorem xd_9_26 : decode (wk_M 9).2.2.1 26 = .ok (.invokevirtual 62, 3) := zd_by (by decide +kernel)
theorem xd_9_29 : decode (wk_M 9).2.2.1 29 = .ok (.istore_n 3, 1) := zd_by (by decide +kernel)
theorem xd_9_30 : decode (wk_M 9).2.2.1 30 = .ok (.iload_n 3, 1) := zd_by (by decide +kernel)
theorem xd_9_31 : decode (wk_M 9).2.2.1 31 = .ok (.iconst (-1), 1) := zd_by (by decide +kernel)
theorem xd_9_32 : decode (wk_M 9).2.2.1 32 = .ok (.if_icmp .eq 25, 3) := zd_by (by decide +kernel)
theorem xd_9_35 : decode (wk_M 9).2.2.1 35 = .ok (.aload_n 1, 1) := zd_by (by decide +kernel)
theorem xd_9_36 : decode (wk_M 9).2.2.1 36 = .ok (.bipush 59, 2) := zd_by (by decide +kernel)
theorem xd_9_38 : decode (wk_M 9).2.2.1 38 = .ok (.invokevirtual 66, 3) := zd_by (by decide +kernel)
theorem xd_9_41 : decode (wk_M 9).2.2.1 41 = .ok (.ifCond .eq 16, 3) := zd_by (by decide +kernel)
theorem xd_9_44 : decode (wk_M 9).2.2.1 44 = .ok (.aload_n 0, 1) := zd_by (by decide +kernel)
theorem xd_9_45 : decode (wk_M 9).2.2.1 45 = .ok (.iload_n 2, 1) := zd_by (by decide +kernel)
theorem xd_9_46 : decode (wk_M 9).2.2.1 46 = .ok (.iload_n 3, 1) := zd_by (by decide +kernel)
theorem xd_9_47 : decode (wk_M 9).2.2.1 47 = .ok (.invokevirtual 70, 3) := zd_by (by decide +kernel)
theorem xd_9_50 : decode (wk_M 9).2.2.1 50 = .ok (.ifCond .eq 7, 3) := zd_by (by decide +kernel)
theorem xd_9_53 : decode (wk_M 9).2.2.1 53 = .ok (.iconst 1, 1) := zd_by (by decide +kernel)
theorem xd_9_54 : decode (wk_M 9).2.2.1 54 = .ok (.goto 4, 3) := zd_by (by decide +kernel)
theorem xd_9_57 : decode (wk_M 9).2.2.1 57 = .ok (.iconst 0, 1) := zd_by (by decide +kernel)
theorem xd_9_58 : decode (wk_M 9).2.2.1 58 = .ok (.ireturn, 1) := zd_by (by decide +kernel)
abbrev D_9 (k0 : Nat) (m : dc_M) (v : Int) (m' : dc_M) : Prop := ∃ v_12 m_17, D_10 k0 ((-1)) m v_12 m_17 ∧ ((((v_12 : Int) = (-1) ∧ (v = 0 ∧ m' = m_17)) ∨ (¬ ((v_12 : Int) = (-1)) ∧ (∃ v_53 m_58, D_125 45 m_17 v_53 m_58 ∧ ((((v_53 : Int) ≠ 0 ∧ (∃ v_79 m_84, D_10 k0 v_12 m_58 v_79 m_84 ∧ ((((v_79 : Int) = (-1) ∧ (v = 0 ∧ m' = m_84)) ∨ (¬ ((v_79 : Int) = (-1)) ∧ (∃ v_121 m_126, D_125 59 m_84 v_121 m_126 ∧ ((((v_121 : Int) = 0 ∧ (v = 0 ∧ m' = m_126)) ∨ (¬ ((v_121 : Int) = 0) ∧ (∃ v_151 m_156, D_2 k0 v_12 v_79 m_126 v_151 m_156 ∧ ((((v_151 : Int) = 0 ∧ (v = 0 ∧ m' = m_156)) ∨ (¬ ((v_151 : Int) = 0) ∧ (v = 1 ∧ m' = m_156)))))))))))))) ∨ (¬ ((v_53 : Int) ≠ 0) ∧ (v = 0 ∧ m' = m_58))))))))
theorem ds_9 (n : Nat) (k0 : Nat) {h : ae_H} {r : ae_R} (ok : dc_ok h) (t_k0 : sv_ty k0 = some 0) (hr : ae_exe n 9 0 0 0 (ae_args [wk_r k0, wk_r 1] 0) [] h = some r) : ∃ v, D_9 k0 (dc_m h) v (dc_m r.2) ∧ r.1 = some (wk_i v) ∧ sv_I v ∧ dc_ok r.2 := by
  have q0 : ae_lk (ae_args [wk_r k0, wk_r 1] 0) 0 = some (wk_r k0) := rfl
  have q1 : ae_lk (ae_args [wk_r k0, wk_r 1] 0) 1 = some (wk_r 1) := rfl
  obtain ⟨n_1, e_2, hr_3⟩ := iv_aload_n xm_9 xd_9_0 q0 hr
  obtain ⟨n_4, e_5, hr_6⟩ := iv_aload_n xm_9 xd_9_1 q1 hr_3
  obtain ⟨n_7, e_8, hr_9⟩ := iv_iconst xm_9 xd_9_2 (by decide) hr_6
  obtain ⟨n_19, r_10, e_20, hc_11, hr_21⟩ := iv_call (Or.inr ⟨rfl, rfl⟩) xm_9 xd_9_3 (by decide +kernel) xm_10 rfl (by decide +kernel) hr_9
  obtain ⟨v_12, d_13, er_14, iv_15, ok_16⟩ := ds_10 _ _ _ ok t_k0 (by unfold sv_I; omega) hc_11
  obtain ⟨_, h_18⟩ := r_10
  have er_14 : _ = some (wk_i v_12) := er_14
  subst er_14
  have hr_22 : ae_exe n_19 9 (3 + 3) 0 0 (ae_args [wk_r k0, wk_r 1] 0) _ h_18 = some r := hr_21
  obtain ⟨lv_24, sl_23, n_25, e_26, hr_27⟩ := iv_istore_n xm_9 xd_9_6 (by decide +kernel) hr_22
  have l_28 := sl_23.2 0 _ q0 (by decide) (Or.inl rfl)
  have l_29 := sl_23.2 1 _ q1 (by decide) (Or.inl rfl)
  have l_30 := sl_23.1
  obtain ⟨n_31, e_32, hr_33⟩ := iv_iload_n xm_9 xd_9_7 l_30 hr_27
  obtain ⟨n_34, e_35, hr_36⟩ := iv_iconst xm_9 xd_9_8 (by decide) hr_33
  rcases iv_icmp 21 xm_9 xd_9_9 (by decide) iv_15 (by unfold sv_I; omega) hr_36 with ⟨c_37, n_38, e_39, hr_40⟩ | ⟨c_37, n_38, e_39, hr_40⟩
  · obtain ⟨n_41, e_42, hr_43⟩ := iv_iconst xm_9 xd_9_21 (by decide) hr_40
    have rr_44 := iv_ireturn xm_9 xd_9_22 hr_43
    subst rr_44
    exact ⟨_, ⟨_, _, d_13, Or.inl ⟨c_37, ⟨rfl, rfl⟩⟩⟩, rfl, (by unfold sv_I; omega), ok_16⟩
  · obtain ⟨n_45, e_46, hr_47⟩ := iv_aload_n xm_9 xd_9_12 l_29 hr_40
    obtain ⟨n_48, e_49, hr_50⟩ := iv_bipush xm_9 xd_9_13 (by decide) hr_47
    obtain ⟨n_60, r_51, e_61, hc_52, hr_62⟩ := iv_call (Or.inr ⟨rfl, rfl⟩) xm_9 xd_9_15 (by decide +kernel) xm_125 rfl (by decide +kernel) hr_50
    obtain ⟨v_53, d_54, er_55, iv_56, ok_57⟩ := ds_125 _ _ ok_16 (by unfold sv_I; omega) hc_52
    obtain ⟨_, h_59⟩ := r_51
    have er_55 : _ = some (wk_i v_53) := er_55
    subst er_55
    have hr_63 : ae_exe n_60 9 (15 + 3) 0 0 lv_24 _ h_59 = some r := hr_62
    rcases iv_if 23 xm_9 xd_9_18 (by decide) iv_56 hr_63 with ⟨c_64, n_65, e_66, hr_67⟩ | ⟨c_64, n_65, e_66, hr_67⟩
    · obtain ⟨n_68, e_69, hr_70⟩ := iv_aload_n xm_9 xd_9_23 l_28 hr_67
      obtain ⟨n_71, e_72, hr_73⟩ := iv_aload_n xm_9 xd_9_24 l_29 hr_70
      obtain ⟨n_74, e_75, hr_76⟩ := iv_iload_n xm_9 xd_9_25 l_30 hr_73
      obtain ⟨n_86, r_77, e_87, hc_78, hr_88⟩ := iv_call (Or.inr ⟨rfl, rfl⟩) xm_9 xd_9_26 (by decide +kernel) xm_10 rfl (by decide +kernel) hr_76
      obtain ⟨v_79, d_80, er_81, iv_82, ok_83⟩ := ds_10 _ _ _ ok_57 t_k0 iv_15 hc_78
      obtain ⟨_, h_85⟩ := r_77
      have er_81 : _ = some (wk_i v_79) := er_81
      subst er_81
      have hr_89 : ae_exe n_86 9 (26 + 3) 0 0 lv_24 _ h_85 = some r := hr_88
      obtain ⟨lv_91, sl_90, n_92, e_93, hr_94⟩ := iv_istore_n xm_9 xd_9_29 (by decide +kernel) hr_89
      have l_95 := sl_90.2 0 _ l_28 (by decide) (Or.inl rfl)
      have l_96 := sl_90.2 1 _ l_29 (by decide) (Or.inl rfl)
      have l_97 := sl_90.2 2 _ l_30 (by decide) (Or.inl rfl)
      have l_98 := sl_90.1
      obtain ⟨n_99, e_100, hr_101⟩ := iv_iload_n xm_9 xd_9_30 l_98 hr_94
      obtain ⟨n_102, e_103, hr_104⟩ := iv_iconst xm_9 xd_9_31 (by decide) hr_101
      rcases iv_icmp 57 xm_9 xd_9_32 (by decide) iv_82 (by unfold sv_I; omega) hr_104 with ⟨c_105, n_106, e_107, hr_108⟩ | ⟨c_105, n_106, e_107, hr_108⟩
      · obtain ⟨n_109, e_110, hr_111⟩ := iv_iconst xm_9 xd_9_57 (by decide) hr_108
        have rr_112 := iv_ireturn xm_9 xd_9_58 hr_111
        subst rr_112
        exact ⟨_, ⟨_, _, d_13, Or.inr ⟨c_37, ⟨_, _, d_54, Or.inl ⟨c_64, ⟨_, _, d_80, Or.inl ⟨c_105, ⟨rfl, rfl⟩⟩⟩⟩⟩⟩⟩, rfl, (by unfold sv_I; omega), ok_83⟩
      · obtain ⟨n_113, e_114, hr_115⟩ := iv_aload_n xm_9 xd_9_35 l_96 hr_108
        obtain ⟨n_116, e_117, hr_118⟩ := iv_bipush xm_9 xd_9_36 (by decide) hr_115
        obtain ⟨n_128, r_119, e_129, hc_120, hr_130⟩ := iv_call (Or.inr ⟨rfl, rfl⟩) xm_9 xd_9_38 (by decide +kernel) xm_125 rfl (by decide +kernel) hr_118
        obtain ⟨v_121, d_122, er_123, iv_124, ok_125⟩ := ds_125 _ _ ok_83 (by unfold sv_I; omega) hc_120
        obtain ⟨_, h_127⟩ := r_119
        have er_123 : _ = some (wk_i v_121) := er_123
        subst er_123
        have hr_131 : ae_exe n_128 9 (38 + 3) 0 0 lv_91 _ h_127 = some r := hr_130
        rcases iv_if 57 xm_9 xd_9_41 (by decide) iv_124 hr_131 with ⟨c_132, n_133, e_134, hr_135⟩ | ⟨c_132, n_133, e_134, hr_135⟩
        · obtain ⟨n_136, e_137, hr_138⟩ := iv_iconst xm_9 xd_9_57 (by decide) hr_135
          have rr_139 := iv_ireturn xm_9 xd_9_58 hr_138
          subst rr_139
          exact ⟨_, ⟨_, _, d_13, Or.inr ⟨c_37, ⟨_, _, d_54, Or.inl ⟨c_64, ⟨_, _, d_80, Or.inr ⟨c_105, ⟨_, _, d_122, Or.inl ⟨c_132, ⟨rfl, rfl⟩⟩⟩⟩⟩⟩⟩⟩⟩, rfl, (by unfold sv_I; omega), ok_125⟩
        · obtain ⟨n_140, e_141, hr_142⟩ := iv_aload_n xm_9 xd_9_44 l_95 hr_135
          obtain ⟨n_143, e_144, hr_145⟩ := iv_iload_n xm_9 xd_9_45 l_97 hr_142
          obtain ⟨n_146, e_147, hr_148⟩ := iv_iload_n xm_9 xd_9_46 l_98 hr_145
          obtain ⟨n_158, r_149, e_159, hc_150, hr_160⟩ := iv_call (Or.inr ⟨rfl, rfl⟩) xm_9 xd_9_47 (by decide +kernel) xm_2 rfl (by decide +kernel) hr_148
          obtain ⟨v_151, d_152, er_153, iv_154, ok_155⟩ := ds_2 _ _ _ _ ok_125 t_k0 iv_15 iv_82 hc_150
          obtain ⟨_, h_157⟩ := r_149
          have er_153 : _ = some (wk_i v_151) := er_153
          subst er_153
          have hr_161 : ae_exe n_158 9 (47 + 3) 0 0 lv_91 _ h_157 = some r := hr_160
          rcases iv_if 57 xm_9 xd_9_50 (by decide) iv_154 hr_161 with ⟨c_162, n_163, e_164, hr_165⟩ | ⟨c_162, n_163, e_164, hr_165⟩
          · obtain ⟨n_166, e_167, hr_168⟩ := iv_iconst xm_9 xd_9_57 (by decide) hr_165
            have rr_169 := iv_ireturn xm_9 xd_9_58 hr_168
            subst rr_169
            exact ⟨_, ⟨_, _, d_13, Or.inr ⟨c_37, ⟨_, _, d_54, Or.inl ⟨c_64, ⟨_, _, d_80, Or.inr ⟨c_105, ⟨_, _, d_122, Or.inr ⟨c_132, ⟨_, _, d_152, Or.inl ⟨c_162, ⟨rfl, rfl⟩⟩⟩⟩⟩⟩⟩⟩⟩⟩⟩, rfl, (by unfold sv_I; omega), ok_155⟩
          · obtain ⟨n_170, e_171, hr_172⟩ := iv_iconst xm_9 xd_9_53 (by decide) hr_165
            obtain ⟨n_173, e_174, hr_175⟩ := iv_goto 58 xm_9 xd_9_54 (by decide) hr_172
            have rr_176 := iv_ireturn xm_9 xd_9_58 hr_175
            subst rr_176
            exact ⟨_, ⟨_, _, d_13, Or.inr ⟨c_37, ⟨_, _, d_54, Or.inl ⟨c_64, ⟨_, _, d_80, Or.inr ⟨c_105, ⟨_, _, d_122, Or.inr ⟨c_132, ⟨_, _, d_152, Or.inr ⟨c_162, ⟨rfl, rfl⟩⟩⟩⟩⟩⟩⟩⟩⟩⟩⟩, rfl, (by unfold sv_I; omega), ok_155⟩
    · obtain ⟨n_177, e_178, hr_179⟩ := iv_iconst xm_9 xd_9_21 (by decide) hr_67
      have rr_180 := iv_ireturn xm_9 xd_9_22 hr_179
      subst rr_180
      exact ⟨_, ⟨_, _, d_13, Or.inr ⟨c_37, ⟨_, _, d_54, Or.inr ⟨c_64, ⟨rfl, rfl⟩⟩⟩⟩⟩, rfl, (by unfold sv_I; omega), ok_57⟩
/-! method 8 -/
theorem xm_8 : ae_m 8 = some (wk_M 8) := rfl
theorem xd_8_0 : decode (wk_M 8).2.2.1 0 = .ok (.aload_n 0, 1) := zd_by (by decide +kernel)
theorem xd_8_1 : decode (wk_M 8).2.2.1 1 = .ok (.iconst 0, 1) := zd_by (by decide +kernel)
theorem xd_8_2 : decode (wk_M 8).2.2.1 2 = .ok (.putfield 18, 3) := zd_by (by decide +kernel)
theorem xd_8_5 : decode (wk_M 8).2.2.1 5 = .ok (.aload_n 1, 1) := zd_by (by decide +kernel)
theorem xd_8_6 : decode (wk_M 8).2.2.1 6 = .ok (.sipush 700, 3) := zd_by (by decide +kernel)
theorem xd_8_9 : decode (wk_M 8).2.2.1 9 = .ok (.invokevirtual 45, 3) := zd_by (by decide +kernel)
theorem xd_8_12 : decode (wk_M 8).2.2.1 12 = .ok (.iconst 0, 1) := zd_by (by decide +kernel)
theorem xd_8_13 : decode (wk_M 8).2.2.1 13 = .ok (.istore_n 2, 1) := zd_by (by decide +kernel)
theorem xd_8_14 : decode (wk_M 8).2.2.1 14 = .ok (.iload_n 2, 1) := zd_by (by decide +kernel)
theorem xd_8_15 : decode (wk_M 8).2.2.1 15 = .ok (.bipush 60, 2) := zd_by (by decide +kernel)
theorem xd_8_17 : decode (wk_M 8).2.2.1 17 = .ok (.if_icmp .gt 31, 3) := zd_by (by decide +kernel)
theorem xd_8_20 : decode (wk_M 8).2.2.1 20 = .ok (.aload_n 1, 1) := zd_by (by decide +kernel)
theorem xd_8_21 : decode (wk_M 8).2.2.1 21 = .ok (.getfield 51, 3) := zd_by (by decide +kernel)
theorem xd_8_24 : decode (wk_M 8).2.2.1 24 = .ok (.ifCond .ne 8, 3) := zd_by (by decide +kernel)
theorem xd_8_27 : decode (wk_M 8).2.2.1 27 = .ok (.aload_n 1, 1) := zd_by (by decide +kernel)
theorem xd_8_28 : decode (wk_M 8).2.2.1 28 = .ok (.invokevirtual 54, 3) := zd_by (by decide +kernel)
theorem xd_8_31 : decode (wk_M 8).2.2.1 31 = .ok (.ireturn, 1) := zd_by (by decide +kernel)
theorem xd_8_32 : decode (wk_M 8).2.2.1 32 = .ok (.aload_n 0, 1) := zd_by (by decide +kernel)
theorem xd_8_33 : decode (wk_M 8).2.2.1 33 = .ok (.aload_n 1, 1) := zd_by (by decide +kernel)
theorem xd_8_34 : decode (wk_M 8).2.2.1 34 = .ok (.invokevirtual 58, 3) := zd_by (by decide +kernel)
theorem xd_8_37 : decode (wk_M 8).2.2.1 37 = .ok (.ifCond .ne 5, 3) := zd_by (by decide +kernel)
theorem xd_8_40 : decode (wk_M 8).2.2.1 40 = .ok (.iconst 0, 1) := zd_by (by decide +kernel)
theorem xd_8_41 : decode (wk_M 8).2.2.1 41 = .ok (.ireturn, 1) := zd_by (by decide +kernel)
theorem xd_8_42 : decode (wk_M 8).2.2.1 42 = .ok (.iinc 2 1, 3) := zd_by (by decide +kernel)
theorem xd_8_45 : decode (wk_M 8).2.2.1 45 = .ok (.goto (-31), 3) := zd_by (by decide +kernel)
theorem xd_8_48 : decode (wk_M 8).2.2.1 48 = .ok (.iconst 0, 1) := zd_by (by decide +kernel)
theorem xd_8_49 : decode (wk_M 8).2.2.1 49 = .ok (.ireturn, 1) := zd_by (by decide +kernel)
def LM_8 (k0 : Nat) : Nat → Nat → Int → dc_M → Int → dc_M → Prop
  | 0, _, _, _, _, _ => False
  | c + 1, tag, l2, m, v, m' => match tag with
    | _ => (((l2 : Int) > 60 ∧ (v = 0 ∧ m' = m)) ∨ (¬ ((l2 : Int) > 60) ∧ (((((m 1 4) : Int) ≠ 0 ∧ (∃ v_34 m_39, D_9 k0 m v_34 m_39 ∧ ((((v_34 : Int) ≠ 0 ∧ (LM_8 k0 c 14 (dc_w (l2 + 1)) m_39 v m')) ∨ (¬ ((v_34 : Int) ≠ 0) ∧ (v = 0 ∧ m' = m_39)))))) ∨ (¬ (((m 1 4) : Int) ≠ 0) ∧ (∃ v_69 m_74, D_124 m v_69 m_74 ∧ (v = v_69 ∧ m' = m_74)))))))
theorem lm_8_14 {k0 : Nat} {c : Nat} {l2 : Int} {m : dc_M} {v : Int} {m' : dc_M} : LM_8 k0 (c + 1) 14 l2 m v m' ↔ (((l2 : Int) > 60 ∧ (v = 0 ∧ m' = m)) ∨ (¬ ((l2 : Int) > 60) ∧ (((((m 1 4) : Int) ≠ 0 ∧ (∃ v_34 m_39, D_9 k0 m v_34 m_39 ∧ ((((v_34 : Int) ≠ 0 ∧ (LM_8 k0 c 14 (dc_w (l2 + 1)) m_39 v m')) ∨ (¬ ((v_34 : Int) ≠ 0) ∧ (v = 0 ∧ m' = m_39)))))) ∨ (¬ (((m 1 4) : Int) ≠ 0) ∧ (∃ v_69 m_74, D_124 m v_69 m_74 ∧ (v = v_69 ∧ m' = m_74))))))) := Iff.rfl
theorem dl_8 {k0 : Nat} (t_k0 : sv_ty k0 = some 0) : ∀ N : Nat, (∀ (n : Nat) (lv : ae_L) (h : ae_H) (r : ae_R) (l2 : Int), n ≤ N → dc_ok h → sv_I l2 → ae_lk lv 0 = some (wk_r k0) → ae_lk lv 1 = some (wk_r 1) → ae_lk lv 2 = some (wk_i l2) → ae_exe n 8 14 0 0 lv [] h = some r → ∃ v, (∃ c, LM_8 k0 c 14 l2 (dc_m h) v (dc_m r.2)) ∧ r.1 = some (wk_i v) ∧ sv_I v ∧ dc_ok r.2) := by
  intro N
  induction N with
  | zero =>
    exact fun n lv h r l2 hn ok il2 q0 q1 q2 hr => by
      have e : n = 0 := by omega
      subst e
      cases hr
  | succ N ih =>
    have ih0 := ih
    intro n lv h r l2 hn ok il2 q0 q1 q2 hr
    obtain ⟨n_1, e_2, hr_3⟩ := iv_iload_n xm_8 xd_8_14 q2 hr
    obtain ⟨n_4, e_5, hr_6⟩ := iv_bipush xm_8 xd_8_15 (by decide) hr_3
    rcases iv_icmp 48 xm_8 xd_8_17 (by decide) il2 (by unfold sv_I; omega) hr_6 with ⟨c_7, n_8, e_9, hr_10⟩ | ⟨c_7, n_8, e_9, hr_10⟩
    · obtain ⟨n_11, e_12, hr_13⟩ := iv_iconst xm_8 xd_8_48 (by decide) hr_10
      have rr_14 := iv_ireturn xm_8 xd_8_49 hr_13
      subst rr_14
      exact ⟨_, ⟨0 + 1, lm_8_14.mpr (Or.inl ⟨c_7, ⟨rfl, rfl⟩⟩)⟩, rfl, (by unfold sv_I; omega), ok⟩
    · obtain ⟨n_15, e_16, hr_17⟩ := iv_aload_n xm_8 xd_8_20 q1 hr_10
      have f_18 := dc_fi (j := 4) ok (rfl : sv_ty 1 = some 9) dt_9 rfl
      obtain ⟨n_19, e_20, hr_21⟩ := iv_getf (j := 4) xm_8 xd_8_21 (by decide +kernel) ok (rfl : sv_ty 1 = some 9) dt_9 f_18.1 hr_17
      rcases iv_if 32 xm_8 xd_8_24 (by decide) f_18.2 hr_21 with ⟨c_22, n_23, e_24, hr_25⟩ | ⟨c_22, n_23, e_24, hr_25⟩
      · obtain ⟨n_26, e_27, hr_28⟩ := iv_aload_n xm_8 xd_8_32 q0 hr_25
        obtain ⟨n_29, e_30, hr_31⟩ := iv_aload_n xm_8 xd_8_33 q1 hr_28
        obtain ⟨n_41, r_32, e_42, hc_33, hr_43⟩ := iv_call (Or.inr ⟨rfl, rfl⟩) xm_8 xd_8_34 (by decide +kernel) xm_9 rfl (by decide +kernel) hr_31
        obtain ⟨v_34, d_35, er_36, iv_37, ok_38⟩ := ds_9 _ _ ok t_k0 hc_33
        obtain ⟨_, h_40⟩ := r_32
        have er_36 : _ = some (wk_i v_34) := er_36
        subst er_36
        have hr_44 : ae_exe n_41 8 (34 + 3) 0 0 lv _ h_40 = some r := hr_43
        rcases iv_if 42 xm_8 xd_8_37 (by decide) iv_37 hr_44 with ⟨c_45, n_46, e_47, hr_48⟩ | ⟨c_45, n_46, e_47, hr_48⟩
        · obtain ⟨lv_50, sl_49, n_51, e_52, hr_53⟩ := iw_iinc xm_8 xd_8_42 (by decide +kernel) (by decide) q2 hr_48
          have l_54 := sl_49.2 0 _ q0 (by decide) (Or.inl rfl)
          have l_55 := sl_49.2 1 _ q1 (by decide) (Or.inl rfl)
          have l_56 := sl_49.1
          obtain ⟨n_57, e_58, hr_59⟩ := iv_goto 14 xm_8 xd_8_45 (by decide) hr_53
          obtain ⟨v, ⟨c, hL⟩, e1, e2, e3⟩ := ih0 _ lv_50 h_40 _ _ (by omega) ok_38 (dc_w_I _) l_54 l_55 l_56 hr_59
          exact ⟨v, ⟨c + 1, lm_8_14.mpr (Or.inr ⟨c_7, Or.inl ⟨c_22, ⟨_, _, d_35, Or.inl ⟨c_45, hL⟩⟩⟩⟩)⟩, e1, e2, e3⟩
        · obtain ⟨n_60, e_61, hr_62⟩ := iv_iconst xm_8 xd_8_40 (by decide) hr_48
          have rr_63 := iv_ireturn xm_8 xd_8_41 hr_62
          subst rr_63
          exact ⟨_, ⟨0 + 1, lm_8_14.mpr (Or.inr ⟨c_7, Or.inl ⟨c_22, ⟨_, _, d_35, Or.inr ⟨c_45, ⟨rfl, rfl⟩⟩⟩⟩⟩)⟩, rfl, (by unfold sv_I; omega), ok_38⟩
      · obtain ⟨n_64, e_65, hr_66⟩ := iv_aload_n xm_8 xd_8_27 q1 hr_25
        obtain ⟨n_76, r_67, e_77, hc_68, hr_78⟩ := iv_call (Or.inr ⟨rfl, rfl⟩) xm_8 xd_8_28 (by decide +kernel) xm_124 rfl (by decide +kernel) hr_66
        obtain ⟨v_69, d_70, er_71, iv_72, ok_73⟩ := ds_124 _  ok hc_68
        obtain ⟨_, h_75⟩ := r_67
        have er_71 : _ = some (wk_i v_69) := er_71
        subst er_71
        have hr_79 : ae_exe n_76 8 (28 + 3) 0 0 lv _ h_75 = some r := hr_78
        have rr_80 := iv_ireturn xm_8 xd_8_31 hr_79
        subst rr_80
        exact ⟨_, ⟨0 + 1, lm_8_14.mpr (Or.inr ⟨c_7, Or.inr ⟨c_22, ⟨_, _, d_70, ⟨rfl, rfl⟩⟩⟩⟩)⟩, rfl, iv_72, ok_73⟩
abbrev D_8 (k0 : Nat) (m : dc_M) (v : Int) (m' : dc_M) : Prop := ∃ m_90, m_90 = dc_up m k0 2 0 ∧ (∃ v_102 m_107, D_116 700 m_90 v_102 m_107 ∧ (∃ c, LM_8 k0 c 14 0 m_107 v m'))
theorem ds_8 (n : Nat) (k0 : Nat) {h : ae_H} {r : ae_R} (ok : dc_ok h) (t_k0 : sv_ty k0 = some 0) (hr : ae_exe n 8 0 0 0 (ae_args [wk_r k0, wk_r 1] 0) [] h = some r) : ∃ v, D_8 k0 (dc_m h) v (dc_m r.2) ∧ r.1 = some (wk_i v) ∧ sv_I v ∧ dc_ok r.2 := by
  have q0 : ae_lk (ae_args [wk_r k0, wk_r 1] 0) 0 = some (wk_r k0) := rfl
  have q1 : ae_lk (ae_args [wk_r k0, wk_r 1] 0) 1 = some (wk_r 1) := rfl
  obtain ⟨n_81, e_82, hr_83⟩ := iv_aload_n xm_8 xd_8_0 q0 hr
  obtain ⟨n_84, e_85, hr_86⟩ := iv_iconst xm_8 xd_8_1 (by decide) hr_83
  obtain ⟨h_87, ok_88, em_89, n_91, e_92, hr_93⟩ := iv_puti (j := 2) (fk := 0) xm_8 xd_8_2 (by decide +kernel) ok t_k0 dt_0 rfl (by decide +kernel) rfl (by unfold sv_I; omega) hr_86
  obtain ⟨n_94, e_95, hr_96⟩ := iv_aload_n xm_8 xd_8_5 q1 hr_93
  obtain ⟨n_97, e_98, hr_99⟩ := iv_sipush xm_8 xd_8_6 (by decide) hr_96
  obtain ⟨n_109, r_100, e_110, hc_101, hr_111⟩ := iv_call (Or.inr ⟨rfl, rfl⟩) xm_8 xd_8_9 (by decide +kernel) xm_116 rfl (by decide +kernel) hr_99
  obtain ⟨v_102, d_103, er_104, iv_105, ok_106⟩ := ds_116 _ _ ok_88 (by unfold sv_I; omega) hc_101
  obtain ⟨_, h_108⟩ := r_100
  have er_104 : _ = none := er_104
  subst er_104
  have hr_112 : ae_exe n_109 8 (9 + 3) 0 0 (ae_args [wk_r k0, wk_r 1] 0) _ h_108 = some r := hr_111
  obtain ⟨n_113, e_114, hr_115⟩ := iv_iconst xm_8 xd_8_12 (by decide) hr_112
  obtain ⟨lv_117, sl_116, n_118, e_119, hr_120⟩ := iv_istore_n xm_8 xd_8_13 (by decide +kernel) hr_115
  have l_121 := sl_116.2 0 _ q0 (by decide) (Or.inl rfl)
  have l_122 := sl_116.2 1 _ q1 (by decide) (Or.inl rfl)
  have l_123 := sl_116.1
  obtain ⟨v, ⟨c, hL⟩, e1, e2, e3⟩ := (dl_8 t_k0 _) _ lv_117 h_108 _ _ (Nat.le_refl _) ok_106 (by unfold sv_I; omega) l_121 l_122 l_123 hr_120
  exact ⟨v, ⟨_, em_89, ⟨_, _, d_103, ⟨_, hL⟩⟩⟩, e1, e2, e3⟩
/-! method 150 -/
theorem xm_150 : ae_m 150 = some (wk_M 150) := rfl
theorem xd_150_0 : decode (wk_M 150).2.2.1 0 = .ok (.aload_n 0, 1) := zd_by (by decide +kernel)
theorem xd_150_1 : decode (wk_M 150).2.2.1 1 = .ok (.getfield 76, 3) := zd_by (by decide +kernel)
theorem xd_150_4 : decode (wk_M 150).2.2.1 4 = .ok (.aload_n 0, 1) := zd_by (by decide +kernel)
theorem xd_150_5 : decode (wk_M 150).2.2.1 5 = .ok (.getfield 12, 3) := zd_by (by decide +kernel)
theorem xd_150_8 : decode (wk_M 150).2.2.1 8 = .ok (.invokevirtual 133, 3) := zd_by (by decide +kernel)
theorem xd_150_11 : decode (wk_M 150).2.2.1 11 = .ok (.istore_n 1, 1) := zd_by (by decide +kernel)
theorem xd_150_12 : decode (wk_M 150).2.2.1 12 = .ok (.aload_n 0, 1) := zd_by (by decide +kernel)
theorem xd_150_13 : decode (wk_M 150).2.2.1 13 = .ok (.getfield 12, 3) := zd_by (by decide +kernel)
theorem xd_150_16 : decode (wk_M 150).2.2.1 16 = .ok (.iconst 0, 1) := zd_by (by decide +kernel)
theorem xd_150_17 : decode (wk_M 150).2.2.1 17 = .ok (.putfield 89, 3) := zd_by (by decide +kernel)
theorem xd_150_20 : decode (wk_M 150).2.2.1 20 = .ok (.iload_n 1, 1) := zd_by (by decide +kernel)
theorem xd_150_21 : decode (wk_M 150).2.2.1 21 = .ok (.ifCond .ne 13, 3) := zd_by (by decide +kernel)
theorem xd_150_24 : decode (wk_M 150).2.2.1 24 = .ok (.iconst (-1), 1) := zd_by (by decide +kernel)
theorem xd_150_25 : decode (wk_M 150).2.2.1 25 = .ok (.aload_n 0, 1) := zd_by (by decide +kernel)
theorem xd_150_26 : decode (wk_M 150).2.2.1 26 = .ok (.getfield 12, 3) := zd_by (by decide +kernel)
theorem xd_150_29 : decode (wk_M 150).2.2.1 29 = .ok (.getfield 137, 3) := zd_by (by decide +kernel)
theorem xd_150_32 : decode (wk_M 150).2.2.1 32 = .ok (.isub, 1) := zd_by (by decide +kernel)
theorem xd_150_33 : decode (wk_M 150).2.2.1 33 = .ok (.ireturn, 1) := zd_by (by decide +kernel)
theorem xd_150_34 : decode (wk_M 150).2.2.1 34 = .ok (.aload_n 0, 1) := zd_by (by decide +kernel)
theorem xd_150_35 : decode (wk_M 150).2.2.1 35 = .ok (.getfield 76, 3) := zd_by (by decide +kernel)
theorem xd_150_38 : decode (wk_M 150).2.2.1 38 = .ok (.astore_n 2, 1) := zd_by (by decide +kernel)
theorem xd_150_39 : decode (wk_M 150).2.2.1 39 = .ok (.aload_n 0, 1) := zd_by (by decide +kernel)
theorem xd_150_40 : decode (wk_M 150).2.2.1 40 = .ok (.aload_n 0, 1) := zd_by (by decide +kernel)
theorem xd_150_41 : decode (wk_M 150).2.2.1 41 = .ok (.getfield 72, 3) := zd_by (by decide +kernel)
theorem xd_150_44 : decode (wk_M 150).2.2.1 44 = .ok (.putfield 76, 3) := zd_by (by decide +kernel)
theorem xd_150_47 : decode (wk_M 150).2.2.1 47 = .ok (.aload_n 0, 1) := zd_by (by decide +kernel)
theorem xd_150_48 : decode (wk_M 150).2.2.1 48 = .ok (.aload_n 2, 1) := zd_by (by decide +kernel)
theorem xd_150_49 : decode (wk_M 150).2.2.1 49 = .ok (.putfield 72, 3) := zd_by (by decide +kernel)
theorem xd_150_52 : decode (wk_M 150).2.2.1 52 = .ok (.aload_n 0, 1) := zd_by (by decide +kernel)
theorem xd_150_53 : decode (wk_M 150).2.2.1 53 = .ok (.getfield 72, 3) := zd_by (by decide +kernel)
theorem xd_150_56 : decode (wk_M 150).2.2.1 56 = .ok (.getfield 140, 3) := zd_by (by decide +kernel)
theorem xd_150_59 : decode (wk_M 150).2.2.1 59 = .ok (.ireturn, 1) := zd_by (by decide +kernel)
abbrev D_150  (m : dc_M) (v : Int) (m' : dc_M) : Prop := ∃ v_17 m_22, D_8 ((m 0 9).toNat) m v_17 m_22 ∧ (∃ m_48, m_48 = dc_up m_22 1 1 0 ∧ ((((v_17 : Int) ≠ 0 ∧ (∃ m_87, m_87 = dc_up m_48 0 9 (((m_48 0 8).toNat : Nat) : Int) ∧ (∃ m_100, m_100 = dc_up m_87 0 8 (((m_48 0 9).toNat : Nat) : Int) ∧ (v = (m_100 (m_100 0 8).toNat 2) ∧ m' = m_100)))) ∨ (¬ ((v_17 : Int) ≠ 0) ∧ (v = (dc_w ((-1) - (m_48 1 9))) ∧ m' = m_48)))))
theorem ds_150 (n : Nat)  {h : ae_H} {r : ae_R} (ok : dc_ok h)  (hr : ae_exe n 150 0 0 0 (ae_args [wk_r 0] 0) [] h = some r) : ∃ v, D_150  (dc_m h) v (dc_m r.2) ∧ r.1 = some (wk_i v) ∧ sv_I v ∧ dc_ok r.2 := by
  have q0 : ae_lk (ae_args [wk_r 0] 0) 0 = some (wk_r 0) := rfl
  obtain ⟨n_1, e_2, hr_3⟩ := iv_aload_n xm_150 xd_150_0 q0 hr
  have f_4 := dc_ft (j := 9) ok (rfl : sv_ty 0 = some 11) dt_11 rfl
  obtain ⟨n_5, e_6, hr_7⟩ := iv_getf (j := 9) xm_150 xd_150_1 (by decide +kernel) ok (rfl : sv_ty 0 = some 11) dt_11 f_4.1 hr_3
  obtain ⟨n_8, e_9, hr_10⟩ := iv_aload_n xm_150 xd_150_4 q0 hr_7
  have f_11 := dc_fr (j := 0) ok (rfl : sv_ty 0 = some 11) dt_11 rfl
  obtain ⟨n_12, e_13, hr_14⟩ := iv_getf (j := 0) xm_150 xd_150_5 (by decide +kernel) ok (rfl : sv_ty 0 = some 11) dt_11 f_11 hr_10
  obtain ⟨n_24, r_15, e_25, hc_16, hr_26⟩ := iv_call (Or.inr ⟨rfl, rfl⟩) xm_150 xd_150_8 (by decide +kernel) xm_8 rfl (by decide +kernel) hr_14
  obtain ⟨v_17, d_18, er_19, iv_20, ok_21⟩ := ds_8 _ _ ok f_4.2 hc_16
  obtain ⟨_, h_23⟩ := r_15
  have er_19 : _ = some (wk_i v_17) := er_19
  subst er_19
  have hr_27 : ae_exe n_24 150 (8 + 3) 0 0 (ae_args [wk_r 0] 0) _ h_23 = some r := hr_26
  obtain ⟨lv_29, sl_28, n_30, e_31, hr_32⟩ := iv_istore_n xm_150 xd_150_11 (by decide +kernel) hr_27
  have l_33 := sl_28.2 0 _ q0 (by decide) (Or.inl rfl)
  have l_34 := sl_28.1
  obtain ⟨n_35, e_36, hr_37⟩ := iv_aload_n xm_150 xd_150_12 l_33 hr_32
  have f_38 := dc_fr (j := 0) ok_21 (rfl : sv_ty 0 = some 11) dt_11 rfl
  obtain ⟨n_39, e_40, hr_41⟩ := iv_getf (j := 0) xm_150 xd_150_13 (by decide +kernel) ok_21 (rfl : sv_ty 0 = some 11) dt_11 f_38 hr_37
  obtain ⟨n_42, e_43, hr_44⟩ := iv_iconst xm_150 xd_150_16 (by decide) hr_41
  obtain ⟨h_45, ok_46, em_47, n_49, e_50, hr_51⟩ := iv_puti (j := 1) (fk := 0) xm_150 xd_150_17 (by decide +kernel) ok_21 (rfl : sv_ty 1 = some 9) dt_9 rfl (by decide +kernel) rfl (by unfold sv_I; omega) hr_44
  obtain ⟨n_52, e_53, hr_54⟩ := iv_iload_n xm_150 xd_150_20 l_34 hr_51
  rcases iv_if 34 xm_150 xd_150_21 (by decide) iv_20 hr_54 with ⟨c_55, n_56, e_57, hr_58⟩ | ⟨c_55, n_56, e_57, hr_58⟩
  · obtain ⟨n_59, e_60, hr_61⟩ := iv_aload_n xm_150 xd_150_34 l_33 hr_58
    have f_62 := dc_ft (j := 9) ok_46 (rfl : sv_ty 0 = some 11) dt_11 rfl
    obtain ⟨n_63, e_64, hr_65⟩ := iv_getf (j := 9) xm_150 xd_150_35 (by decide +kernel) ok_46 (rfl : sv_ty 0 = some 11) dt_11 f_62.1 hr_61
    obtain ⟨lv_67, sl_66, n_68, e_69, hr_70⟩ := iv_astore_n xm_150 xd_150_38 (by decide +kernel) hr_65
    have l_71 := sl_66.2 0 _ l_33 (by decide) (Or.inl rfl)
    have l_72 := sl_66.2 1 _ l_34 (by decide) (Or.inl rfl)
    have l_73 := sl_66.1
    obtain ⟨n_74, e_75, hr_76⟩ := iv_aload_n xm_150 xd_150_39 l_71 hr_70
    obtain ⟨n_77, e_78, hr_79⟩ := iv_aload_n xm_150 xd_150_40 l_71 hr_76
    have f_80 := dc_ft (j := 8) ok_46 (rfl : sv_ty 0 = some 11) dt_11 rfl
    obtain ⟨n_81, e_82, hr_83⟩ := iv_getf (j := 8) xm_150 xd_150_41 (by decide +kernel) ok_46 (rfl : sv_ty 0 = some 11) dt_11 f_80.1 hr_79
    obtain ⟨h_84, ok_85, em_86, n_88, e_89, hr_90⟩ := iv_putf (j := 9) (f := (2, 0)) (fk := 4) xm_150 xd_150_44 (by decide +kernel) ok_46 (rfl : sv_ty 0 = some 11) dt_11 rfl (by decide +kernel) rfl ⟨_, rfl, f_80.2⟩ hr_83
    obtain ⟨n_91, e_92, hr_93⟩ := iv_aload_n xm_150 xd_150_47 l_71 hr_90
    obtain ⟨n_94, e_95, hr_96⟩ := iv_aload_n xm_150 xd_150_48 l_73 hr_93
    obtain ⟨h_97, ok_98, em_99, n_101, e_102, hr_103⟩ := iv_putf (j := 8) (f := (2, 0)) (fk := 4) xm_150 xd_150_49 (by decide +kernel) ok_85 (rfl : sv_ty 0 = some 11) dt_11 rfl (by decide +kernel) rfl ⟨_, rfl, f_62.2⟩ hr_96
    obtain ⟨n_104, e_105, hr_106⟩ := iv_aload_n xm_150 xd_150_52 l_71 hr_103
    have f_107 := dc_ft (j := 8) ok_98 (rfl : sv_ty 0 = some 11) dt_11 rfl
    obtain ⟨n_108, e_109, hr_110⟩ := iv_getf (j := 8) xm_150 xd_150_53 (by decide +kernel) ok_98 (rfl : sv_ty 0 = some 11) dt_11 f_107.1 hr_106
    have f_111 := dc_fi (j := 2) ok_98 f_107.2 dt_0 rfl
    obtain ⟨n_112, e_113, hr_114⟩ := iv_getf (j := 2) xm_150 xd_150_56 (by decide +kernel) ok_98 f_107.2 dt_0 f_111.1 hr_110
    have rr_115 := iv_ireturn xm_150 xd_150_59 hr_114
    subst rr_115
    exact ⟨_, ⟨_, _, d_18, ⟨_, em_47, Or.inl ⟨c_55, ⟨_, em_86, ⟨_, em_99, ⟨rfl, rfl⟩⟩⟩⟩⟩⟩, rfl, f_111.2, ok_98⟩
  · obtain ⟨n_116, e_117, hr_118⟩ := iv_iconst xm_150 xd_150_24 (by decide) hr_58
    obtain ⟨n_119, e_120, hr_121⟩ := iv_aload_n xm_150 xd_150_25 l_33 hr_118
    have f_122 := dc_fr (j := 0) ok_46 (rfl : sv_ty 0 = some 11) dt_11 rfl
    obtain ⟨n_123, e_124, hr_125⟩ := iv_getf (j := 0) xm_150 xd_150_26 (by decide +kernel) ok_46 (rfl : sv_ty 0 = some 11) dt_11 f_122 hr_121
    have f_126 := dc_fi (j := 9) ok_46 (rfl : sv_ty 1 = some 9) dt_9 rfl
    obtain ⟨n_127, e_128, hr_129⟩ := iv_getf (j := 9) xm_150 xd_150_29 (by decide +kernel) ok_46 (rfl : sv_ty 1 = some 9) dt_9 f_126.1 hr_125
    obtain ⟨n_130, e_131, hr_132⟩ := iw_isub xm_150 xd_150_32 hr_129
    have rr_133 := iv_ireturn xm_150 xd_150_33 hr_132
    subst rr_133
    exact ⟨_, ⟨_, _, d_18, ⟨_, em_47, Or.inr ⟨c_55, ⟨rfl, rfl⟩⟩⟩⟩, rfl, (dc_w_I _), ok_46⟩
/-! method 113 -/
theorem xm_113 : ae_m 113 = some (wk_M 113) := rfl
theorem xd_113_0 : decode (wk_M 113).2.2.1 0 = .ok (.bipush 24, 2) := zd_by (by decide +kernel)
theorem xd_113_2 : decode (wk_M 113).2.2.1 2 = .ok (.istore_n 2, 1) := zd_by (by decide +kernel)
theorem xd_113_3 : decode (wk_M 113).2.2.1 3 = .ok (.iload_n 2, 1) := zd_by (by decide +kernel)
theorem xd_113_4 : decode (wk_M 113).2.2.1 4 = .ok (.ifCond .lt 45, 3) := zd_by (by decide +kernel)
theorem xd_113_7 : decode (wk_M 113).2.2.1 7 = .ok (.aload_n 0, 1) := zd_by (by decide +kernel)
theorem xd_113_8 : decode (wk_M 113).2.2.1 8 = .ok (.getfield 15, 3) := zd_by (by decide +kernel)
theorem xd_113_11 : decode (wk_M 113).2.2.1 11 = .ok (.sipush 740, 3) := zd_by (by decide +kernel)
theorem xd_113_14 : decode (wk_M 113).2.2.1 14 = .ok (.if_icmp .ge 35, 3) := zd_by (by decide +kernel)
theorem xd_113_17 : decode (wk_M 113).2.2.1 17 = .ok (.aload_n 0, 1) := zd_by (by decide +kernel)
theorem xd_113_18 : decode (wk_M 113).2.2.1 18 = .ok (.getfield 11, 3) := zd_by (by decide +kernel)
theorem xd_113_21 : decode (wk_M 113).2.2.1 21 = .ok (.aload_n 0, 1) := zd_by (by decide +kernel)
theorem xd_113_22 : decode (wk_M 113).2.2.1 22 = .ok (.getfield 15, 3) := zd_by (by decide +kernel)
theorem xd_113_25 : decode (wk_M 113).2.2.1 25 = .ok (.iload_n 1, 1) := zd_by (by decide +kernel)
theorem xd_113_26 : decode (wk_M 113).2.2.1 26 = .ok (.iload_n 2, 1) := zd_by (by decide +kernel)
theorem xd_113_27 : decode (wk_M 113).2.2.1 27 = .ok (.iushr, 1) := zd_by (by decide +kernel)
theorem xd_113_28 : decode (wk_M 113).2.2.1 28 = .ok (.sipush 255, 3) := zd_by (by decide +kernel)
theorem xd_113_31 : decode (wk_M 113).2.2.1 31 = .ok (.iand, 1) := zd_by (by decide +kernel)
theorem xd_113_32 : decode (wk_M 113).2.2.1 32 = .ok (.iastore, 1) := zd_by (by decide +kernel)
theorem xd_113_33 : decode (wk_M 113).2.2.1 33 = .ok (.aload_n 0, 1) := zd_by (by decide +kernel)
theorem xd_113_34 : decode (wk_M 113).2.2.1 34 = .ok (.dup, 1) := zd_by (by decide +kernel)
theorem xd_113_35 : decode (wk_M 113).2.2.1 35 = .ok (.getfield 15, 3) := zd_by (by decide +kernel)
theorem xd_113_38 : decode (wk_M 113).2.2.1 38 = .ok (.iconst 1, 1) := zd_by (by decide +kernel)
theorem xd_113_39 : decode (wk_M 113).2.2.1 39 = .ok (.iadd, 1) := zd_by (by decide +kernel)
theorem xd_113_40 : decode (wk_M 113).2.2.1 40 = .ok (.putfield 15, 3) := zd_by (by decide +kernel)
theorem xd_113_43 : decode (wk_M 113).2.2.1 43 = .ok (.iinc 2 (-8), 3) := zd_by (by decide +kernel)
theorem xd_113_46 : decode (wk_M 113).2.2.1 46 = .ok (.goto (-43), 3) := zd_by (by decide +kernel)
theorem xd_113_49 : decode (wk_M 113).2.2.1 49 = .ok (.return_, 1) := zd_by (by decide +kernel)
def LM_113 (x0 : Int) : Nat → Nat → Int → dc_M → Int → dc_M → Prop
  | 0, _, _, _, _, _ => False
  | c + 1, tag, l2, m, v, m' => match tag with
    | _ => (((l2 : Int) < 0 ∧ (v = 0 ∧ m' = m)) ∨ (¬ ((l2 : Int) < 0) ∧ (((((m 1 1) : Int) ≥ 740 ∧ (v = 0 ∧ m' = m)) ∨ (¬ (((m 1 1) : Int) ≥ 740) ∧ ((0 ≤ ((m 1 1) : Int) ∧ ((m 1 1) : Int) < 740) ∧ ∃ m_57, m_57 = dc_up m 2 (m 1 1) (sv_g (sv_u (sv_g (ae_ushr (sv_u x0) (sv_u l2))) &&& sv_u 255)) ∧ (∃ m_80, m_80 = dc_up m_57 1 1 (dc_w ((m_57 1 1) + 1)) ∧ (LM_113 x0 c 3 (dc_w (l2 + (-8))) m_80 v m'))))))))
theorem lm_113_3 {x0 : Int} {c : Nat} {l2 : Int} {m : dc_M} {v : Int} {m' : dc_M} : LM_113 x0 (c + 1) 3 l2 m v m' ↔ (((l2 : Int) < 0 ∧ (v = 0 ∧ m' = m)) ∨ (¬ ((l2 : Int) < 0) ∧ (((((m 1 1) : Int) ≥ 740 ∧ (v = 0 ∧ m' = m)) ∨ (¬ (((m 1 1) : Int) ≥ 740) ∧ ((0 ≤ ((m 1 1) : Int) ∧ ((m 1 1) : Int) < 740) ∧ ∃ m_57, m_57 = dc_up m 2 (m 1 1) (sv_g (sv_u (sv_g (ae_ushr (sv_u x0) (sv_u l2))) &&& sv_u 255)) ∧ (∃ m_80, m_80 = dc_up m_57 1 1 (dc_w ((m_57 1 1) + 1)) ∧ (LM_113 x0 c 3 (dc_w (l2 + (-8))) m_80 v m')))))))) := Iff.rfl
theorem dl_113 {x0 : Int} (ix0 : sv_I x0) : ∀ N : Nat, (∀ (n : Nat) (lv : ae_L) (h : ae_H) (r : ae_R) (l2 : Int), n ≤ N → dc_ok h → sv_I l2 → ae_lk lv 0 = some (wk_r 1) → ae_lk lv 1 = some (wk_i x0) → ae_lk lv 2 = some (wk_i l2) → ae_exe n 113 3 0 0 lv [] h = some r → ∃ v, (∃ c, LM_113 x0 c 3 l2 (dc_m h) v (dc_m r.2)) ∧ r.1 = none ∧ sv_I v ∧ dc_ok r.2) := by
  intro N
  induction N with
  | zero =>
    exact fun n lv h r l2 hn ok il2 q0 q1 q2 hr => by
      have e : n = 0 := by omega
      subst e
      cases hr
  | succ N ih =>
    have ih0 := ih
    intro n lv h r l2 hn ok il2 q0 q1 q2 hr
    obtain ⟨n_1, e_2, hr_3⟩ := iv_iload_n xm_113 xd_113_3 q2 hr
    rcases iv_if 49 xm_113 xd_113_4 (by decide) il2 hr_3 with ⟨c_4, n_5, e_6, hr_7⟩ | ⟨c_4, n_5, e_6, hr_7⟩
    · have rr_8 := iv_return xm_113 xd_113_49 hr_7 rfl
      subst rr_8
      exact ⟨_, ⟨0 + 1, lm_113_3.mpr (Or.inl ⟨c_4, ⟨rfl, rfl⟩⟩)⟩, rfl, (by unfold sv_I; omega), ok⟩
    · obtain ⟨n_9, e_10, hr_11⟩ := iv_aload_n xm_113 xd_113_7 q0 hr_7
      have f_12 := dc_fi (j := 1) ok (rfl : sv_ty 1 = some 9) dt_9 rfl
      obtain ⟨n_13, e_14, hr_15⟩ := iv_getf (j := 1) xm_113 xd_113_8 (by decide +kernel) ok (rfl : sv_ty 1 = some 9) dt_9 f_12.1 hr_11
      obtain ⟨n_16, e_17, hr_18⟩ := iv_sipush xm_113 xd_113_11 (by decide) hr_15
      rcases iv_icmp 49 xm_113 xd_113_14 (by decide) f_12.2 (by unfold sv_I; omega) hr_18 with ⟨c_19, n_20, e_21, hr_22⟩ | ⟨c_19, n_20, e_21, hr_22⟩
      · have rr_23 := iv_return xm_113 xd_113_49 hr_22 rfl
        subst rr_23
        exact ⟨_, ⟨0 + 1, lm_113_3.mpr (Or.inr ⟨c_4, Or.inl ⟨c_19, ⟨rfl, rfl⟩⟩⟩)⟩, rfl, (by unfold sv_I; omega), ok⟩
      · obtain ⟨n_24, e_25, hr_26⟩ := iv_aload_n xm_113 xd_113_17 q0 hr_22
        have f_27 := dc_fr (j := 0) ok (rfl : sv_ty 1 = some 9) dt_9 rfl
        obtain ⟨n_28, e_29, hr_30⟩ := iv_getf (j := 0) xm_113 xd_113_18 (by decide +kernel) ok (rfl : sv_ty 1 = some 9) dt_9 f_27 hr_26
        obtain ⟨n_31, e_32, hr_33⟩ := iv_aload_n xm_113 xd_113_21 q0 hr_30
        have f_34 := dc_fi (j := 1) ok (rfl : sv_ty 1 = some 9) dt_9 rfl
        obtain ⟨n_35, e_36, hr_37⟩ := iv_getf (j := 1) xm_113 xd_113_22 (by decide +kernel) ok (rfl : sv_ty 1 = some 9) dt_9 f_34.1 hr_33
        obtain ⟨n_38, e_39, hr_40⟩ := iv_iload_n xm_113 xd_113_25 q1 hr_37
        obtain ⟨n_41, e_42, hr_43⟩ := iv_iload_n xm_113 xd_113_26 q2 hr_40
        obtain ⟨n_44, e_45, hr_46⟩ := iv_ibin (f := ae_ushr) (Or.inr (Or.inr (Or.inl ⟨rfl, rfl⟩))) (Nat.lt_of_le_of_lt (Nat.shiftRight_le _ _) (sv_u_lt _)) xm_113 xd_113_27 hr_43
        obtain ⟨n_47, e_48, hr_49⟩ := iv_sipush xm_113 xd_113_28 (by decide) hr_46
        obtain ⟨n_50, e_51, hr_52⟩ := iv_iand xm_113 xd_113_31 hr_49
        obtain ⟨q_53, h_54, ok_55, em_56, n_58, e_59, hr_60⟩ := iv_iast xm_113 xd_113_32 ok (rfl : sv_ty 2 = some 13) dt_13 (by decide) f_34.2 (sv_g_I (Nat.lt_of_le_of_lt Nat.and_le_right (sv_u_lt _))) hr_52
        obtain ⟨n_61, e_62, hr_63⟩ := iv_aload_n xm_113 xd_113_33 q0 hr_60
        obtain ⟨n_64, e_65, hr_66⟩ := iv_dup xm_113 xd_113_34 rfl hr_63
        have f_67 := dc_fi (j := 1) ok_55 (rfl : sv_ty 1 = some 9) dt_9 rfl
        obtain ⟨n_68, e_69, hr_70⟩ := iv_getf (j := 1) xm_113 xd_113_35 (by decide +kernel) ok_55 (rfl : sv_ty 1 = some 9) dt_9 f_67.1 hr_66
        obtain ⟨n_71, e_72, hr_73⟩ := iv_iconst xm_113 xd_113_38 (by decide) hr_70
        obtain ⟨n_74, e_75, hr_76⟩ := iw_iadd xm_113 xd_113_39 hr_73
        obtain ⟨h_77, ok_78, em_79, n_81, e_82, hr_83⟩ := iv_puti (j := 1) (fk := 0) xm_113 xd_113_40 (by decide +kernel) ok_55 (rfl : sv_ty 1 = some 9) dt_9 rfl (by decide +kernel) rfl (dc_w_I _) hr_76
        obtain ⟨lv_85, sl_84, n_86, e_87, hr_88⟩ := iw_iinc xm_113 xd_113_43 (by decide +kernel) (by decide) q2 hr_83
        have l_89 := sl_84.2 0 _ q0 (by decide) (Or.inl rfl)
        have l_90 := sl_84.2 1 _ q1 (by decide) (Or.inl rfl)
        have l_91 := sl_84.1
        obtain ⟨n_92, e_93, hr_94⟩ := iv_goto 3 xm_113 xd_113_46 (by decide) hr_88
        obtain ⟨v, ⟨c, hL⟩, e1, e2, e3⟩ := ih0 _ lv_85 h_77 _ _ (by omega) ok_78 (dc_w_I _) l_89 l_90 l_91 hr_94
        exact ⟨v, ⟨c + 1, lm_113_3.mpr (Or.inr ⟨c_4, Or.inr ⟨c_19, ⟨q_53, _, em_56, ⟨_, em_79, hL⟩⟩⟩⟩)⟩, e1, e2, e3⟩
abbrev D_113 (x0 : Int) (m : dc_M) (v : Int) (m' : dc_M) : Prop := ∃ c, LM_113 x0 c 3 24 m v m'
theorem ds_113 (n : Nat) (x0 : Int) {h : ae_H} {r : ae_R} (ok : dc_ok h) (ix0 : sv_I x0) (hr : ae_exe n 113 0 0 0 (ae_args [wk_r 1, wk_i x0] 0) [] h = some r) : ∃ v, D_113 x0 (dc_m h) v (dc_m r.2) ∧ r.1 = none ∧ sv_I v ∧ dc_ok r.2 := by
  have q0 : ae_lk (ae_args [wk_r 1, wk_i x0] 0) 0 = some (wk_r 1) := rfl
  have q1 : ae_lk (ae_args [wk_r 1, wk_i x0] 0) 1 = some (wk_i x0) := rfl
  obtain ⟨n_95, e_96, hr_97⟩ := iv_bipush xm_113 xd_113_0 (by decide) hr
  obtain ⟨lv_99, sl_98, n_100, e_101, hr_102⟩ := iv_istore_n xm_113 xd_113_2 (by decide +kernel) hr_97
  have l_103 := sl_98.2 0 _ q0 (by decide) (Or.inl rfl)
  have l_104 := sl_98.2 1 _ q1 (by decide) (Or.inl rfl)
  have l_105 := sl_98.1
  obtain ⟨v, ⟨c, hL⟩, e1, e2, e3⟩ := (dl_113 ix0 _) _ lv_99 h _ _ (Nat.le_refl _) ok (by unfold sv_I; omega) l_103 l_104 l_105 hr_102
  exact ⟨v, ⟨_, hL⟩, e1, e2, e3⟩
/-! method 144 -/
theorem xm_144 : ae_m 144 = some (wk_M 144) := rfl
theorem xd_144_0 : decode (wk_M 144).2.2.1 0 = .ok (.aload_n 0, 1) := zd_by (by decide +kernel)
theorem xd_144_1 : decode (wk_M 144).2.2.1 1 = .ok (.getfield 12, 3) := zd_by (by decide +kernel)
theorem xd_144_4 : decode (wk_M 144).2.2.1 4 = .ok (.getfield 89, 3) := zd_by (by decide +kernel)
theorem xd_144_7 : decode (wk_M 144).2.2.1 7 = .ok (.bipush 20, 2) := zd_by (by decide +kernel)
theorem xd_144_9 : decode (wk_M 144).2.2.1 9 = .ok (.iadd, 1) := zd_by (by decide +kernel)
theorem xd_144_10 : decode (wk_M 144).2.2.1 10 = .ok (.sipush 740, 3) := zd_by (by decide +kernel)
theorem xd_144_13 : decode (wk_M 144).2.2.1 13 = .ok (.if_icmp .le 5, 3) := zd_by (by decide +kernel)
theorem xd_144_16 : decode (wk_M 144).2.2.1 16 = .ok (.iconst (-1), 1) := zd_by (by decide +kernel)
theorem xd_144_17 : decode (wk_M 144).2.2.1 17 = .ok (.ireturn, 1) := zd_by (by decide +kernel)
theorem xd_144_18 : decode (wk_M 144).2.2.1 18 = .ok (.aload_n 0, 1) := zd_by (by decide +kernel)
theorem xd_144_19 : decode (wk_M 144).2.2.1 19 = .ok (.getfield 12, 3) := zd_by (by decide +kernel)
theorem xd_144_22 : decode (wk_M 144).2.2.1 22 = .ok (.iload_n 1, 1) := zd_by (by decide +kernel)
theorem xd_144_23 : decode (wk_M 144).2.2.1 23 = .ok (.invokevirtual 93, 3) := zd_by (by decide +kernel)
theorem xd_144_26 : decode (wk_M 144).2.2.1 26 = .ok (.aload_n 0, 1) := zd_by (by decide +kernel)
theorem xd_144_27 : decode (wk_M 144).2.2.1 27 = .ok (.getfield 12, 3) := zd_by (by decide +kernel)
theorem xd_144_30 : decode (wk_M 144).2.2.1 30 = .ok (.iload_n 2, 1) := zd_by (by decide +kernel)
theorem xd_144_31 : decode (wk_M 144).2.2.1 31 = .ok (.invokevirtual 93, 3) := zd_by (by decide +kernel)
theorem xd_144_34 : decode (wk_M 144).2.2.1 34 = .ok (.aload_n 0, 1) := zd_by (by decide +kernel)
theorem xd_144_35 : decode (wk_M 144).2.2.1 35 = .ok (.getfield 12, 3) := zd_by (by decide +kernel)
theorem xd_144_38 : decode (wk_M 144).2.2.1 38 = .ok (.iload_n 3, 1) := zd_by (by decide +kernel)
theorem xd_144_39 : decode (wk_M 144).2.2.1 39 = .ok (.invokevirtual 93, 3) := zd_by (by decide +kernel)
theorem xd_144_42 : decode (wk_M 144).2.2.1 42 = .ok (.aload_n 0, 1) := zd_by (by decide +kernel)
theorem xd_144_43 : decode (wk_M 144).2.2.1 43 = .ok (.getfield 12, 3) := zd_by (by decide +kernel)
theorem xd_144_46 : decode (wk_M 144).2.2.1 46 = .ok (.iload 4, 2) := zd_by (by decide +kernel)
theorem xd_144_48 : decode (wk_M 144).2.2.1 48 = .ok (.invokevirtual 93, 3) := zd_by (by decide +kernel)
theorem xd_144_51 : decode (wk_M 144).2.2.1 51 = .ok (.aload_n 0, 1) := zd_by (by decide +kernel)
theorem xd_144_52 : decode (wk_M 144).2.2.1 52 = .ok (.getfield 12, 3) := zd_by (by decide +kernel)
theorem xd_144_55 : decode (wk_M 144).2.2.1 55 = .ok (.iload 5, 2) := zd_by (by decide +kernel)
theorem xd_144_57 : decode (wk_M 144).2.2.1 57 = .ok (.invokevirtual 93, 3) := zd_by (by decide +kernel)
theorem xd_144_60 : decode (wk_M 144).2.2.1 60 = .ok (.aload_n 0, 1) := zd_by (by decide +kernel)
theorem xd_144_61 : decode (wk_M 144).2.2.1 61 = .ok (.getfield 12, 3) := zd_by (by decide +kernel)
theorem xd_144_64 : decode (wk_M 144).2.2.1 64 = .ok (.getfield 89, 3) := zd_by (by decide +kernel)
theorem xd_144_67 : decode (wk_M 144).2.2.1 67 = .ok (.ireturn, 1) := zd_by (by decide +kernel)
abbrev D_144 (x0 : Int) (x1 : Int) (x2 : Int) (x3 : Int) (x4 : Int) (m : dc_M) (v : Int) (m' : dc_M) : Prop := ((((dc_w ((m 1 1) + 20)) : Int) ≤ 740 ∧ (∃ v_37 m_42, D_113 x0 m v_37 m_42 ∧ (∃ v_60 m_65, D_113 x1 m_42 v_60 m_65 ∧ (∃ v_83 m_88, D_113 x2 m_65 v_83 m_88 ∧ (∃ v_106 m_111, D_113 x3 m_88 v_106 m_111 ∧ (∃ v_129 m_134, D_113 x4 m_111 v_129 m_134 ∧ (v = (m_134 1 1) ∧ m' = m_134))))))) ∨ (¬ (((dc_w ((m 1 1) + 20)) : Int) ≤ 740) ∧ (v = (-1) ∧ m' = m)))
theorem ds_144 (n : Nat) (x0 : Int) (x1 : Int) (x2 : Int) (x3 : Int) (x4 : Int) {h : ae_H} {r : ae_R} (ok : dc_ok h) (ix0 : sv_I x0) (ix1 : sv_I x1) (ix2 : sv_I x2) (ix3 : sv_I x3) (ix4 : sv_I x4) (hr : ae_exe n 144 0 0 0 (ae_args [wk_r 0, wk_i x0, wk_i x1, wk_i x2, wk_i x3, wk_i x4] 0) [] h = some r) : ∃ v, D_144 x0 x1 x2 x3 x4 (dc_m h) v (dc_m r.2) ∧ r.1 = some (wk_i v) ∧ sv_I v ∧ dc_ok r.2 := by
  have q0 : ae_lk (ae_args [wk_r 0, wk_i x0, wk_i x1, wk_i x2, wk_i x3, wk_i x4] 0) 0 = some (wk_r 0) := rfl
  have q1 : ae_lk (ae_args [wk_r 0, wk_i x0, wk_i x1, wk_i x2, wk_i x3, wk_i x4] 0) 1 = some (wk_i x0) := rfl
  have q2 : ae_lk (ae_args [wk_r 0, wk_i x0, wk_i x1, wk_i x2, wk_i x3, wk_i x4] 0) 2 = some (wk_i x1) := rfl
  have q3 : ae_lk (ae_args [wk_r 0, wk_i x0, wk_i x1, wk_i x2, wk_i x3, wk_i x4] 0) 3 = some (wk_i x2) := rfl
  have q4 : ae_lk (ae_args [wk_r 0, wk_i x0, wk_i x1, wk_i x2, wk_i x3, wk_i x4] 0) 4 = some (wk_i x3) := rfl
  have q5 : ae_lk (ae_args [wk_r 0, wk_i x0, wk_i x1, wk_i x2, wk_i x3, wk_i x4] 0) 5 = some (wk_i x4) := rfl
  obtain ⟨n_1, e_2, hr_3⟩ := iv_aload_n xm_144 xd_144_0 q0 hr
  have f_4 := dc_fr (j := 0) ok (rfl : sv_ty 0 = some 11) dt_11 rfl
  obtain ⟨n_5, e_6, hr_7⟩ := iv_getf (j := 0) xm_144 xd_144_1 (by decide +kernel) ok (rfl : sv_ty 0 = some 11) dt_11 f_4 hr_3
  have f_8 := dc_fi (j := 1) ok (rfl : sv_ty 1 = some 9) dt_9 rfl
  obtain ⟨n_9, e_10, hr_11⟩ := iv_getf (j := 1) xm_144 xd_144_4 (by decide +kernel) ok (rfl : sv_ty 1 = some 9) dt_9 f_8.1 hr_7
  obtain ⟨n_12, e_13, hr_14⟩ := iv_bipush xm_144 xd_144_7 (by decide) hr_11
  obtain ⟨n_15, e_16, hr_17⟩ := iw_iadd xm_144 xd_144_9 hr_14
  obtain ⟨n_18, e_19, hr_20⟩ := iv_sipush xm_144 xd_144_10 (by decide) hr_17
  rcases iv_icmp 18 xm_144 xd_144_13 (by decide) (dc_w_I _) (by unfold sv_I; omega) hr_20 with ⟨c_21, n_22, e_23, hr_24⟩ | ⟨c_21, n_22, e_23, hr_24⟩
  · obtain ⟨n_25, e_26, hr_27⟩ := iv_aload_n xm_144 xd_144_18 q0 hr_24
    have f_28 := dc_fr (j := 0) ok (rfl : sv_ty 0 = some 11) dt_11 rfl
    obtain ⟨n_29, e_30, hr_31⟩ := iv_getf (j := 0) xm_144 xd_144_19 (by decide +kernel) ok (rfl : sv_ty 0 = some 11) dt_11 f_28 hr_27
    obtain ⟨n_32, e_33, hr_34⟩ := iv_iload_n xm_144 xd_144_22 q1 hr_31
    obtain ⟨n_44, r_35, e_45, hc_36, hr_46⟩ := iv_call (Or.inr ⟨rfl, rfl⟩) xm_144 xd_144_23 (by decide +kernel) xm_113 rfl (by decide +kernel) hr_34
    obtain ⟨v_37, d_38, er_39, iv_40, ok_41⟩ := ds_113 _ _ ok ix0 hc_36
    obtain ⟨_, h_43⟩ := r_35
    have er_39 : _ = none := er_39
    subst er_39
    have hr_47 : ae_exe n_44 144 (23 + 3) 0 0 (ae_args [wk_r 0, wk_i x0, wk_i x1, wk_i x2, wk_i x3, wk_i x4] 0) _ h_43 = some r := hr_46
    obtain ⟨n_48, e_49, hr_50⟩ := iv_aload_n xm_144 xd_144_26 q0 hr_47
    have f_51 := dc_fr (j := 0) ok_41 (rfl : sv_ty 0 = some 11) dt_11 rfl
    obtain ⟨n_52, e_53, hr_54⟩ := iv_getf (j := 0) xm_144 xd_144_27 (by decide +kernel) ok_41 (rfl : sv_ty 0 = some 11) dt_11 f_51 hr_50
    obtain ⟨n_55, e_56, hr_57⟩ := iv_iload_n xm_144 xd_144_30 q2 hr_54
    obtain ⟨n_67, r_58, e_68, hc_59, hr_69⟩ := iv_call (Or.inr ⟨rfl, rfl⟩) xm_144 xd_144_31 (by decide +kernel) xm_113 rfl (by decide +kernel) hr_57
    obtain ⟨v_60, d_61, er_62, iv_63, ok_64⟩ := ds_113 _ _ ok_41 ix1 hc_59
    obtain ⟨_, h_66⟩ := r_58
    have er_62 : _ = none := er_62
    subst er_62
    have hr_70 : ae_exe n_67 144 (31 + 3) 0 0 (ae_args [wk_r 0, wk_i x0, wk_i x1, wk_i x2, wk_i x3, wk_i x4] 0) _ h_66 = some r := hr_69
    obtain ⟨n_71, e_72, hr_73⟩ := iv_aload_n xm_144 xd_144_34 q0 hr_70
    have f_74 := dc_fr (j := 0) ok_64 (rfl : sv_ty 0 = some 11) dt_11 rfl
    obtain ⟨n_75, e_76, hr_77⟩ := iv_getf (j := 0) xm_144 xd_144_35 (by decide +kernel) ok_64 (rfl : sv_ty 0 = some 11) dt_11 f_74 hr_73
    obtain ⟨n_78, e_79, hr_80⟩ := iv_iload_n xm_144 xd_144_38 q3 hr_77
    obtain ⟨n_90, r_81, e_91, hc_82, hr_92⟩ := iv_call (Or.inr ⟨rfl, rfl⟩) xm_144 xd_144_39 (by decide +kernel) xm_113 rfl (by decide +kernel) hr_80
    obtain ⟨v_83, d_84, er_85, iv_86, ok_87⟩ := ds_113 _ _ ok_64 ix2 hc_82
    obtain ⟨_, h_89⟩ := r_81
    have er_85 : _ = none := er_85
    subst er_85
    have hr_93 : ae_exe n_90 144 (39 + 3) 0 0 (ae_args [wk_r 0, wk_i x0, wk_i x1, wk_i x2, wk_i x3, wk_i x4] 0) _ h_89 = some r := hr_92
    obtain ⟨n_94, e_95, hr_96⟩ := iv_aload_n xm_144 xd_144_42 q0 hr_93
    have f_97 := dc_fr (j := 0) ok_87 (rfl : sv_ty 0 = some 11) dt_11 rfl
    obtain ⟨n_98, e_99, hr_100⟩ := iv_getf (j := 0) xm_144 xd_144_43 (by decide +kernel) ok_87 (rfl : sv_ty 0 = some 11) dt_11 f_97 hr_96
    obtain ⟨n_101, e_102, hr_103⟩ := iv_iload xm_144 xd_144_46 q4 hr_100
    obtain ⟨n_113, r_104, e_114, hc_105, hr_115⟩ := iv_call (Or.inr ⟨rfl, rfl⟩) xm_144 xd_144_48 (by decide +kernel) xm_113 rfl (by decide +kernel) hr_103
    obtain ⟨v_106, d_107, er_108, iv_109, ok_110⟩ := ds_113 _ _ ok_87 ix3 hc_105
    obtain ⟨_, h_112⟩ := r_104
    have er_108 : _ = none := er_108
    subst er_108
    have hr_116 : ae_exe n_113 144 (48 + 3) 0 0 (ae_args [wk_r 0, wk_i x0, wk_i x1, wk_i x2, wk_i x3, wk_i x4] 0) _ h_112 = some r := hr_115
    obtain ⟨n_117, e_118, hr_119⟩ := iv_aload_n xm_144 xd_144_51 q0 hr_116
    have f_120 := dc_fr (j := 0) ok_110 (rfl : sv_ty 0 = some 11) dt_11 rfl
    obtain ⟨n_121, e_122, hr_123⟩ := iv_getf (j := 0) xm_144 xd_144_52 (by decide +kernel) ok_110 (rfl : sv_ty 0 = some 11) dt_11 f_120 hr_119
    obtain ⟨n_124, e_125, hr_126⟩ := iv_iload xm_144 xd_144_55 q5 hr_123
    obtain ⟨n_136, r_127, e_137, hc_128, hr_138⟩ := iv_call (Or.inr ⟨rfl, rfl⟩) xm_144 xd_144_57 (by decide +kernel) xm_113 rfl (by decide +kernel) hr_126
    obtain ⟨v_129, d_130, er_131, iv_132, ok_133⟩ := ds_113 _ _ ok_110 ix4 hc_128
    obtain ⟨_, h_135⟩ := r_127
    have er_131 : _ = none := er_131
    subst er_131
    have hr_139 : ae_exe n_136 144 (57 + 3) 0 0 (ae_args [wk_r 0, wk_i x0, wk_i x1, wk_i x2, wk_i x3, wk_i x4] 0) _ h_135 = some r := hr_138
    obtain ⟨n_140, e_141, hr_142⟩ := iv_aload_n xm_144 xd_144_60 q0 hr_139
    have f_143 := dc_fr (j := 0) ok_133 (rfl : sv_ty 0 = some 11) dt_11 rfl
    obtain ⟨n_144, e_145, hr_146⟩ := iv_getf (j := 0) xm_144 xd_144_61 (by decide +kernel) ok_133 (rfl : sv_ty 0 = some 11) dt_11 f_143 hr_142
    have f_147 := dc_fi (j := 1) ok_133 (rfl : sv_ty 1 = some 9) dt_9 rfl
    obtain ⟨n_148, e_149, hr_150⟩ := iv_getf (j := 1) xm_144 xd_144_64 (by decide +kernel) ok_133 (rfl : sv_ty 1 = some 9) dt_9 f_147.1 hr_146
    have rr_151 := iv_ireturn xm_144 xd_144_67 hr_150
    subst rr_151
    exact ⟨_, Or.inl ⟨c_21, ⟨_, _, d_38, ⟨_, _, d_61, ⟨_, _, d_84, ⟨_, _, d_107, ⟨_, _, d_130, ⟨rfl, rfl⟩⟩⟩⟩⟩⟩⟩, rfl, f_147.2, ok_133⟩
  · obtain ⟨n_152, e_153, hr_154⟩ := iv_iconst xm_144 xd_144_16 (by decide) hr_24
    have rr_155 := iv_ireturn xm_144 xd_144_17 hr_154
    subst rr_155
    exact ⟨_, Or.inr ⟨c_21, ⟨rfl, rfl⟩⟩, rfl, (by unfold sv_I; omega), ok⟩
