/-! THE THROWERS OF THE CLASS (printed by wip/p2/law/g89.py) -/
theorem lt_16 {h : ae_H} (hk : sv_hk sv_ty sv_tt h) {k : Nat} (tk : sv_ty k = some 1) {x1 : Int} (h1 : sv_I x1) {x2 : Int} (h2 : sv_I x2) : sv_G (fun r => sv_Tk sv_ty sv_tt [] h r.2 ∧ (r.1 = some (wk_i 0) ∨ (r.1 = some (wk_i 1) ∧ 0 ≤ x1 ∧ x1 ≤ 7 ∧ 0 ≤ x2 ∧ x2 ≤ 39))) 16 0 (ae_args [wk_r k, wk_i x1, wk_i x2] 0) [] h := by
  have hkk : k < 256 := sv_ty_lt _ _ tk
  refine sv_G_mono (fun r hr => ?_) (svC_300_ok (wa_x (fun _ => 0) 0 [(k : Int), x1, x2]) _ h hk (lp_Pi ⟨by show (0 : Int) ≤ (k : Int) ∧ (k : Int) ≤ 255; omega, lp_bI h1, lp_bI h2, trivial⟩ rfl ⟨lp_l1 (k := k) (by decide) rfl rfl tk, lp_l0 (by decide) rfl h1, lp_l0 (by decide) rfl h2, trivial⟩ trivial trivial trivial))
  obtain ⟨P, hPm, ρ', hag, hPk, hT, -⟩ := hr
  have hPm : P ∈ [(0, [(0, 255), ((-2147483648), 2147483647), ((-2147483648), 2147483647), (0, 0)], [], [(1000, (0, 0, (0, [(3, 1)])))], [], [], []), (0, [(0, 255), ((-2147483648), 2147483647), ((-2147483648), 2147483647), (1, 1)], [(0, [(1, 1)]), (7, [(1, (-1))]), (0, [(2, 1)]), (39, [(2, (-1))])], [(1000, (0, 0, (0, [(3, 1)])))], [], [], [])] := hPm
  rcases List.mem_cons.mp hPm with e | hPm
  · cases e
    obtain ⟨lr, ir⟩ := wa_loc0 hPk (i := 1000) (s := 3) rfl
    have er := lp_rl lr
    have eb : (0 : Int) ≤ ρ' 3 ∧ ρ' 3 ≤ 0 := hPk.1 3 (0, 0) rfl
    rw [show ρ' 3 = 0 by omega] at er
    exact ⟨hT, Or.inl er⟩
  · cases List.mem_singleton.mp hPm
    obtain ⟨lr, ir⟩ := wa_loc0 hPk (i := 1000) (s := 3) rfl
    have er := lp_rl lr
    have eb : (1 : Int) ≤ ρ' 3 ∧ ρ' 3 ≤ 1 := hPk.1 3 (1, 1) rfl
    rw [show ρ' 3 = 1 by omega] at er
    have e1 : ρ' 1 = x1 := hag 1 (by decide)
    have e2 : ρ' 2 = x2 := hag 2 (by decide)
    have c0 : (0 : Int) ≤ 0 + (1 * ρ' 1 + 0) := (hPk.2.1 _ (List.mem_cons_self)).1
    have c1 : (0 : Int) ≤ 7 + ((-1) * ρ' 1 + 0) := (hPk.2.1 _ (List.mem_cons_of_mem _ (List.mem_cons_self))).1
    have c2 : (0 : Int) ≤ 0 + (1 * ρ' 2 + 0) := (hPk.2.1 _ (List.mem_cons_of_mem _ (List.mem_cons_of_mem _ (List.mem_cons_self)))).1
    have c3 : (0 : Int) ≤ 39 + ((-1) * ρ' 2 + 0) := (hPk.2.1 _ (List.mem_cons_of_mem _ (List.mem_cons_of_mem _ (List.mem_cons_of_mem _ (List.mem_cons_self))))).1
    exact ⟨hT, Or.inr ⟨er, by omega, by omega, by omega, by omega⟩⟩
theorem lt_15 {h : ae_H} (hk : sv_hk sv_ty sv_tt h) {x1 : Int} (h1 : sv_I x1) : sv_G (fun r => sv_Tk sv_ty sv_tt [] h r.2 ∧ (r.1 = some (wk_i 0) ∨ (r.1 = some (wk_i 1) ∧ 1 ≤ x1 ∧ x1 ≤ 20))) 15 0 (ae_args [wk_i x1] 0) [] h := by
  refine sv_G_mono (fun r hr => ?_) (svC_301_ok (wa_x (fun _ => 0) 0 [x1]) _ h hk (lp_Pi ⟨lp_bI h1, trivial⟩ rfl ⟨lp_l0 (by decide) rfl h1, trivial⟩ trivial trivial trivial))
  obtain ⟨P, hPm, ρ', hag, hPk, hT, -⟩ := hr
  have hPm : P ∈ [(0, [((-2147483648), 2147483647), (0, 0)], [], [(1000, (0, 0, (0, [(1, 1)])))], [], [], []), (0, [((-2147483648), 2147483647), (1, 1)], [((-1), [(0, 1)]), (20, [(0, (-1))])], [(1000, (0, 0, (0, [(1, 1)])))], [], [], [])] := hPm
  rcases List.mem_cons.mp hPm with e | hPm
  · cases e
    obtain ⟨lr, ir⟩ := wa_loc0 hPk (i := 1000) (s := 1) rfl
    have er := lp_rl lr
    have eb : (0 : Int) ≤ ρ' 1 ∧ ρ' 1 ≤ 0 := hPk.1 1 (0, 0) rfl
    rw [show ρ' 1 = 0 by omega] at er
    exact ⟨hT, Or.inl er⟩
  · cases List.mem_singleton.mp hPm
    obtain ⟨lr, ir⟩ := wa_loc0 hPk (i := 1000) (s := 1) rfl
    have er := lp_rl lr
    have eb : (1 : Int) ≤ ρ' 1 ∧ ρ' 1 ≤ 1 := hPk.1 1 (1, 1) rfl
    rw [show ρ' 1 = 1 by omega] at er
    have e0 : ρ' 0 = x1 := hag 0 (by decide)
    have c0 : (0 : Int) ≤ (-1) + (1 * ρ' 0 + 0) := (hPk.2.1 _ (List.mem_cons_self)).1
    have c1 : (0 : Int) ≤ 20 + ((-1) * ρ' 0 + 0) := (hPk.2.1 _ (List.mem_cons_of_mem _ (List.mem_cons_self))).1
    exact ⟨hT, Or.inr ⟨er, by omega, by omega⟩⟩
theorem lt_18 {h : ae_H} (hk : sv_hk sv_ty sv_tt h) {k : Nat} (tk : sv_ty k = some 1) {x1 : Int} (h1 : sv_I x1) (b1 : 0 ≤ x1 ∧ x1 ≤ 7) {x2 : Int} (h2 : sv_I x2) (b2 : 0 ≤ x2 ∧ x2 ≤ 39) : sv_G (fun r => sv_Tk sv_ty sv_tt [] h r.2 ∧ (∃ y, r.1 = some (wk_i y) ∧ sv_I y ∧ 0 ≤ y ∧ y ≤ 6380)) 18 0 (ae_args [wk_r k, wk_i x1, wk_i x2] 0) [] h := by
  have hkk : k < 256 := sv_ty_lt _ _ tk
  refine sv_G_mono (fun r hr => ?_) (svC_302_ok (wa_x (fun _ => 0) 0 [(k : Int), x1, x2]) _ h hk (lp_Pi ⟨by show (0 : Int) ≤ (k : Int) ∧ (k : Int) ≤ 255; omega, b1, b2, trivial⟩ rfl ⟨lp_l1 (k := k) (by decide) rfl rfl tk, lp_l0 (by decide) rfl h1, lp_l0 (by decide) rfl h2, trivial⟩ trivial trivial trivial))
  obtain ⟨P, hPm, ρ', hag, hPk, hT, -⟩ := hr
  have hPm : P ∈ [(0, [(0, 255), (0, 7), (0, 39), (0, 6380)], [], [(1000, (0, 0, (0, [(3, 1)])))], [], [], [])] := hPm
  · cases List.mem_singleton.mp hPm
    obtain ⟨lr, ir⟩ := wa_loc0 hPk (i := 1000) (s := 3) rfl
    have er := lp_rl lr
    have eb : (0 : Int) ≤ ρ' 3 ∧ ρ' 3 ≤ 6380 := hPk.1 3 (0, 6380) rfl
    exact ⟨hT, ρ' 3, er, ir, eb⟩
theorem lt_95 {h : ae_H} (hk : sv_hk sv_ty sv_tt h) {k : Nat} (tk : sv_ty k = some 7) {x1 : Int} (h1 : sv_I x1) {x2 : Int} (h2 : sv_I x2) : sv_G (fun r => sv_Tk sv_ty sv_tt [] h r.2 ∧ (r.1 = some (wk_i 0) ∨ (r.1 = some (wk_i 1) ∧ 0 ≤ x1 ∧ x1 ≤ 59 ∧ 1 ≤ x2 ∧ x2 ≤ 12))) 95 0 (ae_args [wk_r k, wk_i x1, wk_i x2] 0) [] h := by
  have hkk : k < 256 := sv_ty_lt _ _ tk
  refine sv_G_mono (fun r hr => ?_) (svC_303_ok (wa_x (fun _ => 0) 0 [(k : Int), x1, x2]) _ h hk (lp_Pi ⟨by show (0 : Int) ≤ (k : Int) ∧ (k : Int) ≤ 255; omega, lp_bI h1, lp_bI h2, trivial⟩ rfl ⟨lp_l1 (k := k) (by decide) rfl rfl tk, lp_l0 (by decide) rfl h1, lp_l0 (by decide) rfl h2, trivial⟩ trivial trivial trivial))
  obtain ⟨P, hPm, ρ', hag, hPk, hT, -⟩ := hr
  have hPm : P ∈ [(0, [(0, 255), ((-2147483648), 2147483647), ((-2147483648), 2147483647), (0, 0)], [], [(1000, (0, 0, (0, [(3, 1)])))], [], [], []), (0, [(0, 255), ((-2147483648), 2147483647), ((-2147483648), 2147483647), (1, 1)], [(0, [(1, 1)]), (59, [(1, (-1))]), ((-1), [(2, 1)]), (12, [(2, (-1))])], [(1000, (0, 0, (0, [(3, 1)])))], [], [], [])] := hPm
  rcases List.mem_cons.mp hPm with e | hPm
  · cases e
    obtain ⟨lr, ir⟩ := wa_loc0 hPk (i := 1000) (s := 3) rfl
    have er := lp_rl lr
    have eb : (0 : Int) ≤ ρ' 3 ∧ ρ' 3 ≤ 0 := hPk.1 3 (0, 0) rfl
    rw [show ρ' 3 = 0 by omega] at er
    exact ⟨hT, Or.inl er⟩
  · cases List.mem_singleton.mp hPm
    obtain ⟨lr, ir⟩ := wa_loc0 hPk (i := 1000) (s := 3) rfl
    have er := lp_rl lr
    have eb : (1 : Int) ≤ ρ' 3 ∧ ρ' 3 ≤ 1 := hPk.1 3 (1, 1) rfl
    rw [show ρ' 3 = 1 by omega] at er
    have e1 : ρ' 1 = x1 := hag 1 (by decide)
    have e2 : ρ' 2 = x2 := hag 2 (by decide)
    have c0 : (0 : Int) ≤ 0 + (1 * ρ' 1 + 0) := (hPk.2.1 _ (List.mem_cons_self)).1
    have c1 : (0 : Int) ≤ 59 + ((-1) * ρ' 1 + 0) := (hPk.2.1 _ (List.mem_cons_of_mem _ (List.mem_cons_self))).1
    have c2 : (0 : Int) ≤ (-1) + (1 * ρ' 2 + 0) := (hPk.2.1 _ (List.mem_cons_of_mem _ (List.mem_cons_of_mem _ (List.mem_cons_self)))).1
    have c3 : (0 : Int) ≤ 12 + ((-1) * ρ' 2 + 0) := (hPk.2.1 _ (List.mem_cons_of_mem _ (List.mem_cons_of_mem _ (List.mem_cons_of_mem _ (List.mem_cons_self))))).1
    exact ⟨hT, Or.inr ⟨er, by omega, by omega, by omega, by omega⟩⟩
theorem lt_96 {h : ae_H} (hk : sv_hk sv_ty sv_tt h) {k : Nat} (tk : sv_ty k = some 7) {x1 : Int} (h1 : sv_I x1) (b1 : 0 ≤ x1 ∧ x1 ≤ 59) {x2 : Int} (h2 : sv_I x2) (b2 : 1 ≤ x2 ∧ x2 ≤ 12) : sv_G (fun r => sv_Tk sv_ty sv_tt [] h r.2 ∧ (∃ y, r.1 = some (wk_i y) ∧ sv_I y ∧ -2147483648 ≤ y ∧ y ≤ 2147483647)) 96 0 (ae_args [wk_r k, wk_i x1, wk_i x2] 0) [] h := by
  have hkk : k < 256 := sv_ty_lt _ _ tk
  refine sv_G_mono (fun r hr => ?_) (svC_304_ok (wa_x (fun _ => 0) 0 [(k : Int), x1, x2]) _ h hk (lp_Pi ⟨by show (0 : Int) ≤ (k : Int) ∧ (k : Int) ≤ 255; omega, b1, b2, trivial⟩ rfl ⟨lp_l1 (k := k) (by decide) rfl rfl tk, lp_l0 (by decide) rfl h1, lp_l0 (by decide) rfl h2, trivial⟩ trivial trivial trivial))
  obtain ⟨P, hPm, ρ', hag, hPk, hT, -⟩ := hr
  have hPm : P ∈ [(0, [(0, 255), (0, 59), (1, 12), ((-2147483648), 2147483647)], [], [(1000, (0, 0, (0, [(3, 1)])))], [], [], [])] := hPm
  · cases List.mem_singleton.mp hPm
    obtain ⟨lr, ir⟩ := wa_loc0 hPk (i := 1000) (s := 3) rfl
    have er := lp_rl lr
    have eb : ((-2147483648) : Int) ≤ ρ' 3 ∧ ρ' 3 ≤ 2147483647 := hPk.1 3 ((-2147483648), 2147483647) rfl
    exact ⟨hT, ρ' 3, er, ir, eb⟩
theorem wm_15 : ae_m 15 = some (wk_M 15) := rfl
theorem wm_16 : ae_m 16 = some (wk_M 16) := rfl
theorem wm_95 : ae_m 95 = some (wk_M 95) := rfl
theorem wm_96 : ae_m 96 = some (wk_M 96) := rfl
def ae_Mc4 : ae_M := (11, yX11_column, cX11_column, 4, some .int, 1, 3, 8, 200, 1, 6)
theorem wv_4_0 : decode ae_Mc4.2.2.1 0 = .ok (.aload_n 0, 1) := zd_by (by decide +kernel)
theorem wv_4_1 : decode ae_Mc4.2.2.1 1 = .ok (.getfield 19, 3) := zd_by (by decide +kernel)
theorem wv_4_4 : decode ae_Mc4.2.2.1 4 = .ok (.iload_n 1, 1) := zd_by (by decide +kernel)
theorem wv_4_5 : decode ae_Mc4.2.2.1 5 = .ok (.iload_n 2, 1) := zd_by (by decide +kernel)
theorem wv_4_6 : decode ae_Mc4.2.2.1 6 = .ok (.invokevirtual 116, 3) := zd_by (by decide +kernel)
theorem wv_4_9 : decode ae_Mc4.2.2.1 9 = .ok (.ifCond .eq 10, 3) := zd_by (by decide +kernel)
theorem wv_4_12 : decode ae_Mc4.2.2.1 12 = .ok (.iload_n 3, 1) := zd_by (by decide +kernel)
theorem wv_4_13 : decode ae_Mc4.2.2.1 13 = .ok (.invokestatic 119, 3) := zd_by (by decide +kernel)
theorem wv_4_16 : decode ae_Mc4.2.2.1 16 = .ok (.ifCond .ne 11, 3) := zd_by (by decide +kernel)
theorem wv_4_19 : decode ae_Mc4.2.2.1 19 = .ok (.new 122, 3) := zd_by (by decide +kernel)
theorem wv_4_22 : decode ae_Mc4.2.2.1 22 = .ok (.dup, 1) := zd_by (by decide +kernel)
theorem wv_4_23 : decode ae_Mc4.2.2.1 23 = .ok (.invokespecial 124, 3) := zd_by (by decide +kernel)
theorem wv_4_26 : decode ae_Mc4.2.2.1 26 = .ok (.athrow, 1) := zd_by (by decide +kernel)
theorem wv_4_27 : decode ae_Mc4.2.2.1 27 = .ok (.aload_n 0, 1) := zd_by (by decide +kernel)
theorem wv_4_28 : decode ae_Mc4.2.2.1 28 = .ok (.getfield 19, 3) := zd_by (by decide +kernel)
theorem wv_4_31 : decode ae_Mc4.2.2.1 31 = .ok (.getfield 125, 3) := zd_by (by decide +kernel)
theorem wv_4_34 : decode ae_Mc4.2.2.1 34 = .ok (.aload_n 0, 1) := zd_by (by decide +kernel)
theorem wv_4_35 : decode ae_Mc4.2.2.1 35 = .ok (.getfield 19, 3) := zd_by (by decide +kernel)
theorem wv_4_38 : decode ae_Mc4.2.2.1 38 = .ok (.iload_n 1, 1) := zd_by (by decide +kernel)
theorem wv_4_39 : decode ae_Mc4.2.2.1 39 = .ok (.iload_n 2, 1) := zd_by (by decide +kernel)
theorem wv_4_40 : decode ae_Mc4.2.2.1 40 = .ok (.invokevirtual 129, 3) := zd_by (by decide +kernel)
theorem wv_4_43 : decode ae_Mc4.2.2.1 43 = .ok (.iload_n 3, 1) := zd_by (by decide +kernel)
theorem wv_4_44 : decode ae_Mc4.2.2.1 44 = .ok (.iadd, 1) := zd_by (by decide +kernel)
theorem wv_4_45 : decode ae_Mc4.2.2.1 45 = .ok (.iconst 1, 1) := zd_by (by decide +kernel)
theorem wv_4_46 : decode ae_Mc4.2.2.1 46 = .ok (.isub, 1) := zd_by (by decide +kernel)
theorem wv_4_47 : decode ae_Mc4.2.2.1 47 = .ok (.baload, 1) := zd_by (by decide +kernel)
theorem wv_4_48 : decode ae_Mc4.2.2.1 48 = .ok (.ireturn, 1) := zd_by (by decide +kernel)
def ae_Mc10 : ae_M := (11, yX11_bar, cX11_bar, 3, some .int, 1, 2, 8, 200, 1, 6)
theorem wv_10_0 : decode ae_Mc10.2.2.1 0 = .ok (.aload_n 0, 1) := zd_by (by decide +kernel)
theorem wv_10_1 : decode ae_Mc10.2.2.1 1 = .ok (.getfield 26, 3) := zd_by (by decide +kernel)
theorem wv_10_4 : decode ae_Mc10.2.2.1 4 = .ok (.getfield 172, 3) := zd_by (by decide +kernel)
theorem wv_10_7 : decode ae_Mc10.2.2.1 7 = .ok (.iload_n 1, 1) := zd_by (by decide +kernel)
theorem wv_10_8 : decode ae_Mc10.2.2.1 8 = .ok (.iload_n 2, 1) := zd_by (by decide +kernel)
theorem wv_10_9 : decode ae_Mc10.2.2.1 9 = .ok (.invokevirtual 175, 3) := zd_by (by decide +kernel)
theorem wv_10_12 : decode ae_Mc10.2.2.1 12 = .ok (.ifCond .ne 11, 3) := zd_by (by decide +kernel)
theorem wv_10_15 : decode ae_Mc10.2.2.1 15 = .ok (.new 122, 3) := zd_by (by decide +kernel)
theorem wv_10_18 : decode ae_Mc10.2.2.1 18 = .ok (.dup, 1) := zd_by (by decide +kernel)
theorem wv_10_19 : decode ae_Mc10.2.2.1 19 = .ok (.invokespecial 124, 3) := zd_by (by decide +kernel)
theorem wv_10_22 : decode ae_Mc10.2.2.1 22 = .ok (.athrow, 1) := zd_by (by decide +kernel)
theorem wv_10_23 : decode ae_Mc10.2.2.1 23 = .ok (.aload_n 0, 1) := zd_by (by decide +kernel)
theorem wv_10_24 : decode ae_Mc10.2.2.1 24 = .ok (.getfield 26, 3) := zd_by (by decide +kernel)
theorem wv_10_27 : decode ae_Mc10.2.2.1 27 = .ok (.getfield 172, 3) := zd_by (by decide +kernel)
theorem wv_10_30 : decode ae_Mc10.2.2.1 30 = .ok (.iload_n 1, 1) := zd_by (by decide +kernel)
theorem wv_10_31 : decode ae_Mc10.2.2.1 31 = .ok (.iload_n 2, 1) := zd_by (by decide +kernel)
theorem wv_10_32 : decode ae_Mc10.2.2.1 32 = .ok (.invokevirtual 178, 3) := zd_by (by decide +kernel)
theorem wv_10_35 : decode ae_Mc10.2.2.1 35 = .ok (.ireturn, 1) := zd_by (by decide +kernel)
def ae_Mc11 : ae_M := (11, yX11_wheel, cX11_wheel, 2, some .int, 1, 1, 8, 200, 1, 6)
theorem wv_11_0 : decode ae_Mc11.2.2.1 0 = .ok (.aload_n 0, 1) := zd_by (by decide +kernel)
theorem wv_11_1 : decode ae_Mc11.2.2.1 1 = .ok (.getfield 161, 3) := zd_by (by decide +kernel)
theorem wv_11_4 : decode ae_Mc11.2.2.1 4 = .ok (.ifCond .eq 13, 3) := zd_by (by decide +kernel)
theorem wv_11_7 : decode ae_Mc11.2.2.1 7 = .ok (.iload_n 1, 1) := zd_by (by decide +kernel)
theorem wv_11_8 : decode ae_Mc11.2.2.1 8 = .ok (.iconst 1, 1) := zd_by (by decide +kernel)
theorem wv_11_9 : decode ae_Mc11.2.2.1 9 = .ok (.if_icmp .lt 8, 3) := zd_by (by decide +kernel)
theorem wv_11_12 : decode ae_Mc11.2.2.1 12 = .ok (.iload_n 1, 1) := zd_by (by decide +kernel)
theorem wv_11_13 : decode ae_Mc11.2.2.1 13 = .ok (.iconst 4, 1) := zd_by (by decide +kernel)
theorem wv_11_14 : decode ae_Mc11.2.2.1 14 = .ok (.if_icmp .le 11, 3) := zd_by (by decide +kernel)
theorem wv_11_17 : decode ae_Mc11.2.2.1 17 = .ok (.new 122, 3) := zd_by (by decide +kernel)
theorem wv_11_20 : decode ae_Mc11.2.2.1 20 = .ok (.dup, 1) := zd_by (by decide +kernel)
theorem wv_11_21 : decode ae_Mc11.2.2.1 21 = .ok (.invokespecial 124, 3) := zd_by (by decide +kernel)
theorem wv_11_24 : decode ae_Mc11.2.2.1 24 = .ok (.athrow, 1) := zd_by (by decide +kernel)
theorem wv_11_25 : decode ae_Mc11.2.2.1 25 = .ok (.aload_n 0, 1) := zd_by (by decide +kernel)
theorem wv_11_26 : decode ae_Mc11.2.2.1 26 = .ok (.getfield 26, 3) := zd_by (by decide +kernel)
theorem wv_11_29 : decode ae_Mc11.2.2.1 29 = .ok (.getfield 181, 3) := zd_by (by decide +kernel)
theorem wv_11_32 : decode ae_Mc11.2.2.1 32 = .ok (.iload_n 1, 1) := zd_by (by decide +kernel)
theorem wv_11_33 : decode ae_Mc11.2.2.1 33 = .ok (.iconst 1, 1) := zd_by (by decide +kernel)
theorem wv_11_34 : decode ae_Mc11.2.2.1 34 = .ok (.isub, 1) := zd_by (by decide +kernel)
theorem wv_11_35 : decode ae_Mc11.2.2.1 35 = .ok (.iaload, 1) := zd_by (by decide +kernel)
theorem wv_11_36 : decode ae_Mc11.2.2.1 36 = .ok (.ireturn, 1) := zd_by (by decide +kernel)
def ae_Mc24 : ae_M := (11, yX11_wantedAt, cX11_wantedAt, 3, some .int, 1, 2, 8, 200, 1, 6)
theorem wv_24_0 : decode ae_Mc24.2.2.1 0 = .ok (.aload_n 0, 1) := zd_by (by decide +kernel)
theorem wv_24_1 : decode ae_Mc24.2.2.1 1 = .ok (.getfield 65, 3) := zd_by (by decide +kernel)
theorem wv_24_4 : decode ae_Mc24.2.2.1 4 = .ok (.iload_n 1, 1) := zd_by (by decide +kernel)
theorem wv_24_5 : decode ae_Mc24.2.2.1 5 = .ok (.iload_n 2, 1) := zd_by (by decide +kernel)
theorem wv_24_6 : decode ae_Mc24.2.2.1 6 = .ok (.invokevirtual 175, 3) := zd_by (by decide +kernel)
theorem wv_24_9 : decode ae_Mc24.2.2.1 9 = .ok (.ifCond .ne 11, 3) := zd_by (by decide +kernel)
theorem wv_24_12 : decode ae_Mc24.2.2.1 12 = .ok (.new 122, 3) := zd_by (by decide +kernel)
theorem wv_24_15 : decode ae_Mc24.2.2.1 15 = .ok (.dup, 1) := zd_by (by decide +kernel)
theorem wv_24_16 : decode ae_Mc24.2.2.1 16 = .ok (.invokespecial 124, 3) := zd_by (by decide +kernel)
theorem wv_24_19 : decode ae_Mc24.2.2.1 19 = .ok (.athrow, 1) := zd_by (by decide +kernel)
theorem wv_24_20 : decode ae_Mc24.2.2.1 20 = .ok (.aload_n 0, 1) := zd_by (by decide +kernel)
theorem wv_24_21 : decode ae_Mc24.2.2.1 21 = .ok (.getfield 65, 3) := zd_by (by decide +kernel)
theorem wv_24_24 : decode ae_Mc24.2.2.1 24 = .ok (.iload_n 1, 1) := zd_by (by decide +kernel)
theorem wv_24_25 : decode ae_Mc24.2.2.1 25 = .ok (.iload_n 2, 1) := zd_by (by decide +kernel)
theorem wv_24_26 : decode ae_Mc24.2.2.1 26 = .ok (.invokevirtual 178, 3) := zd_by (by decide +kernel)
theorem wv_24_29 : decode ae_Mc24.2.2.1 29 = .ok (.ireturn, 1) := zd_by (by decide +kernel)
theorem tw_4 {tq : Int} {h : ae_H} {n m : Int} (I : lw_I tq h n m) {x1 : Int} (h1 : sv_I x1) {x2 : Int} (h2 : sv_I x2) {x3 : Int} (h3 : sv_I x3) {G : Nat → ae_L → List ae_V → ae_H → Prop} (hG : wt_cl ae_Mc4 G) (gs : ∀ lv h2, lw_I tq h2 n m → G 19 lv [] h2) (gr : ∀ pc lv h2 x, decode ae_Mc4.2.2.1 pc = .ok (.ireturn, 1) → lw_I tq h2 n m → G pc lv [wk_i x] h2) : G 0 (ae_args [wk_r 0, wk_i x1, wk_i x2, wk_i x3] 0) [] h := by
  obtain ⟨kb, fb, tb⟩ := wk_ref (j := 1) I.1.1 wz_ty0 tT_11 rfl
  refine wt_aload_n hG wv_4_0 rfl ?_
  refine wt_getf hG wv_4_1 (by decide +kernel) I.1.1 wz_ty0 tT_11 fb ?_
  refine wt_iload_n hG wv_4_4 rfl ?_
  refine wt_iload_n hG wv_4_5 rfl ?_
  refine wt_call (Or.inr ⟨rfl, rfl⟩) hG wv_4_6 (by decide +kernel) wm_16 (by decide +kernel) rfl rfl (wk_rcv I.1.1 tb tT_1) ?_
  refine sv_G_mono (fun r hr => ?_) (lt_16 I.1.1 tb h1 h2)
  obtain ⟨r1, ha⟩ := r
  obtain ⟨T2, hr⟩ := hr
  have I2 : lw_I tq ha n m := lw_t I T2
  rcases hr with er | ⟨er, b1, b2, b3, b4⟩
  · have er : r1 = some (wk_i 0) := er
    subst er
    exact wt_if 19 hG wv_4_9 (by decide) (by unfold sv_I; omega) (fun _ => gs _ _ I2) (fun c => absurd rfl c)
  · have er : r1 = some (wk_i 1) := er
    subst er
    refine wt_if 19 hG wv_4_9 (by decide) (by unfold sv_I; omega) (fun c => absurd (show (1 : Int) = 0 from c) (by decide)) (fun _ => ?_)
    refine wt_iload_n hG wv_4_12 rfl ?_
    refine wt_call (Or.inl ⟨rfl, rfl⟩) hG wv_4_13 (by decide +kernel) wm_15 (by decide +kernel) rfl rfl rfl ?_
    refine sv_G_mono (fun r hr => ?_) (lt_15 I2.1.1 h3)
    obtain ⟨r1, hb⟩ := r
    obtain ⟨T3, hr⟩ := hr
    have I3 : lw_I tq hb n m := lw_t I2 T3
    rcases hr with er | ⟨er, b5, b6⟩
    · have er : r1 = some (wk_i 0) := er
      subst er
      exact wt_if 27 hG wv_4_16 (by decide) (by unfold sv_I; omega) (fun c => absurd rfl c) (fun _ => gs _ _ I3)
    · have er : r1 = some (wk_i 1) := er
      subst er
      refine wt_if 27 hG wv_4_16 (by decide) (by unfold sv_I; omega) (fun _ => ?_) (fun c => absurd (show (1 : Int) ≠ 0 by decide) c)
      obtain ⟨kb2, fb2, tb2⟩ := wk_ref (j := 1) I3.1.1 wz_ty0 tT_11 rfl
      obtain ⟨kc, fc, tc⟩ := wk_ref (j := 0) I3.1.1 tb2 tT_1 rfl
      refine wt_aload_n hG wv_4_27 rfl ?_
      refine wt_getf hG wv_4_28 (by decide +kernel) I3.1.1 wz_ty0 tT_11 fb2 ?_
      refine wt_getf hG wv_4_31 (by decide +kernel) I3.1.1 tb2 tT_1 fc ?_
      refine wt_aload_n hG wv_4_34 rfl ?_
      refine wt_getf hG wv_4_35 (by decide +kernel) I3.1.1 wz_ty0 tT_11 fb2 ?_
      refine wt_iload_n hG wv_4_38 rfl ?_
      refine wt_iload_n hG wv_4_39 rfl ?_
      refine wt_call (Or.inr ⟨rfl, rfl⟩) hG wv_4_40 (by decide +kernel) wm_18 (by decide +kernel) rfl rfl (wk_rcv I3.1.1 tb2 tT_1) ?_
      refine sv_G_mono (fun r hr => ?_) (lt_18 I3.1.1 tb2 h1 ⟨b1, b2⟩ h2 ⟨b3, b4⟩)
      obtain ⟨r1, hc⟩ := r
      obtain ⟨T4, y, er, hy, b7, b8⟩ := hr
      have I4 : lw_I tq hc n m := lw_t I3 T4
      have er : r1 = some (wk_i y) := er
      subst er
      refine wt_iload_n hG wv_4_43 rfl ?_
      refine wt_iadd hG wv_4_44 ?_
      refine wt_iconst hG wv_4_45 (by decide) ?_
      refine wt_isub hG wv_4_46 ?_
      refine wt_bald hG wv_4_47 I4.1.1 tc tT_14 (Or.inl rfl) (by decide) ⟨by omega, by show y + x3 - 1 < 6400; omega⟩ (fun _ _ => ?_)
      exact gr _ _ _ _ wv_4_48 I4
theorem tw_10 {tq : Int} {h : ae_H} {n m : Int} (I : lw_I tq h n m) {x1 : Int} (h1 : sv_I x1) {x2 : Int} (h2 : sv_I x2) {G : Nat → ae_L → List ae_V → ae_H → Prop} (hG : wt_cl ae_Mc10 G) (gs : ∀ lv h2, lw_I tq h2 n m → G 15 lv [] h2) (gr : ∀ pc lv h2 x, decode ae_Mc10.2.2.1 pc = .ok (.ireturn, 1) → lw_I tq h2 n m → G pc lv [wk_i x] h2) : G 0 (ae_args [wk_r 0, wk_i x1, wk_i x2] 0) [] h := by
  obtain ⟨kl, fl, tl⟩ := wk_ref (j := 2) I.1.1 wz_ty0 tT_11 rfl
  obtain ⟨kb, fb, tb⟩ := wk_ref (j := 0) I.1.1 tl tT_5 rfl
  refine wt_aload_n hG wv_10_0 rfl ?_
  refine wt_getf hG wv_10_1 (by decide +kernel) I.1.1 wz_ty0 tT_11 fl ?_
  refine wt_getf hG wv_10_4 (by decide +kernel) I.1.1 tl tT_5 fb ?_
  refine wt_iload_n hG wv_10_7 rfl ?_
  refine wt_iload_n hG wv_10_8 rfl ?_
  refine wt_call (Or.inr ⟨rfl, rfl⟩) hG wv_10_9 (by decide +kernel) wm_95 (by decide +kernel) rfl rfl (wk_rcv I.1.1 tb tT_7) ?_
  refine sv_G_mono (fun r hr => ?_) (lt_95 I.1.1 tb h1 h2)
  obtain ⟨r1, ha⟩ := r
  obtain ⟨T2, hr⟩ := hr
  have I2 : lw_I tq ha n m := lw_t I T2
  rcases hr with er | ⟨er, b1, b2, b3, b4⟩
  · have er : r1 = some (wk_i 0) := er
    subst er
    exact wt_if 23 hG wv_10_12 (by decide) (by unfold sv_I; omega) (fun c => absurd rfl c) (fun _ => gs _ _ I2)
  · have er : r1 = some (wk_i 1) := er
    subst er
    refine wt_if 23 hG wv_10_12 (by decide) (by unfold sv_I; omega) (fun _ => ?_) (fun c => absurd (show (1 : Int) ≠ 0 by decide) c)
    obtain ⟨kl2, fl2, tl2⟩ := wk_ref (j := 2) I2.1.1 wz_ty0 tT_11 rfl
    obtain ⟨kb2, fb2, tb2⟩ := wk_ref (j := 0) I2.1.1 tl2 tT_5 rfl
    refine wt_aload_n hG wv_10_23 rfl ?_
    refine wt_getf hG wv_10_24 (by decide +kernel) I2.1.1 wz_ty0 tT_11 fl2 ?_
    refine wt_getf hG wv_10_27 (by decide +kernel) I2.1.1 tl2 tT_5 fb2 ?_
    refine wt_iload_n hG wv_10_30 rfl ?_
    refine wt_iload_n hG wv_10_31 rfl ?_
    refine wt_call (Or.inr ⟨rfl, rfl⟩) hG wv_10_32 (by decide +kernel) wm_96 (by decide +kernel) rfl rfl (wk_rcv I2.1.1 tb2 tT_7) ?_
    refine sv_G_mono (fun r hr => ?_) (lt_96 I2.1.1 tb2 h1 ⟨b1, b2⟩ h2 ⟨b3, b4⟩)
    obtain ⟨r1, hb⟩ := r
    obtain ⟨T3, y, er, hy, b7, b8⟩ := hr
    have er : r1 = some (wk_i y) := er
    subst er
    exact gr _ _ _ _ wv_10_35 (lw_t I2 T3)
theorem tw_24 {tq : Int} {h : ae_H} {n m : Int} (I : lw_I tq h n m) {x1 : Int} (h1 : sv_I x1) {x2 : Int} (h2 : sv_I x2) {G : Nat → ae_L → List ae_V → ae_H → Prop} (hG : wt_cl ae_Mc24 G) (gs : ∀ lv h2, lw_I tq h2 n m → G 12 lv [] h2) (gr : ∀ pc lv h2 x, decode ae_Mc24.2.2.1 pc = .ok (.ireturn, 1) → lw_I tq h2 n m → G pc lv [wk_i x] h2) : G 0 (ae_args [wk_r 0, wk_i x1, wk_i x2] 0) [] h := by
  obtain ⟨kb, fb, tb⟩ := wk_ref (j := 7) I.1.1 wz_ty0 tT_11 rfl
  refine wt_aload_n hG wv_24_0 rfl ?_
  refine wt_getf hG wv_24_1 (by decide +kernel) I.1.1 wz_ty0 tT_11 fb ?_
  refine wt_iload_n hG wv_24_4 rfl ?_
  refine wt_iload_n hG wv_24_5 rfl ?_
  refine wt_call (Or.inr ⟨rfl, rfl⟩) hG wv_24_6 (by decide +kernel) wm_95 (by decide +kernel) rfl rfl (wk_rcv I.1.1 tb tT_7) ?_
  refine sv_G_mono (fun r hr => ?_) (lt_95 I.1.1 tb h1 h2)
  obtain ⟨r1, ha⟩ := r
  obtain ⟨T2, hr⟩ := hr
  have I2 : lw_I tq ha n m := lw_t I T2
  rcases hr with er | ⟨er, b1, b2, b3, b4⟩
  · have er : r1 = some (wk_i 0) := er
    subst er
    exact wt_if 20 hG wv_24_9 (by decide) (by unfold sv_I; omega) (fun c => absurd rfl c) (fun _ => gs _ _ I2)
  · have er : r1 = some (wk_i 1) := er
    subst er
    refine wt_if 20 hG wv_24_9 (by decide) (by unfold sv_I; omega) (fun _ => ?_) (fun c => absurd (show (1 : Int) ≠ 0 by decide) c)
    obtain ⟨kb2, fb2, tb2⟩ := wk_ref (j := 7) I2.1.1 wz_ty0 tT_11 rfl
    refine wt_aload_n hG wv_24_20 rfl ?_
    refine wt_getf hG wv_24_21 (by decide +kernel) I2.1.1 wz_ty0 tT_11 fb2 ?_
    refine wt_iload_n hG wv_24_24 rfl ?_
    refine wt_iload_n hG wv_24_25 rfl ?_
    refine wt_call (Or.inr ⟨rfl, rfl⟩) hG wv_24_26 (by decide +kernel) wm_96 (by decide +kernel) rfl rfl (wk_rcv I2.1.1 tb2 tT_7) ?_
    refine sv_G_mono (fun r hr => ?_) (lt_96 I2.1.1 tb2 h1 ⟨b1, b2⟩ h2 ⟨b3, b4⟩)
    obtain ⟨r1, hb⟩ := r
    obtain ⟨T3, y, er, hy, b7, b8⟩ := hr
    have er : r1 = some (wk_i y) := er
    subst er
    exact gr _ _ _ _ wv_24_29 (lw_t I2 T3)
theorem tw_11 {tq : Int} {h : ae_H} {n m : Int} (I : lw_I tq h n m) {x1 : Int} (h1 : sv_I x1) {G : Nat → ae_L → List ae_V → ae_H → Prop} (hG : wt_cl ae_Mc11 G) (gs : ∀ lv h2, lw_I tq h2 n m → G 17 lv [] h2) (gr : ∀ pc lv h2 x, decode ae_Mc11.2.2.1 pc = .ok (.ireturn, 1) → lw_I tq h2 n m → G pc lv [wk_i x] h2) : G 0 (ae_args [wk_r 0, wk_i x1] 0) [] h := by
  obtain ⟨z, fz, hz, z0, z1⟩ := wk_int (j := 12) I.1.1 wz_ty0 tT_11 rfl
  refine wt_aload_n hG wv_11_0 rfl ?_
  refine wt_getf hG wv_11_1 (by decide +kernel) I.1.1 wz_ty0 tT_11 fz ?_
  refine wt_if 17 hG wv_11_4 (by decide) hz (fun _ => gs _ _ I) (fun _ => ?_)
  refine wt_iload_n hG wv_11_7 rfl ?_
  refine wt_iconst hG wv_11_8 (by decide) ?_
  refine wt_icmp 17 hG wv_11_9 (by decide) h1 (by unfold sv_I; omega) (fun _ => gs _ _ I) (fun c1 => ?_)
  have c1 : ¬ (x1 < 1) := c1
  refine wt_iload_n hG wv_11_12 rfl ?_
  refine wt_iconst hG wv_11_13 (by decide) ?_
  refine wt_icmp 25 hG wv_11_14 (by decide) h1 (by unfold sv_I; omega) (fun c2 => ?_) (fun _ => gs _ _ I)
  have c2 : x1 ≤ 4 := c2
  obtain ⟨kl, fl, tl⟩ := wk_ref (j := 2) I.1.1 wz_ty0 tT_11 rfl
  obtain ⟨kw, fw, tw⟩ := wk_ref (j := 1) I.1.1 tl tT_5 rfl
  refine wt_aload_n hG wv_11_25 rfl ?_
  refine wt_getf hG wv_11_26 (by decide +kernel) I.1.1 wz_ty0 tT_11 fl ?_
  refine wt_getf hG wv_11_29 (by decide +kernel) I.1.1 tl tT_5 fw ?_
  refine wt_iload_n hG wv_11_32 rfl ?_
  refine wt_iconst hG wv_11_33 (by decide) ?_
  refine wt_isub hG wv_11_34 ?_
  refine wt_iald hG wv_11_35 sv_ty_lt I.1.1 tw tT_23 (by decide) ⟨by omega, by show x1 - 1 < 4; omega⟩ (fun _ _ => ?_)
  exact gr _ _ _ _ wv_11_36 I
