/-! THE CONTRACTS OF THE WALKS BY HAND -/
theorem wa_hn {l : List (Nat × sv_V)} {v : sv_V} {r : Option ae_V} (e : ae_lk l 1000 = some v) : ae_lk l 1000 = none → r = none := fun z => by rw [e] at z; cases z
theorem wa_wf2 {n s1 s2 : Nat} {c k1 k2 : Int} (h1 : s1 < n) (h2 : s2 < n) : sv_wf n (c, [(s1, k1), (s2, k2)]) := fun q hq => by
  rcases List.mem_cons.mp hq with e | e
  · subst e; exact h1
  · cases List.mem_singleton.mp e; exact h2
/-- Tape.isCard -/
theorem svC_0_h : sv_ctk sv_ty sv_tt sv_op svC_0 := by
  intro ρ lv h hk hP
  obtain ⟨k0, e0, l0, t0⟩ := wa_loc1 hP (i := 0) rfl
  have T : sv_Tk sv_ty sv_tt [] h h := ⟨hk, sv_fr.rf h⟩
  obtain ⟨kb, F2, tb⟩ := wk_ref (j := 0) hk t0 tT_9 rfl
  obtain ⟨len, F1, i1, i2, i3⟩ := wk_int (j := 1) hk t0 tT_9 rfl
  have b0 : (0 : Int) ≤ ρ 0 ∧ ρ 0 ≤ 255 := hP.1 0 _ rfl
  have kb256 := sv_ty_lt kb 13 tb
  obtain ⟨A, g1, -⟩ := sv_hk_a hk tb tT_13 rfl
  refine wx_isCard T t0 tb F1 F2 ⟨i2, i3⟩ l0 ?_ (fun e20 BA => ?_)
  · exact wa_post 0 [0, len, (kb : Int)] (by decide) ⟨b0, by show (0 : Int) ≤ 0 ∧ (0 : Int) ≤ 0; omega, by show (0 : Int) ≤ len ∧ len ≤ 740; omega, by show (0 : Int) ≤ (kb : Int) ∧ (kb : Int) ≤ 255; omega, trivial⟩ trivial (wa_ret (s := 1) (by decide) (by unfold sv_I; omega) rfl) ⟨wa_F1 (by decide) (by decide) e0 t0 rfl tb F2, wa_F0 (by decide) (by decide) e0 t0 F1 i1, trivial⟩ trivial trivial T (wa_hn rfl)
  · exact wa_post 1 [1, len, (kb : Int)] (by decide) ⟨b0, by show (1 : Int) ≤ 1 ∧ (1 : Int) ≤ 1; omega, by show (20 : Int) ≤ len ∧ len ≤ 20; omega, by show (0 : Int) ≤ (kb : Int) ∧ (kb : Int) ≤ 255; omega, trivial⟩ trivial (wa_ret (s := 1) (by decide) (by unfold sv_I; omega) rfl) ⟨wa_F1 (by decide) (by decide) e0 t0 rfl tb F2, wa_F0 (by decide) (by decide) e0 t0 F1 i1, trivial⟩ trivial ⟨⟨⟨by decide, by decide, sv_wf0 _ _, sv_wf0 _ _, sv_wf0 _ _, sv_wf0 _ _⟩, kb, kb, rfl, tb, rfl, tb, tb, ⟨_, g1⟩, BA⟩, trivial⟩ T (wa_hn rfl)
/-- Boxes.addTold -/
theorem svC_49_h : sv_ctk sv_ty sv_tt sv_op svC_49 := by
  intro ρ lv h hk hP
  obtain ⟨k0, e0, l0, t0⟩ := wa_loc1 hP (i := 0) rfl
  obtain ⟨l1, i1⟩ := wa_loc0 hP (i := 1) rfl
  obtain ⟨kt, e2, l2, t2⟩ := wa_loc1 hP (i := 2) rfl
  have b0 : (0 : Int) ≤ ρ 0 ∧ ρ 0 ≤ 255 := hP.1 0 _ rfl
  have b1 : (0 : Int) ≤ ρ 1 ∧ ρ 1 ≤ 7 := hP.1 1 _ rfl
  have b2 : (0 : Int) ≤ ρ 2 ∧ ρ 2 ≤ 255 := hP.1 2 _ rfl
  have b3 : (0 : Int) ≤ ρ 3 ∧ ρ 3 ≤ 255 := hP.1 3 _ rfl
  have b4 : (0 : Int) ≤ ρ 4 ∧ ρ 4 ≤ 39 := hP.1 4 _ rfl
  have b5 : (0 : Int) ≤ ρ 5 ∧ ρ 5 ≤ 255 := hP.1 5 _ rfl
  obtain ⟨ks, m1, ts, m2, m3⟩ := wa_mem hP (r := 3) (t := 16) (i := (0, [(1, 1)])) (v := (0, [(4, 1)])) (List.mem_cons_self ..)
  obtain ⟨-, kb, kb2, q1, tb, -, -, -, -, BA⟩ := hP.2.2.2.2.2 _ (List.mem_cons_self ..)
  rw [wa_ev1, wa_ev1] at m3
  exact wx_addTold (mods := [(14, 0), (16, 0)]) (by decide) (by decide) t0 t2 tb ts b1 ⟨hk, sv_fr.rf h⟩ l0 l1 l2 BA (by omega) (fun h2 T2 => wa_post 0 [] (by decide) ⟨b0, b1, b2, by show (0 : Int) ≤ ρ 3 ∧ ρ 3 ≤ 2147483647; omega, b4, by show (0 : Int) ≤ ρ 5 ∧ ρ 5 ≤ 2147483647; omega, trivial⟩ trivial wa_nil trivial trivial trivial T2 (fun _ => rfl))
/-- Boxes.digitOf -/
theorem svC_52_h : sv_ctk sv_ty sv_tt sv_op svC_52 := by
  intro ρ lv h hk hP
  obtain ⟨k0, e0, l0, t0⟩ := wa_loc1 hP (i := 0) rfl
  obtain ⟨l1, i1⟩ := wa_loc0 hP (i := 1) rfl
  obtain ⟨l2, i2⟩ := wa_loc0 hP (i := 2) rfl
  have b0 : (0 : Int) ≤ ρ 0 ∧ ρ 0 ≤ 255 := hP.1 0 _ rfl
  have b1 : (0 : Int) ≤ ρ 1 ∧ ρ 1 ≤ 6380 := hP.1 1 _ rfl
  have b2 : (1 : Int) ≤ ρ 2 ∧ ρ 2 ≤ 20 := hP.1 2 _ rfl
  obtain ⟨kc, F, tc⟩ := wk_ref (j := 0) hk t0 tT_1 rfl
  have T : sv_Tk sv_ty sv_tt [] h h := ⟨hk, sv_fr.rf h⟩
  obtain ⟨r1, r2, r3⟩ := wk_rng (i := ρ 1 + ρ 2 - 1) hk tc tT_14 ⟨by omega, by omega⟩
  obtain ⟨-, hd⟩ := wk_and15 ⟨r1, r2⟩ r3
  refine wx_digit T t0 tc F b1 b2 l0 l1 l2 ?_
  generalize sv_g (sv_u (wk_R h kc (ρ 1 + ρ 2 - 1)) &&& sv_u 15) = d at hd
  rcases hd with hd | hd
  · exact wa_post 0 [d] (by decide) ⟨b0, b1, b2, hd, trivial⟩ trivial (wa_ret (s := 3) (by decide) (by unfold sv_I; omega) rfl) trivial trivial trivial T (wa_hn rfl)
  · exact wa_post 1 [d] (by decide) ⟨b0, b1, b2, by show (15 : Int) ≤ d ∧ d ≤ 15; omega, trivial⟩ trivial (wa_ret (s := 3) (by decide) (by unfold sv_I; omega) rfl) trivial trivial trivial T (wa_hn rfl)
/-- Boxes.sortRow -/
theorem svC_53_h : sv_ctk sv_ty sv_tt sv_op svC_53 := by
  intro ρ lv h hk hP
  obtain ⟨k0, e0, l0, t0⟩ := wa_loc1 hP (i := 0) rfl
  obtain ⟨l1, i1⟩ := wa_loc0 hP (i := 1) rfl
  obtain ⟨l2, i2⟩ := wa_loc0 hP (i := 2) rfl
  have b0 : (0 : Int) ≤ ρ 0 ∧ ρ 0 ≤ 255 := hP.1 0 _ rfl
  have b1 : (0 : Int) ≤ ρ 1 ∧ ρ 1 ≤ 40 := hP.1 1 _ rfl
  have b2 : (1 : Int) ≤ ρ 2 ∧ ρ 2 ≤ 20 := hP.1 2 _ rfl
  exact wx_sortRow (mods := [(20, 0), (18, 0), (19, 0)]) (by decide) (by decide) (by decide) t0 ⟨hk, sv_fr.rf h⟩ b1 b2 l0 l1 l2 (fun h2 T2 => wa_post 0 [] (by decide) ⟨b0, b1, b2, trivial⟩ trivial wa_nil trivial trivial trivial T2 (fun _ => rfl))
/-- Ref.bits -/
theorem svC_163_h : sv_ctk sv_ty sv_tt sv_op svC_163 := by
  intro ρ lv h hk hP
  obtain ⟨c, l0, -, hc, -⟩ := hP.2.2.1 0 _ rfl
  have hc : c = wk_l (sv_ul (sv_ev ρ (0, [(0, 1)]))) := hc
  rw [wa_ev1] at hc
  rw [hc] at l0
  have b0 : (-9223372036854775808 : Int) ≤ ρ 0 ∧ ρ 0 ≤ 9223372036854775807 := hP.1 0 _ rfl
  have hl := wk_bl_le 64 (sv_ul (ρ 0))
  refine wb_bits l0 (sv_ul_lt _) ?_
  exact wa_post 0 [((wk_bl 64 (sv_ul (ρ 0)) : Nat) : Int)] (by decide) ⟨b0, by show (0 : Int) ≤ ((wk_bl 64 (sv_ul (ρ 0)) : Nat) : Int) ∧ ((wk_bl 64 (sv_ul (ρ 0)) : Nat) : Int) ≤ 64; omega, trivial⟩ trivial (wa_ret (s := 1) (by decide) (by unfold sv_I; omega) rfl) trivial trivial trivial ⟨hk, sv_fr.rf h⟩ (wa_hn rfl)
/-- Ref.nets -/
theorem svC_165_h : sv_ctk sv_ty sv_tt sv_op svC_165 := by
  intro ρ lv h hk hP
  obtain ⟨k0, e0, l0, t0⟩ := wa_loc1 hP (i := 0) rfl
  obtain ⟨kr, e1, l1, tr⟩ := wa_loc1 hP (i := 1) rfl
  obtain ⟨l2, i2⟩ := wa_loc0 hP (i := 2) rfl
  have b0 : (0 : Int) ≤ ρ 0 ∧ ρ 0 ≤ 255 := hP.1 0 _ rfl
  have b1 : (0 : Int) ≤ ρ 1 ∧ ρ 1 ≤ 255 := hP.1 1 _ rfl
  have b2 : (0 : Int) ≤ ρ 2 ∧ ρ 2 ≤ 1 := hP.1 2 _ rfl
  exact wn_nets (mods := [(69, 0)]) (by decide) ⟨hk, sv_fr.rf h⟩ t0 tr (by omega) l0 l1 l2 (fun h2 T2 => wa_post 0 [] (by decide) ⟨b0, b1, b2, trivial⟩ trivial wa_nil trivial trivial trivial T2 (fun _ => rfl))
/-- Ref.gather with u -/
theorem svC_166_h : sv_ctk sv_ty sv_tt sv_op svC_166 := by
  intro ρ lv h hk hP
  obtain ⟨k0, e0, l0, t0⟩ := wa_loc1 hP (i := 0) rfl
  obtain ⟨kr, e1, l1, tr⟩ := wa_loc1 hP (i := 1) rfl
  obtain ⟨l2, i2⟩ := wa_loc0 hP (i := 2) rfl
  have b0 : (0 : Int) ≤ ρ 0 ∧ ρ 0 ≤ 255 := hP.1 0 _ rfl
  have b1 : (0 : Int) ≤ ρ 1 ∧ ρ 1 ≤ 255 := hP.1 1 _ rfl
  have b2 : (1 : Int) ≤ ρ 2 ∧ ρ 2 ≤ 1 := hP.1 2 _ rfl
  rw [show ρ 2 = 1 by omega] at l2
  obtain ⟨kc, Fc, tc⟩ := wk_ref (j := 28) hk t0 tT_12 rfl
  obtain ⟨kg, Fg, tg⟩ := wk_ref (j := 24) hk t0 tT_12 rfl
  have kc256 := sv_ty_lt kc 71 tc
  refine wg_gather (mods := [(71, 0), (70, 0)]) (by decide) (by decide) t0 tr tc tg ⟨hk, sv_fr.rf h⟩ l0 l1 l2 (fun h2 T2 GA RA CA => ?_)
  obtain ⟨A1, g1, -⟩ := sv_hk_a T2.1 tr tT_69 rfl
  obtain ⟨A2, g2, -⟩ := sv_hk_a T2.1 tc tT_71 rfl
  obtain ⟨A3, g3, -⟩ := sv_hk_a T2.1 tg tT_68 rfl
  have Fc2 := (wk_fr_F hk T2.2 t0 tT_12 rfl (j := 28) (by decide)).trans Fc
  have eg : wk_R h2 kg = wk_R h kg := funext fun i => wk_fr_R hk T2.2 tg tT_68 rfl (by decide) i
  have er : wk_R h2 kr = wk_R h kr := funext fun i => wk_fr_R hk T2.2 tr tT_69 rfl (by decide) i
  exact wa_post 0 [(kc : Int)] (by decide) ⟨b0, b1, b2, by show (0 : Int) ≤ (kc : Int) ∧ (kc : Int) ≤ 255; omega, trivial⟩ trivial wa_nil ⟨wa_F1 (by decide) (by decide) e0 t0 rfl tc Fc2, trivial⟩ trivial ⟨⟨⟨by decide, by decide, sv_wf0 _ _, sv_wf0 _ _, sv_wf0 _ _, sv_wf0 _ _⟩, kr, kc, e1, tr, rfl, tc, tr, tc, ⟨_, g1⟩, ⟨_, g2⟩, kg, tg, ⟨_, g3⟩, fun l a b => by rw [eg, er]; exact CA l a b⟩, trivial⟩ T2 (fun _ => rfl)
/-! the JOB's facts -/
theorem wa_q0 {ρ : Nat → Int} {n r t r2 t2 tag len mask : Nat} {lo hi : Int} {e l u : sv_L} {h : ae_H} (hh : sv_hk sv_ty sv_tt h) (hT : sv_tt[t]? = some (1, tag, len, lo, hi, mask, [])) (hq : sv_Qk sv_ty sv_op ρ n h (0, (r, t), (r2, t2), 1, (0, []), e, l, u)) : ∃ k : Nat, ρ r = k ∧ sv_ty k = some t ∧ ∀ j, 0 ≤ j → j < sv_ev ρ e → j < len → sv_ev ρ l ≤ wk_R h k j ∧ wk_R h k j ≤ sv_ev ρ u := by
  obtain ⟨-, k, k2, h1, h2, h3, h4, h5⟩ := hq
  obtain ⟨A, g1, -⟩ := sv_hk_a hh h2 hT rfl
  refine ⟨k, h1, h2, fun j a b c => ?_⟩
  have h5 := h5 tag len A g1 j.toNat j.toNat (by rw [Int.toNat_of_nonneg a]; exact b) (by show ((j.toNat : Nat) : Int) = 1 * ((j.toNat : Nat) : Int) + (0 + 0); omega) (by omega)
  rw [wk_R_of g1]; exact h5
theorem wa_job {ρ : Nat → Int} {n s3 s4 s5 s6 s7 : Nat} {h : ae_H} (hk : sv_hk sv_ty sv_tt h)
    (m5 : ∃ k : Nat, ρ s4 = k ∧ sv_ty k = some 92 ∧ 0 ≤ sv_ev ρ (0, []) ∧ sv_ev ρ (0, [(s5, 1)]) = wk_R h k (sv_ev ρ (0, [])))
    (q0 : sv_Qk sv_ty sv_op ρ n h (0, (s6, 89), (s6, 89), 1, (0, []), (0, [(s3, 1)]), (1, []), (20, []))) (q1 : sv_Qk sv_ty sv_op ρ n h (0, (s7, 93), (s7, 93), 1, (0, []), (0, [(s5, 1)]), (-1, []), (-1, [(s3, 1)]))) (b5 : 0 ≤ ρ s5 ∧ ρ s5 ≤ 8) :
    (wm_J h 1 0 = ρ s5 ∧ 0 ≤ ρ s5 ∧ ρ s5 ≤ 8) ∧ ∀ k, 0 ≤ k → k < ρ s5 → 0 ≤ wm_J h 2 k → wm_J h 7 (wm_J h 2 k) ≤ 20 ∧ 1 ≤ wm_J h 6 (wm_J h 2 k) := by
  obtain ⟨k92, -, t92, -, m5⟩ := m5
  rw [wa_ev1, sv_ev0] at m5
  obtain ⟨k89, -, t89, f0⟩ := wa_q0 hk tT_89 q0
  obtain ⟨k93, -, t93, f1⟩ := wa_q0 hk tT_93 q1
  have e92 := tU_92 t92 tA_92
  have e89 := tU_89 t89 tA_89
  have e93 := tU_93 t93 tA_93
  subst e92 e89 e93
  rw [wa_ev1, sv_ev0, sv_ev0] at f0
  rw [wa_ev1, sv_ev0, show sv_ev ρ (-1, [(s3, 1)]) = ρ s3 - 1 by show (-1 : Int) + (1 * ρ s3 + 0) = _; omega] at f1
  refine ⟨⟨by rw [wm_J_at (by omega)]; exact m5.symm, b5⟩, fun k a b c => ?_⟩
  have e2 : wm_J h 2 k = wk_R h (wm_a 2) k := wm_J_at a
  have r2 := wk_rng (i := k) hk tA_93 tT_93 ⟨a, by omega⟩
  have g1 := f1 k a b (by omega)
  have e2 : wm_J h 2 k = wk_R h 156 k := e2
  have e6 : wm_J h 6 (wm_J h 2 k) = wk_R h 152 (wm_J h 2 k) := wm_J_at c
  have e7 : wm_J h 7 (wm_J h 2 k) = wk_R h 153 (wm_J h 2 k) := wm_J_at c
  have r7 := wk_rng (i := wm_J h 2 k) hk tA_90 tT_90 ⟨c, by omega⟩
  have g0 := f0 (wm_J h 2 k) c (by omega) (by omega)
  omega
/-- Ref.make0, of a set that fits -/
theorem svC_196_h : sv_ctk sv_ty sv_tt sv_op svC_196 := by
  intro ρ lv h hk hP
  obtain ⟨k0, e0, l0, t0⟩ := wa_loc1 hP (i := 0) rfl
  obtain ⟨l1, i1⟩ := wa_loc0 hP (i := 1) rfl
  have b0 : (0 : Int) ≤ ρ 0 ∧ ρ 0 ≤ 255 := hP.1 0 _ rfl
  have b1 : (0 : Int) ≤ ρ 1 ∧ ρ 1 ≤ 255 := hP.1 1 _ rfl
  have b2 : (0 : Int) ≤ ρ 2 ∧ ρ 2 ≤ 255 := hP.1 2 _ rfl
  have b3 : (0 : Int) ≤ ρ 3 ∧ ρ 3 ≤ 6 := hP.1 3 _ rfl
  have b4 : (0 : Int) ≤ ρ 4 ∧ ρ 4 ≤ 255 := hP.1 4 _ rfl
  have b5 : (0 : Int) ≤ ρ 5 ∧ ρ 5 ≤ 8 := hP.1 5 _ rfl
  have b6 : (0 : Int) ≤ ρ 6 ∧ ρ 6 ≤ 255 := hP.1 6 _ rfl
  have b7 : (0 : Int) ≤ ρ 7 ∧ ρ 7 ≤ 255 := hP.1 7 _ rfl
  obtain ⟨hc, h6⟩ := wa_job hk (wa_mem hP (r := 4) (t := 92) (i := (0, [])) (v := (0, [(5, 1)])) (List.mem_cons_of_mem _ (List.mem_cons_self ..))) (hP.2.2.2.2.2 _ (List.mem_cons_self ..)) (hP.2.2.2.2.2 _ (List.mem_cons_of_mem _ (List.mem_cons_self ..))) b5
  obtain ⟨-, q1, q2, -, -, -, -, hq⟩ := hP.2.2.2.2.2 _ (List.mem_cons_of_mem _ (List.mem_cons_of_mem _ (List.mem_cons_self ..)))
  have hq : (∀ i, ∃ c, ae_hg h (wm_a i) = some (.inl c)) ∧ wm_fit (wm_J h) (sv_ev ρ (0, [(1, 1)])) := hq
  rw [wa_ev1] at hq
  refine wm_make0 (mods := [(12, 79), (12, 80), (12, 81), (98, 0), (99, 0), (100, 0)]) (by decide) (by decide) (by decide) (by decide) (by decide) (by decide) t0 b1 hc h6 ⟨hk, sv_fr.rf h⟩ rfl l0 l1 (fun h2 x n T2 j2 F2 n2 x1 x2 x3 => ?_)
  have n3 := x3 hq.2
  exact wa_post 0 [x, n] (by decide) ⟨b0, b1, by show (0 : Int) ≤ ρ 2 ∧ ρ 2 ≤ 2147483647; omega, b3, by show (0 : Int) ≤ ρ 4 ∧ ρ 4 ≤ 2147483647; omega, b5, by show (0 : Int) ≤ ρ 6 ∧ ρ 6 ≤ 2147483647; omega, by show (0 : Int) ≤ ρ 7 ∧ ρ 7 ≤ 2147483647; omega, by show (0 : Int) ≤ x ∧ x ≤ 1; omega, by show (0 : Int) ≤ n ∧ n ≤ 60; omega, trivial⟩ trivial (wa_ret (s := 8) (by decide) (by unfold sv_I; omega) rfl) ⟨wa_F0 (by decide) (by decide) e0 t0 F2 (by show sv_I n; unfold sv_I; omega), trivial⟩ trivial trivial T2 (wa_hn rfl)
/-- Ref.plan -/
theorem svC_197_h : sv_ctk sv_ty sv_tt sv_op svC_197 := by
  intro ρ lv h hk hP
  obtain ⟨k0, e0, l0, t0⟩ := wa_loc1 hP (i := 0) rfl
  have b0 : (0 : Int) ≤ ρ 0 ∧ ρ 0 ≤ 255 := hP.1 0 _ rfl
  have b1 : (0 : Int) ≤ ρ 1 ∧ ρ 1 ≤ 255 := hP.1 1 _ rfl
  have b2 : (0 : Int) ≤ ρ 2 ∧ ρ 2 ≤ 6 := hP.1 2 _ rfl
  have b3 : (0 : Int) ≤ ρ 3 ∧ ρ 3 ≤ 255 := hP.1 3 _ rfl
  have b4 : (0 : Int) ≤ ρ 4 ∧ ρ 4 ≤ 8 := hP.1 4 _ rfl
  have b5 : (0 : Int) ≤ ρ 5 ∧ ρ 5 ≤ 255 := hP.1 5 _ rfl
  have b6 : (0 : Int) ≤ ρ 6 ∧ ρ 6 ≤ 255 := hP.1 6 _ rfl
  obtain ⟨hc, h6⟩ := wa_job hk (wa_mem hP (r := 3) (t := 92) (i := (0, [])) (v := (0, [(4, 1)])) (List.mem_cons_of_mem _ (List.mem_cons_self ..))) (hP.2.2.2.2.2 _ (List.mem_cons_self ..)) (hP.2.2.2.2.2 _ (List.mem_cons_of_mem _ (List.mem_cons_self ..))) b4
  have pw := wm_pw b4
  refine wm_plan (mods := [(12, 79), (12, 80), (12, 81), (102, 0), (103, 0), (98, 0), (101, 0), (99, 0), (100, 0)]) (al := ((2 ^ (ρ 4).toNat : Nat) : Int) - 1) (by decide) (by decide) (by decide) (by decide) t0 hc h6 ⟨rfl, by omega, by omega⟩ ⟨hk, sv_fr.rf h⟩ rfl l0 (fun h2 x T2 j2 P2 hx => ?_)
  exact wa_post 0 [x] (by decide) ⟨b0, by show (0 : Int) ≤ ρ 1 ∧ ρ 1 ≤ 2147483647; omega, b2, by show (0 : Int) ≤ ρ 3 ∧ ρ 3 ≤ 2147483647; omega, b4, by show (0 : Int) ≤ ρ 5 ∧ ρ 5 ≤ 2147483647; omega, by show (0 : Int) ≤ ρ 6 ∧ ρ 6 ≤ 2147483647; omega, by show (-1 : Int) ≤ x ∧ x ≤ 99; omega, trivial⟩ trivial (wa_ret (s := 7) (by decide) (by unfold sv_I; omega) rfl) trivial trivial trivial T2 (wa_hn rfl)
theorem wa_cell {u : Nat} {Tt : sv_T} {h : ae_H} {k : Nat} (hm : (u, 0) ∈ sv_od 3) (e1 : sv_tt[u]? = some Tt) (e2 : sv_ok sv_ty h k Tt) : ∃ c, ae_hg h k = some (.inl c) := by
  have key : ∀ q ∈ sv_od 3, (sv_tt[q.1]?).map (fun T => T.1) = some 1 := by decide +kernel
  have h1 := key _ hm
  rw [show sv_tt[((u, 0) : Nat × Nat).1]? = some Tt from e1] at h1
  have h1 : Tt.1 = 1 := Option.some.inj h1
  unfold sv_ok at e2
  rw [h1] at e2
  obtain ⟨A, g, -⟩ := e2
  exact ⟨_, g⟩
/-- Ref.part -/
theorem svC_199_h : sv_ctk sv_ty sv_tt sv_op svC_199 := by
  intro ρ lv h hk hP
  obtain ⟨k0, e0, l0, t0⟩ := wa_loc1 hP (i := 0) rfl
  obtain ⟨l1, i1⟩ := wa_loc0 hP (i := 1) rfl
  have b0 : (0 : Int) ≤ ρ 0 ∧ ρ 0 ≤ 255 := hP.1 0 _ rfl
  have b1 : (-2147483648 : Int) ≤ ρ 1 ∧ ρ 1 ≤ 2147483647 := hP.1 1 _ rfl
  have b2 : (0 : Int) ≤ ρ 2 ∧ ρ 2 ≤ 255 := hP.1 2 _ rfl
  have b3 : (0 : Int) ≤ ρ 3 ∧ ρ 3 ≤ 6 := hP.1 3 _ rfl
  have b4 : (0 : Int) ≤ ρ 4 ∧ ρ 4 ≤ 255 := hP.1 4 _ rfl
  have b5 : (0 : Int) ≤ ρ 5 ∧ ρ 5 ≤ 8 := hP.1 5 _ rfl
  have b6 : (0 : Int) ≤ ρ 6 ∧ ρ 6 ≤ 255 := hP.1 6 _ rfl
  have b7 : (0 : Int) ≤ ρ 7 ∧ ρ 7 ≤ 255 := hP.1 7 _ rfl
  obtain ⟨hc, h6⟩ := wa_job hk (wa_mem hP (r := 4) (t := 92) (i := (0, [])) (v := (0, [(5, 1)])) (List.mem_cons_of_mem _ (List.mem_cons_self ..))) (hP.2.2.2.2.2 _ (List.mem_cons_self ..)) (hP.2.2.2.2.2 _ (List.mem_cons_of_mem _ (List.mem_cons_self ..))) b5
  have pw := wm_pw b5
  refine wm_part (mods := [(12, 79), (12, 80), (12, 81), (102, 0), (103, 0), (98, 0), (101, 0), (99, 0), (100, 0)]) (al := ((2 ^ (ρ 5).toNat : Nat) : Int) - 1) (by decide) (by decide) (by decide) (by decide) t0 hc h6 ⟨rfl, by omega, by omega⟩ i1 ⟨hk, sv_fr.rf h⟩ rfl l0 l1 (fun h2 x T2 j2 hx => ?_)
  have cells : ∀ i, ∃ c, ae_hg h2 (wm_a i) = some (.inl c) := fun i => by
    obtain ⟨u, hu, hm⟩ := wm_a_t i
    obtain ⟨Tt, e1, e2⟩ := T2.1 _ u hu
    exact wa_cell hm e1 e2
  rcases hx with hx | hx
  · exact wa_post 0 [x] (by decide) ⟨b0, b1, by show (0 : Int) ≤ ρ 2 ∧ ρ 2 ≤ 2147483647; omega, b3, by show (0 : Int) ≤ ρ 4 ∧ ρ 4 ≤ 2147483647; omega, b5, by show (0 : Int) ≤ ρ 6 ∧ ρ 6 ≤ 2147483647; omega, by show (0 : Int) ≤ ρ 7 ∧ ρ 7 ≤ 2147483647; omega, by show (-1 : Int) ≤ x ∧ x ≤ -1; omega, trivial⟩ trivial (wa_ret (s := 8) (by decide) (by unfold sv_I; omega) rfl) trivial trivial trivial T2 (wa_hn rfl)
  · exact wa_post 1 [x] (by decide) ⟨b0, b1, by show (0 : Int) ≤ ρ 2 ∧ ρ 2 ≤ 2147483647; omega, b3, by show (0 : Int) ≤ ρ 4 ∧ ρ 4 ≤ 2147483647; omega, b5, by show (0 : Int) ≤ ρ 6 ∧ ρ 6 ≤ 2147483647; omega, by show (0 : Int) ≤ ρ 7 ∧ ρ 7 ≤ 2147483647; omega, by show (0 : Int) ≤ x ∧ x ≤ 255; omega, trivial⟩ trivial (wa_ret (s := 8) (by decide) (by unfold sv_I; omega) rfl) trivial trivial ⟨⟨⟨by decide, by decide, fun q hq => by cases List.mem_singleton.mp hq; decide, sv_wf0 _ _, sv_wf0 _ _, sv_wf0 _ _⟩, k0, k0, e0, t0, e0, t0, cells, by show wm_fit (wm_J h2) (sv_ev _ (0, [(8, 1)])); rw [wa_ev1, j2]; exact hx.2.2⟩, trivial⟩ T2 (wa_hn rfl)
/-- Ref.dueLine -/
theorem svC_203_h : sv_ctk sv_ty sv_tt sv_op svC_203 := by
  intro ρ lv h hk hP
  obtain ⟨k0, e0, l0, t0⟩ := wa_loc1 hP (i := 0) rfl
  obtain ⟨l1, i1⟩ := wa_loc0 hP (i := 1) rfl
  obtain ⟨l2, i2⟩ := wa_loc0 hP (i := 2) rfl
  have b0 : (0 : Int) ≤ ρ 0 ∧ ρ 0 ≤ 255 := hP.1 0 _ rfl
  have b1 : (0 : Int) ≤ ρ 1 ∧ ρ 1 ≤ 255 := hP.1 1 _ rfl
  have b2 : (1 : Int) ≤ ρ 2 ∧ ρ 2 ≤ 3 := hP.1 2 _ rfl
  have b3 : (0 : Int) ≤ ρ 3 ∧ ρ 3 ≤ 999 := hP.1 3 _ rfl
  obtain ⟨k1, e1, t1, F1, i3⟩ := wa_fld0 hP (r := 0) (t := 12) (j := 85) (s := 3) (List.mem_cons_self ..)
  have ek : k1 = k0 := by omega
  subst ek
  obtain ⟨-, q1, q2, -, -, -, -, hq⟩ := hP.2.2.2.2.2 _ (List.mem_cons_self ..)
  have hq : (∀ i, ∃ c, ae_hg h (wm_a i) = some (.inl c)) ∧ wm_fit (wm_J h) (sv_ev ρ (0, [(1, 1)])) := hq
  rw [wa_ev1] at hq
  have rc := wk_rng (i := 0) hk tA_92 tT_92 ⟨by omega, by omega⟩
  have ec : wm_J h 1 0 = wk_R h 155 0 := wm_J_at (by omega)
  refine wd_dueLine (mods := [(12, 85), (104, 0), (105, 0)]) (c := wm_J h 1 0) (da := ρ 3) (by decide) (by decide) (by decide) t0 ⟨rfl, by omega, by omega⟩ b1 ⟨by omega, by omega⟩ b3 hq.2.1 ⟨hk, sv_fr.rf h⟩ rfl F1 l0 l1 l2 (fun h2 x T2 F2 hx => ?_)
  exact wa_post 0 [x] (by decide) ⟨b0, b1, b2, b3, by show (0 : Int) ≤ x ∧ x ≤ 1000; omega, trivial⟩ ⟨⟨by show (0 : Int) ≤ 1 + (1 * ρ 3 + (-1 * x + 0)); omega, wa_wf2 (by decide) (by decide)⟩, trivial⟩ wa_nil ⟨wa_F0 (by decide) (by decide) e0 t0 F2 (by show sv_I x; unfold sv_I; omega), trivial⟩ trivial trivial T2 (fun _ => rfl)
