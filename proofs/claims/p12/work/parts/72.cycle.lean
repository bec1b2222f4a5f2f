/-! A JAM (wip/p2/hand/g72.py) -/
theorem wj_jam {mods : List (Nat × Nat)} {h0 h : ae_H} {Q : ae_R → Prop} {lv : ae_L} {k0 kg r : Nat} {a e : Int} (m3 : (79, 0) ∈ mods) (t0 : sv_ty k0 = some 12) (tg : sv_ty kg = some 68) (tr : sv_ty r = some 69) (ha : 0 ≤ a ∧ a < 96) (he : a < e ∧ e < 96) (T : sv_Tk sv_ty sv_tt mods h0 h) (l0 : ae_lk lv 0 = some (wk_r k0)) (l1 : ae_lk lv 1 = some (wk_i a)) (F1 : wk_F h k0 24 = some (wk_r kg)) (F2 : wk_F h k0 26 = some (wk_r r)) (E1 : 0 ≤ wk_R h kg e) (E2 : wk_R h r e = wk_R h r a)
    (g : ∀ h2, sv_Tk sv_ty sv_tt mods h0 h2 → Q (some (wk_i 2), h2)) : sv_G Q 220 0 lv [] h := by
  obtain ⟨k1, f2, y3⟩ := wk_ref (j := 39) T.1 t0 tT_12 rfl
  refine wk_aload_n wm_220 wd_220_0 l0 ?_
  refine wk_getf wm_220 wd_220_1 (by decide +kernel) T.1 t0 tT_12 f2 ?_
  refine wk_iconst wm_220 wd_220_4 (by decide) ?_
  refine wk_iload_n wm_220 wd_220_5 l1 ?_
  refine wk_iast wm_220 wd_220_6 sv_ty_lt T m3 y3 tT_79 (by decide) ⟨by omega, by omega⟩ ⟨by omega, by omega⟩ (by unfold sv_I; omega) (Or.inl rfl) (fun h4 T5 u6 g7 => ?_)
  have f8 := (u6.2 _ _).trans F1
  have f9 := (u6.2 _ _).trans F2
  have f10 := (u6.2 _ _).trans f2
  refine wk_iload_n wm_220 wd_220_7 l1 ?_
  refine wk_iconst wm_220 wd_220_8 (by decide) ?_
  refine wk_iadd wm_220 wd_220_9 ?_
  refine wk_istore_n wm_220 wd_220_10 (by decide +kernel) (fun lv11 s12 => ?_)
  have l13 := s12.2 0 _ l0 (by decide) (Or.inl rfl)
  have l14 := s12.2 1 _ l1 (by decide) (Or.inl rfl)
  have l15 := s12.1
  exact wj_11 m3 t0 tg tr ha he (fun _ h2 T2 _ => g h2 T2) 96 lv11 h4 (a + 1) T5 l13 l14 l15 f8 f9 (by rw [wk_up_o u6 (wk_ne tg y3 (by decide)) (by omega)]; exact E1) (by rw [wk_up_o u6 (wk_ne tr y3 (by decide)) (by omega), wk_up_o u6 (wk_ne tr y3 (by decide)) (by omega)]; exact E2) (by omega) (by omega)
theorem wk_cnt_zero {G R : Int → Int} {l : Int} : ∀ {n : Nat}, (∀ j : Int, 0 ≤ j → j < n → ¬ (0 ≤ G j ∧ R j = l)) → wk_cnt G R l n = 0
  | 0, _ => rfl
  | n + 1, hn => by
    show wk_cnt G R l n + (if 0 ≤ G n ∧ R n = l then 1 else 0) = 0
    rw [wk_cnt_zero (n := n) (fun j a b => hn j a (by omega)), if_neg (hn n (by omega) (by omega))]
theorem wc_188 {h : ae_H} {Q : ae_R → Prop} {lv0 : ae_L} {k0 kg kc r : Nat} (t0 : sv_ty k0 = some 12) (tg : sv_ty kg = some 68) (tc : sv_ty kc = some 71) (tr : sv_ty r = some 69) (hk : sv_hk sv_ty sv_tt h) (F1 : wk_F h k0 24 = some (wk_r kg)) (F2 : wk_F h k0 26 = some (wk_r r)) (F3 : wk_F h k0 28 = some (wk_r kc)) (CA : ∀ l, 0 ≤ l → l < 217 → wk_R h kc l = wk_cnt (wk_R h kg) (wk_R h r) l 96) (g1 : ∀ lv, (∀ j c, j < 3 → ae_lk lv0 j = some c → ae_cat c = 1 → ae_lk lv j = some c) → sv_G Q 219 230 lv [] h) (g2 : ∀ h2, sv_Tk sv_ty sv_tt [(79, 0)] h h2 → Q (some (wk_i 2), h2)) :
    ∀ (d : Nat) (lv : ae_L) (n : Int), (ae_lk lv 0 = some (wk_r k0)) → (ae_lk lv 3 = some (wk_i n)) → (∀ j c, j < 3 → ae_lk lv0 j = some c → ae_cat c = 1 → ae_lk lv j = some c) → (∀ j, 0 ≤ j → j < n → 0 ≤ wk_R h kg j → wk_R h kc (wk_R h r j) ≤ 1) → (0 ≤ n ∧ n ≤ 96) → (96 - n ≤ d) → sv_G Q 219 188 lv [] h := by
  have T : sv_Tk sv_ty sv_tt [(79, 0)] h h := ⟨hk, sv_fr.rf h⟩
  intro d
  induction d with
  | zero =>
    intro lv n l0 l3 LA NB hn hd
    refine wk_iload_n wm_219 wd_219_188 l3 ?_
    refine wk_bipush wm_219 wd_219_189 (by decide) ?_
    refine wk_icmp 230 wm_219 wd_219_191 (by decide) (by unfold sv_I; omega) (by unfold sv_I; omega) (fun c16 => ?_) (fun c16 => ?_)
    · have c16 : (n : Int) ≥ 96 := c16
      exact g1 lv LA
    · have c16 : ¬ ((n : Int) ≥ 96) := c16
      exfalso; omega
  | succ d ih =>
    intro lv n l0 l3 LA NB hn hd
    refine wk_iload_n wm_219 wd_219_188 l3 ?_
    refine wk_bipush wm_219 wd_219_189 (by decide) ?_
    refine wk_icmp 230 wm_219 wd_219_191 (by decide) (by unfold sv_I; omega) (by unfold sv_I; omega) (fun c17 => ?_) (fun c17 => ?_)
    · have c17 : (n : Int) ≥ 96 := c17
      exact g1 lv LA
    · have c17 : ¬ ((n : Int) ≥ 96) := c17
      refine wk_aload_n wm_219 wd_219_194 l0 ?_
      refine wk_getf wm_219 wd_219_195 (by decide +kernel) T.1 t0 tT_12 F1 ?_
      refine wk_iload_n wm_219 wd_219_198 l3 ?_
      refine wk_iald wm_219 wd_219_199 sv_ty_lt T.1 tg tT_68 (by decide) ⟨by omega, by omega⟩ (fun q18 q19 => ?_)
      refine wk_if 224 wm_219 wd_219_200 (by decide) (by unfold sv_I; omega) (fun c20 => ?_) (fun c20 => ?_)
      · have c20 : ((wk_R h kg n) : Int) < 0 := c20
        refine wk_iinc wm_219 wd_219_224 (by decide +kernel) (by decide) l3 (fun lv21 s22 => ?_)
        have l23 := s22.2 0 _ l0 (by decide) (Or.inl rfl)
        have l24 := s22.1
        refine wk_goto 188 wm_219 wd_219_227 (by decide) ?_
        exact ih lv21 (n + 1) l23 l24 (fun j c a b e => s22.2 j c (LA j c a b e) (by omega) (Or.inl e)) (fun j a b e => by
          by_cases z : j = n
          · subst z; omega
          · exact NB j a (by omega) e) (by omega) (by omega)
      · have c20 : ¬ (((wk_R h kg n) : Int) < 0) := c20
        refine wk_aload_n wm_219 wd_219_203 l0 ?_
        refine wk_getf wm_219 wd_219_204 (by decide +kernel) T.1 t0 tT_12 F3 ?_
        refine wk_aload_n wm_219 wd_219_207 l0 ?_
        refine wk_getf wm_219 wd_219_208 (by decide +kernel) T.1 t0 tT_12 F2 ?_
        refine wk_iload_n wm_219 wd_219_211 l3 ?_
        refine wk_iald wm_219 wd_219_212 sv_ty_lt T.1 tr tT_69 (by decide) ⟨by omega, by omega⟩ (fun q25 q26 => ?_)
        refine wk_iald wm_219 wd_219_213 sv_ty_lt T.1 tc tT_71 (by decide) ⟨by omega, by omega⟩ (fun q27 q28 => ?_)
        have cI := wk_R_I h kc (wk_R h r n)
        unfold sv_I at cI
        refine wk_iconst wm_219 wd_219_214 (by decide) ?_
        refine wk_icmp 224 wm_219 wd_219_215 (by decide) (by unfold sv_I; omega) (by unfold sv_I; omega) (fun c29 => ?_) (fun c29 => ?_)
        · have c29 : ((wk_R h kc (wk_R h r n)) : Int) ≤ 1 := c29
          refine wk_iinc wm_219 wd_219_224 (by decide +kernel) (by decide) l3 (fun lv30 s31 => ?_)
          have l32 := s31.2 0 _ l0 (by decide) (Or.inl rfl)
          have l33 := s31.1
          refine wk_goto 188 wm_219 wd_219_227 (by decide) ?_
          exact ih lv30 (n + 1) l32 l33 (fun j c a b e => s31.2 j c (LA j c a b e) (by omega) (Or.inl e)) (fun j a b e => by
            by_cases z : j = n
            · subst z; omega
            · exact NB j a (by omega) e) (by omega) (by omega)
        · have c29 : ¬ (((wk_R h kc (wk_R h r n)) : Int) ≤ 1) := c29
          refine wk_aload_n wm_219 wd_219_218 l0 ?_
          refine wk_iload_n wm_219 wd_219_219 l3 ?_
          refine wk_call (Or.inr ⟨rfl, rfl⟩) wm_219 wd_219_220 (by decide +kernel) wm_220 (by decide +kernel) rfl rfl (wk_rcv T.1 t0 tT_12) ?_
          have cl := CA (wk_R h r n) (by omega) (by omega)
          have c0 : wk_cnt (wk_R h kg) (wk_R h r) (wk_R h r n) n.toNat = 0 := wk_cnt_zero (fun j a b z => by
            have q := NB j a (by omega) z.1
            rw [z.2] at q; omega)
          obtain ⟨j, j1, j2, j3, j4⟩ := wk_cnt_two (m := n.toNat) (n := 96) c0 (by omega) (by omega)
          refine wj_jam (e := (j : Int)) (by decide) t0 tg tr ⟨by omega, by omega⟩ ⟨by omega, by omega⟩ T rfl rfl F1 F2 j3 j4 (fun h2 T2 => ?_)
          show sv_G Q 219 223 lv [wk_i 2] h2
          refine wk_ireturn wm_219 wd_219_223 rfl ?_
          exact g2 h2 T2
def wc_c : sv_cu := (188, (0, [(0, 255), (0, 1), (0, 255), (0, 40), (0, 40), (0, 1), (0, 1), (0, 0), (0, 255), (0, 40), (0, 40), (0, 60), (0, 255), (0, 255)], [(0, [(1, (-1)), (5, 1)]), (0, [(1, 1), (5, (-1))]), (0, [(4, (-1)), (9, 1)]), (0, [(9, 1), (10, (-1))]), (0, [(4, 1), (9, (-1))])], [(0, (1, 12, (0, [(0, 1)]))), (1, (0, 0, (0, [(5, 1)]))), (2, (0, 0, (0, [(6, 1)]))), (3, (0, 0, (0, [(7, 1)])))], [((0, 12, 26), (1, 69, (0, [(12, 1)]))), ((0, 12, 28), (1, 71, (0, [(13, 1)]))), ((0, 12, 31), (1, 74, (0, [(8, 1)]))), ((0, 12, 32), (1, 75, (0, [(2, 1)]))), ((0, 12, 43), (0, 0, (0, [(9, 1)])))], [(2, 75, (0, []), (0, [(10, 1)])), (8, 74, (0, []), (0, [(11, 1)]))], [(4, (12, 69), (13, 71), 1, (0, []), (0, []), (0, []), (0, []))]), (5497558138880, []), [])
def wc_d : sv_cu := (230, (0, [(0, 255), (0, 1), (0, 255), (0, 40), (0, 40), (0, 1), (0, 1), (0, 0), (0, 255), (0, 40), (0, 40), (0, 60)], [(0, [(1, (-1)), (5, 1)]), (0, [(1, 1), (5, (-1))]), (0, [(4, (-1)), (9, 1)]), (0, [(9, 1), (10, (-1))]), (0, [(4, 1), (9, (-1))])], [(0, (1, 12, (0, [(0, 1)]))), (1, (0, 0, (0, [(5, 1)]))), (2, (0, 0, (0, [(6, 1)])))], [((0, 12, 31), (1, 74, (0, [(8, 1)]))), ((0, 12, 32), (1, 75, (0, [(2, 1)]))), ((0, 12, 43), (0, 0, (0, [(9, 1)])))], [(2, 75, (0, []), (0, [(10, 1)])), (8, 74, (0, []), (0, [(11, 1)]))], []), (4398046511104, []), [])
/-- the cut at 188 -/
theorem wc_hnd : ∀ c ∈ svC_171_c, sx_fr [188] c.1 = true → sv_hnd sv_ty sv_tt sv_op svC_171 svC_171_c c := by
  intro c hc hf
  have ec : (svC_171_c.filter fun c => sx_fr [188] c.1) = [wc_c] := rfl
  have hc2 : c ∈ svC_171_c.filter fun c => sx_fr [188] c.1 := List.mem_filter.mpr ⟨hc, hf⟩
  rw [ec] at hc2
  have ec2 := List.mem_singleton.mp hc2
  subst ec2
  intro ρ lv h Q hk hP hcut hret
  obtain ⟨k0, e0, l0, t0⟩ := wa_loc1 hP (i := 0) rfl
  obtain ⟨l1, i1⟩ := wa_loc0 hP (i := 1) rfl
  obtain ⟨l2, i2⟩ := wa_loc0 hP (i := 2) rfl
  obtain ⟨l3, i3⟩ := wa_loc0 hP (i := 3) rfl
  have b : ∀ (k : Nat) (q : Int × Int), wc_c.2.1.2.1[k]? = some q → q.1 ≤ ρ k ∧ ρ k ≤ q.2 := hP.1
  have b2 : (0 : Int) ≤ ρ 2 ∧ ρ 2 ≤ 255 := b 2 _ rfl
  have b7 : (0 : Int) ≤ ρ 7 ∧ ρ 7 ≤ 0 := b 7 _ rfl
  have b9 : (0 : Int) ≤ ρ 9 ∧ ρ 9 ≤ 40 := b 9 _ rfl
  have b10 : (0 : Int) ≤ ρ 10 ∧ ρ 10 ≤ 40 := b 10 _ rfl
  rw [show ρ 7 = 0 by omega] at l3
  obtain ⟨ka, kr, a1, a2, a3, tr, F2⟩ := wa_fld1 hP (r := 0) (t := 12) (j := 26) (t2 := 69) (s := 12) (List.mem_cons_self ..)
  have ea : ka = k0 := by omega
  subst ea
  obtain ⟨kd, kc, d1, d2, d3, tc, F3⟩ := wa_fld1 hP (r := 0) (t := 12) (j := 28) (t2 := 71) (s := 13) (List.mem_cons_of_mem _ (List.mem_cons_self ..))
  have ed : kd = ka := by omega
  subst ed
  obtain ⟨kp, k75, p1, p2, p3, t75, F5⟩ := wa_fld1 hP (r := 0) (t := 12) (j := 32) (t2 := 75) (s := 2) (List.mem_cons_of_mem _ (List.mem_cons_of_mem _ (List.mem_cons_of_mem _ (List.mem_cons_self ..))))
  have ep : kp = kd := by omega
  subst ep
  obtain ⟨kq, r1, r2, F6, i9⟩ := wa_fld0 hP (r := 0) (t := 12) (j := 43) (s := 9) (List.mem_cons_of_mem _ (List.mem_cons_of_mem _ (List.mem_cons_of_mem _ (List.mem_cons_of_mem _ (List.mem_cons_self ..)))))
  have eq : kq = kp := by omega
  subst eq
  obtain ⟨k9, m1, m2, m3, m4⟩ := wa_mem hP (r := 2) (t := 75) (i := (0, [])) (v := (0, [(10, 1)])) (List.mem_cons_self ..)
  rw [wa_ev1, sv_ev0] at m4
  have e9 : k9 = k75 := by omega
  subst e9
  obtain ⟨kg, F1, tg⟩ := wk_ref (j := 24) hk t0 tT_12 rfl
  obtain ⟨-, q1, q2, q3, q4, q5, q6, -, -, -, -, kg2, tg2, -, CA⟩ := hP.2.2.2.2.2 _ (List.mem_cons_self ..)
  have e1 : q1 = kr := by
    have q3 : ρ 12 = q1 := q3
    omega
  have e2 : q2 = kc := by
    have q5 : ρ 13 = q2 := q5
    omega
  subst e1 e2
  have e3 := tU_68 tg2 tg
  subst e3
  have c9 : 0 ≤ ρ 9 - ρ 10 := by
    have := (hP.2.1 (0, [(9, 1), (10, -1)]) (List.mem_cons_of_mem _ (List.mem_cons_of_mem _ (List.mem_cons_of_mem _ (List.mem_cons_self ..))))).1
    have this : 0 ≤ 0 + (1 * ρ 9 + (-1 * ρ 10 + 0)) := this
    omega
  refine wc_188 (lv0 := lv) t0 tg tc tr hk F1 F2 F3 CA (fun lv2 LA => ?_) (fun h2 T2 => ?_) 96 lv 0 l0 l3 (fun _ _ _ x _ => x) (fun j a b => by omega) (by omega) (by omega)
  · refine hcut wc_d (List.mem_of_getElem? (i := 4) rfl) ρ lv2 h ⟨fun k q hq => ?_, fun c hc => ?_, fun i v hv => ?_, fun q hq => ?_, fun q hq => ?_, fun q hq => by cases hq⟩ (fun _ _ => rfl) ⟨hk, sv_fr.rf h⟩ (by show (4398046511104 : Int) + 0 < 5497558138880 + 0; omega) (by show (0 : Int) < 5497558138880 + 0; omega)
    · have hlt : k < 12 := (List.getElem?_eq_some_iff.mp hq).1
      have e : wc_c.2.1.2.1[k]? = wc_d.2.1.2.1[k]? := by
        have key : ∀ k, k < 12 → wc_c.2.1.2.1[k]? = wc_d.2.1.2.1[k]? := by decide +kernel
        exact key k hlt
      exact hP.1 k q (e.trans hq)
    · obtain ⟨x1, x2⟩ := hP.2.1 c hc
      refine ⟨x1, ?_⟩
      have key : ∀ c ∈ wc_d.2.1.2.2.1, ∀ q ∈ c.2, q.1 < 12 := by decide +kernel
      exact fun q hq => key c hc q hq
    · have key : wa_A (fun q => ae_lk wc_c.2.1.2.2.2.1 q.1 = some q.2 ∧ q.1 < 3 ∧ q.2.1 ≤ 1 ∧ ∀ z ∈ q.2.2.2.2, z.1 < 12) wc_d.2.1.2.2.2.1 := ⟨⟨rfl, by decide, by decide, by decide⟩, ⟨rfl, by decide, by decide, by decide⟩, ⟨rfl, by decide, by decide, by decide⟩, trivial⟩
      obtain ⟨x1, x2, x3, x4⟩ := wa_A_ok key _ (ae_lk_mem hv)
      obtain ⟨cc, y1, y2⟩ := hP.2.2.1 i v x1
      refine ⟨cc, LA i cc x2 y1 ?_, fun z hz => x4 z hz, y2.2⟩
      have y3 := sv_cat y2
      rcases y3.2 with z | z
      · exact z
      · have z2 := y3.1.mp z
        have x3 : v.1 ≤ 1 := x3
        omega
    · have key : ∀ q ∈ wc_d.2.1.2.2.2.2.1, q ∈ wc_c.2.1.2.2.2.2.1 ∧ q.1.1 < 12 ∧ ∀ z ∈ q.2.2.2.2, z.1 < 12 := by decide +kernel
      obtain ⟨x1, x2, x3⟩ := key q hq
      obtain ⟨-, k, ci, fs, cc, y1, y2, y3, y4, y5⟩ := hP.2.2.2.1 q x1
      exact ⟨x2, k, ci, fs, cc, y1, y2, y3, y4, fun z hz => x3 z hz, y5.2⟩
    · have key : ∀ q ∈ wc_d.2.1.2.2.2.2.2.1, q ∈ wc_c.2.1.2.2.2.2.2.1 ∧ q.1 < 12 ∧ (∀ z ∈ q.2.2.1.2, z.1 < 12) ∧ ∀ z ∈ q.2.2.2.2, z.1 < 12 := by decide +kernel
      obtain ⟨x1, x2, x3, x4⟩ := key q hq
      obtain ⟨-, -, -, y⟩ := hP.2.2.2.2.1 q x1
      exact ⟨x2, fun z hz => x3 z hz, fun z hz => x4 z hz, y⟩
  · refine hret _ ?_
    have F5b := (wk_fr_F hk T2.2 t0 tT_12 rfl (j := 32) (by decide)).trans F5
    have F6b := (wk_fr_F hk T2.2 t0 tT_12 rfl (j := 43) (by decide)).trans F6
    have R75 := wk_fr_R hk T2.2 t75 tT_75 rfl (by decide) 0
    have b0 : (0 : Int) ≤ ρ 0 ∧ ρ 0 ≤ 255 := b 0 _ rfl
    have b1 : (0 : Int) ≤ ρ 1 ∧ ρ 1 ≤ 1 := b 1 _ rfl
    have b3 : (0 : Int) ≤ ρ 3 ∧ ρ 3 ≤ 40 := b 3 _ rfl
    have b4 : (0 : Int) ≤ ρ 4 ∧ ρ 4 ≤ 40 := b 4 _ rfl
    exact wa_post 0 [2, ρ 2, ρ 10, ρ 9] (by decide) ⟨b0, b1, by show (0 : Int) ≤ ρ 2 ∧ ρ 2 ≤ 2147483647; omega, b3, b4, by show (-2147483648 : Int) ≤ 2 ∧ (2 : Int) ≤ 2147483647; omega, b2, b10, b9, trivial⟩ ⟨⟨by show (0 : Int) ≤ 0 + (-1 * ρ 10 + (1 * ρ 9 + 0)); omega, wa_wf2 (by decide) (by decide)⟩, trivial⟩ (wa_ret (s := 5) (by decide) (by unfold sv_I; omega) rfl) ⟨wa_F1 (by decide) (by decide) e0 t0 p3 t75 F5b, wa_F0 (by decide) (by decide) e0 t0 F6b i9, trivial⟩ ⟨wa_M (tag := 0) T2.1 (by decide) (by decide) (sv_wf0 _ _) p3 t75 tT_75 (sv_ev0 _ 0) ⟨by omega, by omega⟩ (by show ρ 10 = _; rw [R75]; exact m4), trivial⟩ trivial ⟨T2.1, T2.2.wd (by decide)⟩ (wa_hn rfl)

