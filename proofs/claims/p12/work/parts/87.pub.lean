/-! WHAT A CALL OF THE LAW LEAVES (printed by wip/p2/law/ga2.py) -/
theorem lp_tyR : sv_ty 114 = some 12 := rfl
theorem lp_ty88 : sv_ty 151 = some 88 := rfl
theorem lp_ty89 : sv_ty 152 = some 89 := rfl
theorem lp_ty92 : sv_ty 155 = some 92 := rfl
theorem lp_ty93 : sv_ty 156 = some 93 := rfl
theorem tU_12 {a b : Nat} (ha : sv_ty a = some 12) (hb : sv_ty b = some 12) : a = b := wk_uq (by decide +kernel) ha hb
theorem tU_88 {a b : Nat} (ha : sv_ty a = some 88) (hb : sv_ty b = some 88) : a = b := wk_uq (by decide +kernel) ha hb
/-- what stands of the reference's JOB in use -/
def lj_R (h : ae_H) : Prop := (∀ j, 0 ≤ j → j < wk_R h 151 0 → 1 ≤ wk_R h 152 j ∧ wk_R h 152 j ≤ 20) ∧ ∀ j, 0 ≤ j → j < wk_R h 155 0 → -1 ≤ wk_R h 156 j ∧ wk_R h 156 j ≤ wk_R h 151 0 - 1
def lw_n (h : ae_H) (k j : Nat) (n : Int) : Prop := wk_F h k j = some (wk_i n) ∧ 0 ≤ n ∧ n ≤ 740
/-- what stands between two calls: the heap is typed, both JOBS are whole, the tapes' lengths are n and m -/
def lw_T (h : ae_H) (n m : Int) : Prop := sv_hk sv_ty sv_tt h ∧ wz_J h ∧ lj_R h ∧ lw_n h 1 1 n ∧ lw_n h 114 2 m
def lw_badC : List (Nat × Nat) := [(11, 10), (11, 11), (2, 0), (2, 1), (2, 2), (2, 3), (2, 4), (2, 5), (2, 6), (2, 7), (2, 8), (2, 9), (41, 0), (44, 0)]
def lw_badR : List (Nat × Nat) := [(88, 0), (89, 0), (92, 0), (93, 0)]
def lw_no (l ms : List (Nat × Nat)) : Bool := l.all (fun q => ms.all (fun r => !(Nat.beq q.1 r.1 && Nat.beq q.2 r.2)))
theorem lw_no_ok {l ms : List (Nat × Nat)} (h : lw_no l ms = true) : ∀ q ∈ l, q ∉ ms := fun q hq hm => by
  have h1 := List.all_eq_true.mp (List.all_eq_true.mp h q hq) q hm
  rw [Nat.beq_refl, Nat.beq_refl] at h1
  cases h1
theorem lw_frC {ms : List (Nat × Nat)} {h h2 : ae_H} (hm : lw_no lw_badC ms = true) (hk : sv_hk sv_ty sv_tt h) (hf : sv_fr sv_ty ms h h2) (J : wz_J h) : wz_J h2 := by
  have q := lw_no_ok hm
  obtain ⟨A, B, hAB, FA, FB, oA, oB, jA⟩ := J
  obtain ⟨⟨tA, tA2, tA5⟩, tB, tB2, tB5⟩ := wz_rows hAB
  have hj : ∀ j, j < 10 → (2, j) ∉ ms := fun j hj => q _ (by
    match j, hj with
    | 0, _ => decide
    | 1, _ => decide
    | 2, _ => decide
    | 3, _ => decide
    | 4, _ => decide
    | 5, _ => decide
    | 6, _ => decide
    | 7, _ => decide
    | 8, _ => decide
    | 9, _ => decide
    | j + 10, h => omega)
  refine ⟨A, B, hAB, (wk_fr_F hk hf wz_ty0 tT_11 rfl (q _ (by decide))).trans FA, (wk_fr_F hk hf wz_ty0 tT_11 rfl (q _ (by decide))).trans FB, wz_own_eq oA (fun j h9 _ => wk_fr_F hk hf tA tT_2 rfl (hj j (by omega))), wz_own_eq oB (fun j h9 _ => wk_fr_F hk hf tB tT_2 rfl (hj j (by omega))), ?_⟩
  exact wz_JF_eq jA (wk_fr_F hk hf tA tT_2 rfl (hj 3 (by decide))) (wk_fr_F hk hf tA tT_2 rfl (hj 9 (by decide))) (fun j _ => wk_fr_R hk hf tA2 tT_41 rfl (q _ (by decide)) j) (fun j _ => wk_fr_R hk hf tA5 tT_44 rfl (q _ (by decide)) j)
theorem lw_frR {ms : List (Nat × Nat)} {h h2 : ae_H} (hm : lw_no lw_badR ms = true) (hk : sv_hk sv_ty sv_tt h) (hf : sv_fr sv_ty ms h h2) (J : lj_R h) : lj_R h2 := by
  have q := lw_no_ok hm
  have e1 := wk_fr_R hk hf lp_ty88 tT_88 rfl (q _ (by decide))
  have e2 := wk_fr_R hk hf lp_ty89 tT_89 rfl (q _ (by decide))
  have e3 := wk_fr_R hk hf lp_ty92 tT_92 rfl (q _ (by decide))
  have e4 := wk_fr_R hk hf lp_ty93 tT_93 rfl (q _ (by decide))
  refine ⟨fun j a b => ?_, fun j a b => ?_⟩
  · rw [e1] at b; rw [e2]; exact J.1 j a b
  · rw [e3] at b; rw [e4, e1]; exact J.2 j a b
theorem lw_u {x y : Int} (hx : sv_I x) (hy : sv_I y) (e : (wk_i x : ae_V) = wk_i y) : x = y := by
  have e1 : sv_u x = sv_u y := Sum.inl.inj (Sum.inl.inj e)
  rw [← sv_g_u hx, e1, sv_g_u hy]
/-- behind a call of the class -/
theorem lw_c {h h2 : ae_H} {n m n2 : Int} {ms : List (Nat × Nat)} (I : lw_T h n m) (T : sv_Tk sv_ty sv_tt ms h h2) (hm : and (lw_no lw_badC ms) (and (lw_no lw_badR ms) (lw_no [(12, 2)] ms)) = true) (e : wk_F h2 1 1 = some (wk_i n2)) (hI : sv_I n2) : lw_T h2 n2 m := by
  obtain ⟨hk, J, R, -, e2, b1, b2⟩ := I
  obtain ⟨m1, m2⟩ := ae_band hm
  obtain ⟨m2, m3⟩ := ae_band m2
  obtain ⟨x, f, hx, c1, c2⟩ := wk_int (j := 1) T.1 wz_ty1 tT_9 rfl
  have ex := lw_u hx hI (Option.some.inj (f.symm.trans e))
  subst ex
  exact ⟨T.1, lw_frC m1 hk T.2 J, lw_frR m2 hk T.2 R, ⟨e, c1, c2⟩, (wk_fr_F hk T.2 lp_tyR tT_12 rfl (lw_no_ok m3 _ (by decide))).trans e2, b1, b2⟩
/-- behind a call of the reference -/
theorem lw_r {h h2 : ae_H} {n m m2 : Int} {ms : List (Nat × Nat)} (I : lw_T h n m) (T : sv_Tk sv_ty sv_tt ms h h2) (hm : and (lw_no lw_badC ms) (lw_no [(9, 1)] ms) = true) (R : lj_R h2) (e : wk_F h2 114 2 = some (wk_i m2)) (hI : sv_I m2) : lw_T h2 n m2 := by
  obtain ⟨hk, J, -, ⟨e1, b1, b2⟩, -⟩ := I
  obtain ⟨m1, m3⟩ := ae_band hm
  obtain ⟨x, f, hx, c1, c2⟩ := wk_int (j := 2) T.1 lp_tyR tT_12 rfl
  have ex := lw_u hx hI (Option.some.inj (f.symm.trans e))
  subst ex
  exact ⟨T.1, lw_frC m1 hk T.2 J, R, ⟨(wk_fr_F hk T.2 wz_ty1 tT_9 rfl (lw_no_ok m3 _ (by decide))).trans e1, b1, b2⟩, e, c1, c2⟩
theorem lp_l1 {ρ : Nat → Int} {n s k t i : Nat} {lv : ae_L} (hs : s < n) (hl : ae_lk lv i = some (wk_r k)) (e : ρ s = k) (ht : sv_ty k = some t) : ∃ c, ae_lk lv i = some c ∧ sv_vk sv_ty ρ n (1, t, (0, [(s, 1)])) c :=
  ⟨wk_r k, hl, fun q hq => by cases List.mem_singleton.mp hq; exact hs, k, (wa_ev1 ρ s).trans e, rfl, ht⟩
theorem lp_l0 {ρ : Nat → Int} {n s i : Nat} {lv : ae_L} (hs : s < n) (hl : ae_lk lv i = some (wk_i (ρ s))) (hI : sv_I (ρ s)) : ∃ c, ae_lk lv i = some c ∧ sv_vk sv_ty ρ n (0, 0, (0, [(s, 1)])) c := by
  refine ⟨wk_i (ρ s), hl, fun q hq => by cases List.mem_singleton.mp hq; exact hs, ?_, ?_⟩
  · show _ = Sum.inl (Sum.inl (sv_u (sv_ev ρ (0, [(s, 1)]))))
    rw [wa_ev1]
  · show sv_I (sv_ev ρ (0, [(s, 1)]))
    rw [wa_ev1]; exact hI
theorem lp_rl {v : Option ae_V} {c : ae_V} (h : ae_lk (sv_rl v) 1000 = some c) : v = some c := by
  cases v with
  | none => cases h
  | some w =>
    have h : some w = some c := h
    exact h
theorem lp_q {ρ : Nat → Int} {n s t k : Nat} {h : ae_H} {bd lo hi : sv_L} (hs : s < n) (w1 : sv_wf n bd) (w2 : sv_wf n lo) (w3 : sv_wf n hi) (e : ρ s = k) (ht : sv_ty k = some t) (hq : ∀ j, 0 ≤ j → j < sv_ev ρ bd → sv_ev ρ lo ≤ wk_R h k j ∧ wk_R h k j ≤ sv_ev ρ hi) : sv_Qk sv_ty sv_op ρ n h (0, (s, t), (s, t), 1, (0, []), bd, lo, hi) := by
  refine ⟨⟨hs, hs, sv_wf0 _ _, w1, w2, w3⟩, k, k, e, ht, e, ht, fun tag len A hg j i hj hi2 hl => ?_⟩
  have hi2 : (i : Int) = 1 * (j : Int) + (0 + 0) := hi2
  have q := hq j (by omega) hj
  rw [wk_R_of hg, Int.toNat_natCast, show j = i by omega] at q
  exact q
theorem lp_qx {ρ : Nat → Int} {n s t : Nat} {h : ae_H} {bd lo hi : sv_L} {tag len mask : Nat} {l2 u2 : Int} (hh : sv_hk sv_ty sv_tt h) (hT : sv_tt[t]? = some (1, tag, len, l2, u2, mask, [])) (Q : sv_Qk sv_ty sv_op ρ n h (0, (s, t), (s, t), 1, (0, []), bd, lo, hi)) : ∃ k : Nat, ρ s = k ∧ sv_ty k = some t ∧ ∀ j, 0 ≤ j → j < sv_ev ρ bd → j < len → sv_ev ρ lo ≤ wk_R h k j ∧ wk_R h k j ≤ sv_ev ρ hi := by
  obtain ⟨-, k, k2, e, ht, -, -, q⟩ := Q
  obtain ⟨A, g1, -⟩ := sv_hk_a hh ht hT rfl
  refine ⟨k, e, ht, fun j a b c => ?_⟩
  have := q tag len A g1 j.toNat j.toNat (by rw [Int.toNat_of_nonneg a]; exact b) (by show ((j.toNat : Nat) : Int) = 1 * ((j.toNat : Nat) : Int) + (0 + 0); omega) (by omega)
  rw [wk_R_of g1]
  exact this
theorem lp_Pi {ρ : Nat → Int} {n : Nat} {B : List (Int × Int)} {C : List sv_L} {L : List (Nat × sv_V)} {F : List sv_F} {M : List sv_M} {Q : List sv_Q} {lv : ae_L} {h : ae_H} (h1 : wa_B ρ 0 B) (h2 : C = []) (h3 : wa_A (fun q : Nat × sv_V => ∃ c, ae_lk lv q.1 = some c ∧ sv_vk sv_ty ρ B.length q.2 c) L) (h4 : wa_A (sv_Fk sv_ty ρ B.length h) F) (h5 : wa_A (sv_Mk sv_ty ρ B.length h) M) (h6 : wa_A (sv_Qk sv_ty sv_op ρ B.length h) Q) : sv_Pk sv_ty sv_op ρ (n, B, C, L, F, M, Q) lv h := by
  subst h2
  refine ⟨fun k b hb => ?_, ⟨fun c hc => absurd hc List.not_mem_nil, ⟨fun i v hv => wa_A_ok h3 _ (ae_lk_mem hv), ⟨wa_A_ok h4, wa_A_ok h5, wa_A_ok h6⟩⟩⟩⟩
  have q := wa_B_ok h1 k b hb
  rw [Nat.zero_add] at q
  exact q
theorem lp_bI {x : Int} (h : sv_I x) : -2147483648 ≤ x ∧ x ≤ 2147483647 := by unfold sv_I at h; omega
theorem lp_n {n : Int} (h : 0 ≤ n ∧ n ≤ 740) : sv_I n := by unfold sv_I; omega
theorem lp_row {h : ae_H} {k t tag len mask : Nat} {lo hi : Int} (hh : sv_hk sv_ty sv_tt h) (ht : sv_ty k = some t) (hT : sv_tt[t]? = some (1, tag, len, lo, hi, mask, [])) {i : Int} (h0 : 0 ≤ i) (h1 : i < len) : lo ≤ wk_R h k i ∧ wk_R h k i ≤ hi := by
  obtain ⟨A, g1, g2⟩ := sv_hk_a hh ht hT rfl
  rw [wk_R_of g1]
  have := g2 i.toNat (by show i.toNat < len; omega)
  exact ⟨this.1, this.2.1⟩
theorem lp_e1 {ρ : Nat → Int} {a b : Nat} (h1 : 0 ≤ sv_ev ρ (0, [(a, (-1)), (b, 1)])) (h2 : 0 ≤ sv_ev ρ (0, [(a, 1), (b, (-1))])) : ρ b = ρ a := by
  have h1 : (0 : Int) ≤ 0 + (-1 * ρ a + (1 * ρ b + 0)) := h1
  have h2 : (0 : Int) ≤ 0 + (1 * ρ a + (-1 * ρ b + 0)) := h2
  omega
/-- PlugHall.feed -/
theorem lc_144 {h : ae_H} {n m : Int} (I : lw_T h n m) {x1 : Int} (h1 : sv_I x1) {x2 : Int} (h2 : sv_I x2) {x3 : Int} (h3 : sv_I x3) {x4 : Int} (h4 : sv_I x4) {x5 : Int} (h5 : sv_I x5) : sv_G (fun r => (n ≤ 720 ∧ r.1 = some (wk_i (n + 20)) ∧ lw_T r.2 (n + 20) m) ∨ (721 ≤ n ∧ r.1 = some (wk_i (-1)) ∧ lw_T r.2 n m)) 144 0 (ae_args [wk_r 0, wk_i x1, wk_i x2, wk_i x3, wk_i x4, wk_i x5] 0) [] h := by
  obtain ⟨k1, ftape, ty1⟩ := wk_ref (j := 0) I.1 wz_ty0 tT_11 rfl
  rw [tU_9 ty1 wz_ty1] at ftape
  have bn := I.2.2.2.1
  have bm := I.2.2.2.2
  have hPre : sv_Pk sv_ty sv_op (wa_x (fun _ => 0) 0 [0, x1, x2, x3, x4, x5, 1, n]) svC_153.2.2.1 (ae_args [wk_r 0, wk_i x1, wk_i x2, wk_i x3, wk_i x4, wk_i x5] 0) h := lp_Pi ⟨by show (0 : Int) ≤ 0 ∧ (0 : Int) ≤ 255; omega, lp_bI h1, lp_bI h2, lp_bI h3, lp_bI h4, lp_bI h5, by show (0 : Int) ≤ 1 ∧ (1 : Int) ≤ 255; omega, bn.2, trivial⟩ rfl ⟨lp_l1 (k := 0) (by decide) rfl rfl wz_ty0, lp_l0 (by decide) rfl h1, lp_l0 (by decide) rfl h2, lp_l0 (by decide) rfl h3, lp_l0 (by decide) rfl h4, lp_l0 (by decide) rfl h5, trivial⟩ ⟨wa_F1 (k := 0) (k2 := 1) (by decide) (by decide) rfl wz_ty0 rfl wz_ty1 ftape, wa_F0 (k := 1) (by decide) (by decide) rfl wz_ty1 bn.1 (lp_n bn.2), trivial⟩ trivial trivial
  refine sv_G_mono (fun r hr => ?_) (svC_153_ok (wa_x (fun _ => 0) 0 [0, x1, x2, x3, x4, x5, 1, n]) _ h I.1 hPre)
  obtain ⟨P, hPm, ρ', hag, hPk, hT, -⟩ := hr
  have hPm : P ∈ [(0, [(0, 255), ((-2147483648), 2147483647), ((-2147483648), 2147483647), ((-2147483648), 2147483647), ((-2147483648), 2147483647), ((-2147483648), 2147483647), (0, 2147483647), (0, 740), ((-1), (-1)), (0, 255), (0, 740)], [(0, [(7, (-1)), (10, 1)]), (0, [(7, 1), (10, (-1))]), ((-721), [(7, 1)])], [(1000, (0, 0, (0, [(8, 1)])))], [((0, 11, 0), (1, 9, (0, [(9, 1)]))), ((9, 9, 1), (0, 0, (0, [(10, 1)])))], [], []), (0, [(0, 255), ((-2147483648), 2147483647), ((-2147483648), 2147483647), ((-2147483648), 2147483647), ((-2147483648), 2147483647), ((-2147483648), 2147483647), (0, 2147483647), (0, 740), ((-2147483648), 2147483647), (0, 255), (0, 740)], [((-20), [(7, (-1)), (8, 1)]), (20, [(7, 1), (8, (-1))]), (0, [(8, (-1)), (10, 1)]), (0, [(8, 1), (10, (-1))]), (720, [(7, (-1))])], [(1000, (0, 0, (0, [(8, 1)])))], [((0, 11, 0), (1, 9, (0, [(9, 1)]))), ((9, 9, 1), (0, 0, (0, [(10, 1)])))], [], [])] := hPm
  rcases List.mem_cons.mp hPm with e | hPm
  · cases e
    obtain ⟨lr, ir⟩ := wa_loc0 hPk (i := 1000) (s := 8) rfl
    have er := lp_rl lr
    obtain ⟨a1, a2, c1, c2, c3, c4, c5⟩ := wa_fld1 (r := 0) (t := 11) (j := 0) (t2 := 9) (s := 9) hPk (List.mem_cons_self)
    obtain ⟨a3, d1, d2, d3, d4⟩ := wa_fld0 (r := 9) (t := 9) (j := 1) (s := 10) hPk (List.mem_cons_of_mem _ (List.mem_cons_self))
    rw [tU_9 d2 wz_ty1] at d3
    have ez : ρ' 7 = n := hag 7 (by decide)
    have eb : ((-1) : Int) ≤ ρ' 8 ∧ ρ' 8 ≤ (-1) := hPk.1 8 ((-1), (-1)) rfl
    have cc0 : (0 : Int) ≤ 0 + ((-1) * ρ' 7 + (1 * ρ' 10 + 0)) := (hPk.2.1 _ (List.mem_cons_self)).1
    have cc1 : (0 : Int) ≤ 0 + (1 * ρ' 7 + ((-1) * ρ' 10 + 0)) := (hPk.2.1 _ (List.mem_cons_of_mem _ (List.mem_cons_self))).1
    have cc2 : (0 : Int) ≤ (-721) + (1 * ρ' 7 + 0) := (hPk.2.1 _ (List.mem_cons_of_mem _ (List.mem_cons_of_mem _ (List.mem_cons_self)))).1
    rw [show ρ' 8 = -1 by omega] at er
    rw [show ρ' 10 = n by omega] at d3 d4
    exact Or.inr ⟨by omega, er, lw_c I hT (by decide +kernel) d3 d4⟩
  · cases List.mem_singleton.mp hPm
    obtain ⟨lr, ir⟩ := wa_loc0 hPk (i := 1000) (s := 8) rfl
    have er := lp_rl lr
    obtain ⟨a1, a2, c1, c2, c3, c4, c5⟩ := wa_fld1 (r := 0) (t := 11) (j := 0) (t2 := 9) (s := 9) hPk (List.mem_cons_self)
    obtain ⟨a3, d1, d2, d3, d4⟩ := wa_fld0 (r := 9) (t := 9) (j := 1) (s := 10) hPk (List.mem_cons_of_mem _ (List.mem_cons_self))
    rw [tU_9 d2 wz_ty1] at d3
    have ez : ρ' 7 = n := hag 7 (by decide)
    have cc0 : (0 : Int) ≤ (-20) + ((-1) * ρ' 7 + (1 * ρ' 8 + 0)) := (hPk.2.1 _ (List.mem_cons_self)).1
    have cc1 : (0 : Int) ≤ 20 + (1 * ρ' 7 + ((-1) * ρ' 8 + 0)) := (hPk.2.1 _ (List.mem_cons_of_mem _ (List.mem_cons_self))).1
    have cc2 : (0 : Int) ≤ 0 + ((-1) * ρ' 8 + (1 * ρ' 10 + 0)) := (hPk.2.1 _ (List.mem_cons_of_mem _ (List.mem_cons_of_mem _ (List.mem_cons_self)))).1
    have cc3 : (0 : Int) ≤ 0 + (1 * ρ' 8 + ((-1) * ρ' 10 + 0)) := (hPk.2.1 _ (List.mem_cons_of_mem _ (List.mem_cons_of_mem _ (List.mem_cons_of_mem _ (List.mem_cons_self))))).1
    have cc4 : (0 : Int) ≤ 720 + ((-1) * ρ' 7 + 0) := (hPk.2.1 _ (List.mem_cons_of_mem _ (List.mem_cons_of_mem _ (List.mem_cons_of_mem _ (List.mem_cons_of_mem _ (List.mem_cons_self)))))).1
    rw [show ρ' 8 = n + 20 by omega] at er
    rw [show ρ' 10 = n + 20 by omega] at d3 d4
    exact Or.inl ⟨by omega, er, lw_c I hT (by decide +kernel) d3 d4⟩
/-- PlugHall.end -/
theorem lc_145 {h : ae_H} {n m : Int} (I : lw_T h n m) {x1 : Int} (h1 : sv_I x1) : sv_G (fun r => (0 ≤ x1 ∧ x1 ≤ n ∧ r.1 = some (wk_i 1) ∧ lw_T r.2 x1 m) ∨ (¬ (0 ≤ x1 ∧ x1 ≤ n) ∧ r.1 = some (wk_i 0) ∧ lw_T r.2 n m)) 145 0 (ae_args [wk_r 0, wk_i x1] 0) [] h := by
  obtain ⟨k1, ftape, ty1⟩ := wk_ref (j := 0) I.1 wz_ty0 tT_11 rfl
  rw [tU_9 ty1 wz_ty1] at ftape
  have bn := I.2.2.2.1
  have bm := I.2.2.2.2
  have hPre : sv_Pk sv_ty sv_op (wa_x (fun _ => 0) 0 [0, x1, 1, n]) svC_154.2.2.1 (ae_args [wk_r 0, wk_i x1] 0) h := lp_Pi ⟨by show (0 : Int) ≤ 0 ∧ (0 : Int) ≤ 255; omega, lp_bI h1, by show (0 : Int) ≤ 1 ∧ (1 : Int) ≤ 255; omega, bn.2, trivial⟩ rfl ⟨lp_l1 (k := 0) (by decide) rfl rfl wz_ty0, lp_l0 (by decide) rfl h1, trivial⟩ ⟨wa_F1 (k := 0) (k2 := 1) (by decide) (by decide) rfl wz_ty0 rfl wz_ty1 ftape, wa_F0 (k := 1) (by decide) (by decide) rfl wz_ty1 bn.1 (lp_n bn.2), trivial⟩ trivial trivial
  refine sv_G_mono (fun r hr => ?_) (svC_154_ok (wa_x (fun _ => 0) 0 [0, x1, 1, n]) _ h I.1 hPre)
  obtain ⟨P, hPm, ρ', hag, hPk, hT, -⟩ := hr
  have hPm : P ∈ [(0, [(0, 255), ((-2147483648), 2147483647), (0, 2147483647), (0, 740), (0, 0), (0, 255), (0, 740)], [(0, [(3, (-1)), (6, 1)]), (0, [(3, 1), (6, (-1))]), ((-1), [(1, (-1))])], [(1000, (0, 0, (0, [(4, 1)])))], [((0, 11, 0), (1, 9, (0, [(5, 1)]))), ((5, 9, 1), (0, 0, (0, [(6, 1)])))], [], []), (0, [(0, 255), ((-2147483648), 2147483647), (0, 2147483647), (0, 740), (0, 0), (0, 255), (0, 740)], [(0, [(3, (-1)), (6, 1)]), (0, [(3, 1), (6, (-1))]), ((-1), [(1, 1), (3, (-1))])], [(1000, (0, 0, (0, [(4, 1)])))], [((0, 11, 0), (1, 9, (0, [(5, 1)]))), ((5, 9, 1), (0, 0, (0, [(6, 1)])))], [], []), (0, [(0, 255), ((-2147483648), 2147483647), (0, 2147483647), (0, 740), (1, 1), (0, 255), (0, 740)], [(0, [(1, (-1)), (6, 1)]), (0, [(1, 1), (6, (-1))]), (0, [(1, 1)]), (0, [(1, (-1)), (3, 1)])], [(1000, (0, 0, (0, [(4, 1)])))], [((0, 11, 0), (1, 9, (0, [(5, 1)]))), ((5, 9, 1), (0, 0, (0, [(6, 1)])))], [], [])] := hPm
  rcases List.mem_cons.mp hPm with e | hPm
  · cases e
    obtain ⟨lr, ir⟩ := wa_loc0 hPk (i := 1000) (s := 4) rfl
    have er := lp_rl lr
    obtain ⟨a1, a2, c1, c2, c3, c4, c5⟩ := wa_fld1 (r := 0) (t := 11) (j := 0) (t2 := 9) (s := 5) hPk (List.mem_cons_self)
    obtain ⟨a3, d1, d2, d3, d4⟩ := wa_fld0 (r := 5) (t := 9) (j := 1) (s := 6) hPk (List.mem_cons_of_mem _ (List.mem_cons_self))
    rw [tU_9 d2 wz_ty1] at d3
    have ez : ρ' 3 = n := hag 3 (by decide)
    have ex : ρ' 1 = x1 := hag 1 (by decide)
    have eb : (0 : Int) ≤ ρ' 4 ∧ ρ' 4 ≤ 0 := hPk.1 4 (0, 0) rfl
    have cc0 : (0 : Int) ≤ 0 + ((-1) * ρ' 3 + (1 * ρ' 6 + 0)) := (hPk.2.1 _ (List.mem_cons_self)).1
    have cc1 : (0 : Int) ≤ 0 + (1 * ρ' 3 + ((-1) * ρ' 6 + 0)) := (hPk.2.1 _ (List.mem_cons_of_mem _ (List.mem_cons_self))).1
    have cc2 : (0 : Int) ≤ (-1) + ((-1) * ρ' 1 + 0) := (hPk.2.1 _ (List.mem_cons_of_mem _ (List.mem_cons_of_mem _ (List.mem_cons_self)))).1
    rw [show ρ' 4 = 0 by omega] at er
    rw [show ρ' 6 = n by omega] at d3 d4
    exact Or.inr ⟨by omega, er, lw_c I hT (by decide +kernel) d3 d4⟩
  rcases List.mem_cons.mp hPm with e | hPm
  · cases e
    obtain ⟨lr, ir⟩ := wa_loc0 hPk (i := 1000) (s := 4) rfl
    have er := lp_rl lr
    obtain ⟨a1, a2, c1, c2, c3, c4, c5⟩ := wa_fld1 (r := 0) (t := 11) (j := 0) (t2 := 9) (s := 5) hPk (List.mem_cons_self)
    obtain ⟨a3, d1, d2, d3, d4⟩ := wa_fld0 (r := 5) (t := 9) (j := 1) (s := 6) hPk (List.mem_cons_of_mem _ (List.mem_cons_self))
    rw [tU_9 d2 wz_ty1] at d3
    have ez : ρ' 3 = n := hag 3 (by decide)
    have ex : ρ' 1 = x1 := hag 1 (by decide)
    have eb : (0 : Int) ≤ ρ' 4 ∧ ρ' 4 ≤ 0 := hPk.1 4 (0, 0) rfl
    have cc0 : (0 : Int) ≤ 0 + ((-1) * ρ' 3 + (1 * ρ' 6 + 0)) := (hPk.2.1 _ (List.mem_cons_self)).1
    have cc1 : (0 : Int) ≤ 0 + (1 * ρ' 3 + ((-1) * ρ' 6 + 0)) := (hPk.2.1 _ (List.mem_cons_of_mem _ (List.mem_cons_self))).1
    have cc2 : (0 : Int) ≤ (-1) + (1 * ρ' 1 + ((-1) * ρ' 3 + 0)) := (hPk.2.1 _ (List.mem_cons_of_mem _ (List.mem_cons_of_mem _ (List.mem_cons_self)))).1
    rw [show ρ' 4 = 0 by omega] at er
    rw [show ρ' 6 = n by omega] at d3 d4
    exact Or.inr ⟨by omega, er, lw_c I hT (by decide +kernel) d3 d4⟩
  · cases List.mem_singleton.mp hPm
    obtain ⟨lr, ir⟩ := wa_loc0 hPk (i := 1000) (s := 4) rfl
    have er := lp_rl lr
    obtain ⟨a1, a2, c1, c2, c3, c4, c5⟩ := wa_fld1 (r := 0) (t := 11) (j := 0) (t2 := 9) (s := 5) hPk (List.mem_cons_self)
    obtain ⟨a3, d1, d2, d3, d4⟩ := wa_fld0 (r := 5) (t := 9) (j := 1) (s := 6) hPk (List.mem_cons_of_mem _ (List.mem_cons_self))
    rw [tU_9 d2 wz_ty1] at d3
    have ez : ρ' 3 = n := hag 3 (by decide)
    have ex : ρ' 1 = x1 := hag 1 (by decide)
    have eb : (1 : Int) ≤ ρ' 4 ∧ ρ' 4 ≤ 1 := hPk.1 4 (1, 1) rfl
    have cc0 : (0 : Int) ≤ 0 + ((-1) * ρ' 1 + (1 * ρ' 6 + 0)) := (hPk.2.1 _ (List.mem_cons_self)).1
    have cc1 : (0 : Int) ≤ 0 + (1 * ρ' 1 + ((-1) * ρ' 6 + 0)) := (hPk.2.1 _ (List.mem_cons_of_mem _ (List.mem_cons_self))).1
    have cc2 : (0 : Int) ≤ 0 + (1 * ρ' 1 + 0) := (hPk.2.1 _ (List.mem_cons_of_mem _ (List.mem_cons_of_mem _ (List.mem_cons_self)))).1
    have cc3 : (0 : Int) ≤ 0 + ((-1) * ρ' 1 + (1 * ρ' 3 + 0)) := (hPk.2.1 _ (List.mem_cons_of_mem _ (List.mem_cons_of_mem _ (List.mem_cons_of_mem _ (List.mem_cons_self))))).1
    rw [show ρ' 4 = 1 by omega] at er
    rw [show ρ' 6 = x1 by omega] at d3 d4
    exact Or.inl ⟨by omega, by omega, er, lw_c I hT (by decide +kernel) d3 d4⟩
/-- PlugHall.card -/
theorem lc_146 {h : ae_H} {n m : Int} (I : lw_T h n m) {x1 : Int} (h1 : sv_I x1) : sv_G (fun r => (∃ x, r.1 = some (wk_i x)) ∧ lw_T r.2 0 m) 146 0 (ae_args [wk_r 0, wk_i x1] 0) [] h := by
  have bn := I.2.2.2.1
  have bm := I.2.2.2.2
  have hPre : sv_Pk sv_ty sv_op (wa_x (fun _ => 0) 0 [0, x1]) svC_146.2.2.1 (ae_args [wk_r 0, wk_i x1] 0) h := lp_Pi ⟨by show (0 : Int) ≤ 0 ∧ (0 : Int) ≤ 255; omega, lp_bI h1, trivial⟩ rfl ⟨lp_l1 (k := 0) (by decide) rfl rfl wz_ty0, lp_l0 (by decide) rfl h1, trivial⟩ trivial trivial trivial
  refine sv_G_mono (fun r hr => ?_) (svC_146_ok (wa_x (fun _ => 0) 0 [0, x1]) _ h I.1 hPre)
  obtain ⟨P, hPm, ρ', hag, hPk, hT, -⟩ := hr
  have hPm : P ∈ [(0, [(0, 255), ((-2147483648), 2147483647), ((-2147483648), 2147483647), (0, 255), (0, 0)], [], [(1000, (0, 0, (0, [(2, 1)])))], [((0, 11, 0), (1, 9, (0, [(3, 1)]))), ((3, 9, 1), (0, 0, (0, [(4, 1)])))], [], [])] := hPm
  cases List.mem_singleton.mp hPm
  obtain ⟨lr, ir⟩ := wa_loc0 hPk (i := 1000) (s := 2) rfl
  have er := lp_rl lr
  obtain ⟨a1, a2, c1, c2, c3, c4, c5⟩ := wa_fld1 (r := 0) (t := 11) (j := 0) (t2 := 9) (s := 3) hPk (List.mem_cons_self)
  obtain ⟨a3, d1, d2, d3, d4⟩ := wa_fld0 (r := 3) (t := 9) (j := 1) (s := 4) hPk (List.mem_cons_of_mem _ (List.mem_cons_self))
  rw [tU_9 d2 wz_ty1] at d3
  have e1 : 0 ≤ ρ' 4 ∧ ρ' 4 ≤ 0 := hPk.1 4 (0, 0) rfl
  have e2 : ρ' 4 = 0 := by omega
  rw [e2] at d3 d4
  exact ⟨⟨_, er⟩, lw_c I hT (by decide +kernel) d3 d4⟩
/-- PlugHall.cards -/
theorem lc_147 {h : ae_H} {n m : Int} (I : lw_T h n m) {x1 : Int} (h1 : sv_I x1) : sv_G (fun r => (∃ x, r.1 = some (wk_i x)) ∧ lw_T r.2 n m) 147 0 (ae_args [wk_r 0, wk_i x1] 0) [] h := by
  obtain ⟨k1, ftape, ty1⟩ := wk_ref (j := 0) I.1 wz_ty0 tT_11 rfl
  rw [tU_9 ty1 wz_ty1] at ftape
  have bn := I.2.2.2.1
  have bm := I.2.2.2.2
  have hPre : sv_Pk sv_ty sv_op (wa_x (fun _ => 0) 0 [0, x1, 1, n]) svC_121.2.2.1 (ae_args [wk_r 0, wk_i x1] 0) h := lp_Pi ⟨by show (0 : Int) ≤ 0 ∧ (0 : Int) ≤ 255; omega, lp_bI h1, by show (0 : Int) ≤ 1 ∧ (1 : Int) ≤ 255; omega, bn.2, trivial⟩ rfl ⟨lp_l1 (k := 0) (by decide) rfl rfl wz_ty0, lp_l0 (by decide) rfl h1, trivial⟩ ⟨wa_F1 (k := 0) (k2 := 1) (by decide) (by decide) rfl wz_ty0 rfl wz_ty1 ftape, wa_F0 (k := 1) (by decide) (by decide) rfl wz_ty1 bn.1 (lp_n bn.2), trivial⟩ trivial trivial
  refine sv_G_mono (fun r hr => ?_) (svC_121_ok (wa_x (fun _ => 0) 0 [0, x1, 1, n]) _ h I.1 hPre)
  obtain ⟨P, hPm, ρ', hag, hPk, hT, -⟩ := hr
  have hPm : P ∈ [(0, [(0, 255), ((-2147483648), 2147483647), (0, 2147483647), (0, 740), ((-2147483648), 2147483647), (0, 255), (0, 740)], [(0, [(3, (-1)), (6, 1)]), (0, [(3, 1), (6, (-1))])], [(1000, (0, 0, (0, [(4, 1)])))], [((0, 11, 0), (1, 9, (0, [(5, 1)]))), ((5, 9, 1), (0, 0, (0, [(6, 1)])))], [], [])] := hPm
  cases List.mem_singleton.mp hPm
  obtain ⟨lr, ir⟩ := wa_loc0 hPk (i := 1000) (s := 4) rfl
  have er := lp_rl lr
  obtain ⟨a1, a2, c1, c2, c3, c4, c5⟩ := wa_fld1 (r := 0) (t := 11) (j := 0) (t2 := 9) (s := 5) hPk (List.mem_cons_self)
  obtain ⟨a3, d1, d2, d3, d4⟩ := wa_fld0 (r := 5) (t := 9) (j := 1) (s := 6) hPk (List.mem_cons_of_mem _ (List.mem_cons_self))
  rw [tU_9 d2 wz_ty1] at d3
  have e1 : ρ' 6 = ρ' 3 := lp_e1 (hPk.2.1 _ (List.mem_cons_self)).1 (hPk.2.1 _ (List.mem_cons_of_mem _ (List.mem_cons_self))).1
  have e2 : ρ' 3 = n := hag 3 (by decide)
  rw [e1, e2] at d3 d4
  exact ⟨⟨_, er⟩, lw_c I hT (by decide +kernel) d3 d4⟩
/-- PlugHall.empty -/
theorem lc_149 {h : ae_H} {n m : Int} (I : lw_T h n m) {x1 : Int} (h1 : sv_I x1) : sv_G (fun r => (∃ x, r.1 = some (wk_i x)) ∧ lw_T r.2 n m) 149 0 (ae_args [wk_r 0, wk_i x1] 0) [] h := by
  obtain ⟨k1, ftape, ty1⟩ := wk_ref (j := 0) I.1 wz_ty0 tT_11 rfl
  rw [tU_9 ty1 wz_ty1] at ftape
  have bn := I.2.2.2.1
  have bm := I.2.2.2.2
  have hPre : sv_Pk sv_ty sv_op (wa_x (fun _ => 0) 0 [0, x1, 1, n]) svC_122.2.2.1 (ae_args [wk_r 0, wk_i x1] 0) h := lp_Pi ⟨by show (0 : Int) ≤ 0 ∧ (0 : Int) ≤ 255; omega, lp_bI h1, by show (0 : Int) ≤ 1 ∧ (1 : Int) ≤ 255; omega, bn.2, trivial⟩ rfl ⟨lp_l1 (k := 0) (by decide) rfl rfl wz_ty0, lp_l0 (by decide) rfl h1, trivial⟩ ⟨wa_F1 (k := 0) (k2 := 1) (by decide) (by decide) rfl wz_ty0 rfl wz_ty1 ftape, wa_F0 (k := 1) (by decide) (by decide) rfl wz_ty1 bn.1 (lp_n bn.2), trivial⟩ trivial trivial
  refine sv_G_mono (fun r hr => ?_) (svC_122_ok (wa_x (fun _ => 0) 0 [0, x1, 1, n]) _ h I.1 hPre)
  obtain ⟨P, hPm, ρ', hag, hPk, hT, -⟩ := hr
  have hPm : P ∈ [(0, [(0, 255), ((-2147483648), 2147483647), (0, 2147483647), (0, 740), ((-2147483648), 2147483647), (0, 255), (0, 740)], [(0, [(3, (-1)), (6, 1)]), (0, [(3, 1), (6, (-1))])], [(1000, (0, 0, (0, [(4, 1)])))], [((0, 11, 0), (1, 9, (0, [(5, 1)]))), ((5, 9, 1), (0, 0, (0, [(6, 1)])))], [], [])] := hPm
  cases List.mem_singleton.mp hPm
  obtain ⟨lr, ir⟩ := wa_loc0 hPk (i := 1000) (s := 4) rfl
  have er := lp_rl lr
  obtain ⟨a1, a2, c1, c2, c3, c4, c5⟩ := wa_fld1 (r := 0) (t := 11) (j := 0) (t2 := 9) (s := 5) hPk (List.mem_cons_self)
  obtain ⟨a3, d1, d2, d3, d4⟩ := wa_fld0 (r := 5) (t := 9) (j := 1) (s := 6) hPk (List.mem_cons_of_mem _ (List.mem_cons_self))
  rw [tU_9 d2 wz_ty1] at d3
  have e1 : ρ' 6 = ρ' 3 := lp_e1 (hPk.2.1 _ (List.mem_cons_self)).1 (hPk.2.1 _ (List.mem_cons_of_mem _ (List.mem_cons_self))).1
  have e2 : ρ' 3 = n := hag 3 (by decide)
  rw [e1, e2] at d3 d4
  exact ⟨⟨_, er⟩, lw_c I hT (by decide +kernel) d3 d4⟩
/-- PlugHall.board -/
theorem lc_150 {h : ae_H} {n m : Int} (I : lw_T h n m)  : sv_G (fun r => (∃ x, r.1 = some (wk_i x)) ∧ lw_T r.2 0 m) 150 0 (ae_args [wk_r 0] 0) [] h := by
  have bn := I.2.2.2.1
  have bm := I.2.2.2.2
  have hPre : sv_Pk sv_ty sv_op (wa_x (fun _ => 0) 0 [0]) svC_147.2.2.1 (ae_args [wk_r 0] 0) h := lp_Pi ⟨by show (0 : Int) ≤ 0 ∧ (0 : Int) ≤ 255; omega, trivial⟩ rfl ⟨lp_l1 (k := 0) (by decide) rfl rfl wz_ty0, trivial⟩ trivial trivial trivial
  refine sv_G_mono (fun r hr => ?_) (svC_147_ok (wa_x (fun _ => 0) 0 [0]) _ h I.1 hPre)
  obtain ⟨P, hPm, ρ', hag, hPk, hT, -⟩ := hr
  have hPm : P ∈ [(0, [(0, 255), ((-2147483648), 2147483647), (0, 255), (0, 0)], [], [(1000, (0, 0, (0, [(1, 1)])))], [((0, 11, 0), (1, 9, (0, [(2, 1)]))), ((2, 9, 1), (0, 0, (0, [(3, 1)])))], [], [])] := hPm
  cases List.mem_singleton.mp hPm
  obtain ⟨lr, ir⟩ := wa_loc0 hPk (i := 1000) (s := 1) rfl
  have er := lp_rl lr
  obtain ⟨a1, a2, c1, c2, c3, c4, c5⟩ := wa_fld1 (r := 0) (t := 11) (j := 0) (t2 := 9) (s := 2) hPk (List.mem_cons_self)
  obtain ⟨a3, d1, d2, d3, d4⟩ := wa_fld0 (r := 2) (t := 9) (j := 1) (s := 3) hPk (List.mem_cons_of_mem _ (List.mem_cons_self))
  rw [tU_9 d2 wz_ty1] at d3
  have e1 : 0 ≤ ρ' 3 ∧ ρ' 3 ≤ 0 := hPk.1 3 (0, 0) rfl
  have e2 : ρ' 3 = 0 := by omega
  rw [e2] at d3 d4
  exact ⟨⟨_, er⟩, lw_c I hT (by decide +kernel) d3 d4⟩
/-- PlugHall.fault -/
theorem lc_151 {h : ae_H} {n m : Int} (I : lw_T h n m)  : sv_G (fun r => (∃ x, r.1 = some (wk_i x)) ∧ lw_T r.2 n m) 151 0 (ae_args [wk_r 0] 0) [] h := by
  obtain ⟨k1, ftape, ty1⟩ := wk_ref (j := 0) I.1 wz_ty0 tT_11 rfl
  rw [tU_9 ty1 wz_ty1] at ftape
  have bn := I.2.2.2.1
  have bm := I.2.2.2.2
  have hPre : sv_Pk sv_ty sv_op (wa_x (fun _ => 0) 0 [0, 1, n]) svC_123.2.2.1 (ae_args [wk_r 0] 0) h := lp_Pi ⟨by show (0 : Int) ≤ 0 ∧ (0 : Int) ≤ 255; omega, by show (0 : Int) ≤ 1 ∧ (1 : Int) ≤ 255; omega, bn.2, trivial⟩ rfl ⟨lp_l1 (k := 0) (by decide) rfl rfl wz_ty0, trivial⟩ ⟨wa_F1 (k := 0) (k2 := 1) (by decide) (by decide) rfl wz_ty0 rfl wz_ty1 ftape, wa_F0 (k := 1) (by decide) (by decide) rfl wz_ty1 bn.1 (lp_n bn.2), trivial⟩ trivial trivial
  refine sv_G_mono (fun r hr => ?_) (svC_123_ok (wa_x (fun _ => 0) 0 [0, 1, n]) _ h I.1 hPre)
  obtain ⟨P, hPm, ρ', hag, hPk, hT, -⟩ := hr
  have hPm : P ∈ [(0, [(0, 255), (0, 2147483647), (0, 740), ((-2147483648), 2147483647), (0, 255), (0, 740)], [(0, [(2, (-1)), (5, 1)]), (0, [(2, 1), (5, (-1))])], [(1000, (0, 0, (0, [(3, 1)])))], [((0, 11, 0), (1, 9, (0, [(4, 1)]))), ((4, 9, 1), (0, 0, (0, [(5, 1)])))], [], [])] := hPm
  cases List.mem_singleton.mp hPm
  obtain ⟨lr, ir⟩ := wa_loc0 hPk (i := 1000) (s := 3) rfl
  have er := lp_rl lr
  obtain ⟨a1, a2, c1, c2, c3, c4, c5⟩ := wa_fld1 (r := 0) (t := 11) (j := 0) (t2 := 9) (s := 4) hPk (List.mem_cons_self)
  obtain ⟨a3, d1, d2, d3, d4⟩ := wa_fld0 (r := 4) (t := 9) (j := 1) (s := 5) hPk (List.mem_cons_of_mem _ (List.mem_cons_self))
  rw [tU_9 d2 wz_ty1] at d3
  have e1 : ρ' 5 = ρ' 2 := lp_e1 (hPk.2.1 _ (List.mem_cons_self)).1 (hPk.2.1 _ (List.mem_cons_of_mem _ (List.mem_cons_self))).1
  have e2 : ρ' 2 = n := hag 2 (by decide)
  rw [e1, e2] at d3 d4
  exact ⟨⟨_, er⟩, lw_c I hT (by decide +kernel) d3 d4⟩
/-- PlugHall.run -/
theorem lc_152 {h : ae_H} {n m : Int} (I : lw_T h n m) {x1 : Int} (h1 : sv_I x1) {x2 : Int} (h2 : sv_I x2) : sv_G (fun r => (∃ x, r.1 = some (wk_i x)) ∧ lw_T r.2 n m) 152 0 (ae_args [wk_r 0, wk_i x1, wk_i x2] 0) [] h := by
  obtain ⟨k1, ftape, ty1⟩ := wk_ref (j := 0) I.1 wz_ty0 tT_11 rfl
  rw [tU_9 ty1 wz_ty1] at ftape
  have bn := I.2.2.2.1
  have bm := I.2.2.2.2
  have hPre : sv_Pk sv_ty sv_op (wa_x (fun _ => 0) 0 [0, x1, x2, 1, n]) svC_124.2.2.1 (ae_args [wk_r 0, wk_i x1, wk_i x2] 0) h := lp_Pi ⟨by show (0 : Int) ≤ 0 ∧ (0 : Int) ≤ 255; omega, lp_bI h1, lp_bI h2, by show (0 : Int) ≤ 1 ∧ (1 : Int) ≤ 255; omega, bn.2, trivial⟩ rfl ⟨lp_l1 (k := 0) (by decide) rfl rfl wz_ty0, lp_l0 (by decide) rfl h1, lp_l0 (by decide) rfl h2, trivial⟩ ⟨wa_F1 (k := 0) (k2 := 1) (by decide) (by decide) rfl wz_ty0 rfl wz_ty1 ftape, wa_F0 (k := 1) (by decide) (by decide) rfl wz_ty1 bn.1 (lp_n bn.2), trivial⟩ trivial trivial
  refine sv_G_mono (fun r hr => ?_) (svC_124_ok (wa_x (fun _ => 0) 0 [0, x1, x2, 1, n]) _ h I.1 hPre)
  obtain ⟨P, hPm, ρ', hag, hPk, hT, -⟩ := hr
  have hPm : P ∈ [(0, [(0, 255), ((-2147483648), 2147483647), ((-2147483648), 2147483647), (0, 2147483647), (0, 740), ((-2147483648), 2147483647), (0, 255), (0, 740)], [(0, [(4, (-1)), (7, 1)]), (0, [(4, 1), (7, (-1))])], [(1000, (0, 0, (0, [(5, 1)])))], [((0, 11, 0), (1, 9, (0, [(6, 1)]))), ((6, 9, 1), (0, 0, (0, [(7, 1)])))], [], [])] := hPm
  cases List.mem_singleton.mp hPm
  obtain ⟨lr, ir⟩ := wa_loc0 hPk (i := 1000) (s := 5) rfl
  have er := lp_rl lr
  obtain ⟨a1, a2, c1, c2, c3, c4, c5⟩ := wa_fld1 (r := 0) (t := 11) (j := 0) (t2 := 9) (s := 6) hPk (List.mem_cons_self)
  obtain ⟨a3, d1, d2, d3, d4⟩ := wa_fld0 (r := 6) (t := 9) (j := 1) (s := 7) hPk (List.mem_cons_of_mem _ (List.mem_cons_self))
  rw [tU_9 d2 wz_ty1] at d3
  have e1 : ρ' 7 = ρ' 4 := lp_e1 (hPk.2.1 _ (List.mem_cons_self)).1 (hPk.2.1 _ (List.mem_cons_of_mem _ (List.mem_cons_self))).1
  have e2 : ρ' 4 = n := hag 4 (by decide)
  rw [e1, e2] at d3 d4
  exact ⟨⟨_, er⟩, lw_c I hT (by decide +kernel) d3 d4⟩
/-- PlugHall.ran -/
theorem lc_153 {h : ae_H} {n m : Int} (I : lw_T h n m) {x1 : Int} (h1 : sv_I x1) : sv_G (fun r => (∃ x, r.1 = some (wk_i x)) ∧ lw_T r.2 n m) 153 0 (ae_args [wk_r 0, wk_i x1] 0) [] h := by
  obtain ⟨k1, ftape, ty1⟩ := wk_ref (j := 0) I.1 wz_ty0 tT_11 rfl
  rw [tU_9 ty1 wz_ty1] at ftape
  have bn := I.2.2.2.1
  have bm := I.2.2.2.2
  have hPre : sv_Pk sv_ty sv_op (wa_x (fun _ => 0) 0 [0, x1, 1, n]) svC_125.2.2.1 (ae_args [wk_r 0, wk_i x1] 0) h := lp_Pi ⟨by show (0 : Int) ≤ 0 ∧ (0 : Int) ≤ 255; omega, lp_bI h1, by show (0 : Int) ≤ 1 ∧ (1 : Int) ≤ 255; omega, bn.2, trivial⟩ rfl ⟨lp_l1 (k := 0) (by decide) rfl rfl wz_ty0, lp_l0 (by decide) rfl h1, trivial⟩ ⟨wa_F1 (k := 0) (k2 := 1) (by decide) (by decide) rfl wz_ty0 rfl wz_ty1 ftape, wa_F0 (k := 1) (by decide) (by decide) rfl wz_ty1 bn.1 (lp_n bn.2), trivial⟩ trivial trivial
  refine sv_G_mono (fun r hr => ?_) (svC_125_ok (wa_x (fun _ => 0) 0 [0, x1, 1, n]) _ h I.1 hPre)
  obtain ⟨P, hPm, ρ', hag, hPk, hT, -⟩ := hr
  have hPm : P ∈ [(0, [(0, 255), ((-2147483648), 2147483647), (0, 2147483647), (0, 740), ((-2147483648), 2147483647), (0, 255), (0, 740)], [(0, [(3, (-1)), (6, 1)]), (0, [(3, 1), (6, (-1))])], [(1000, (0, 0, (0, [(4, 1)])))], [((0, 11, 0), (1, 9, (0, [(5, 1)]))), ((5, 9, 1), (0, 0, (0, [(6, 1)])))], [], [])] := hPm
  cases List.mem_singleton.mp hPm
  obtain ⟨lr, ir⟩ := wa_loc0 hPk (i := 1000) (s := 4) rfl
  have er := lp_rl lr
  obtain ⟨a1, a2, c1, c2, c3, c4, c5⟩ := wa_fld1 (r := 0) (t := 11) (j := 0) (t2 := 9) (s := 5) hPk (List.mem_cons_self)
  obtain ⟨a3, d1, d2, d3, d4⟩ := wa_fld0 (r := 5) (t := 9) (j := 1) (s := 6) hPk (List.mem_cons_of_mem _ (List.mem_cons_self))
  rw [tU_9 d2 wz_ty1] at d3
  have e1 : ρ' 6 = ρ' 3 := lp_e1 (hPk.2.1 _ (List.mem_cons_self)).1 (hPk.2.1 _ (List.mem_cons_of_mem _ (List.mem_cons_self))).1
  have e2 : ρ' 3 = n := hag 3 (by decide)
  rw [e1, e2] at d3 d4
  exact ⟨⟨_, er⟩, lw_c I hT (by decide +kernel) d3 d4⟩
/-- PlugHall.pass -/
theorem lc_156 {h : ae_H} {n m : Int} (I : lw_T h n m) {x1 : Int} (h1 : sv_I x1) {x2 : Int} (h2 : sv_I x2) : sv_G (fun r => (∃ x, r.1 = some (wk_i x)) ∧ lw_T r.2 n m) 156 0 (ae_args [wk_r 0, wk_i x1, wk_i x2] 0) [] h := by
  obtain ⟨k1, ftape, ty1⟩ := wk_ref (j := 0) I.1 wz_ty0 tT_11 rfl
  rw [tU_9 ty1 wz_ty1] at ftape
  have bn := I.2.2.2.1
  have bm := I.2.2.2.2
  have hPre : sv_Pk sv_ty sv_op (wa_x (fun _ => 0) 0 [0, x1, x2, 1, n]) svC_126.2.2.1 (ae_args [wk_r 0, wk_i x1, wk_i x2] 0) h := lp_Pi ⟨by show (0 : Int) ≤ 0 ∧ (0 : Int) ≤ 255; omega, lp_bI h1, lp_bI h2, by show (0 : Int) ≤ 1 ∧ (1 : Int) ≤ 255; omega, bn.2, trivial⟩ rfl ⟨lp_l1 (k := 0) (by decide) rfl rfl wz_ty0, lp_l0 (by decide) rfl h1, lp_l0 (by decide) rfl h2, trivial⟩ ⟨wa_F1 (k := 0) (k2 := 1) (by decide) (by decide) rfl wz_ty0 rfl wz_ty1 ftape, wa_F0 (k := 1) (by decide) (by decide) rfl wz_ty1 bn.1 (lp_n bn.2), trivial⟩ trivial trivial
  refine sv_G_mono (fun r hr => ?_) (svC_126_ok (wa_x (fun _ => 0) 0 [0, x1, x2, 1, n]) _ h I.1 hPre)
  obtain ⟨P, hPm, ρ', hag, hPk, hT, -⟩ := hr
  have hPm : P ∈ [(0, [(0, 255), ((-2147483648), 2147483647), ((-2147483648), 2147483647), (0, 2147483647), (0, 740), (0, 1), (0, 255), (0, 740)], [(0, [(4, (-1)), (7, 1)]), (0, [(4, 1), (7, (-1))])], [(1000, (0, 0, (0, [(5, 1)])))], [((0, 11, 0), (1, 9, (0, [(6, 1)]))), ((6, 9, 1), (0, 0, (0, [(7, 1)])))], [], [])] := hPm
  cases List.mem_singleton.mp hPm
  obtain ⟨lr, ir⟩ := wa_loc0 hPk (i := 1000) (s := 5) rfl
  have er := lp_rl lr
  obtain ⟨a1, a2, c1, c2, c3, c4, c5⟩ := wa_fld1 (r := 0) (t := 11) (j := 0) (t2 := 9) (s := 6) hPk (List.mem_cons_self)
  obtain ⟨a3, d1, d2, d3, d4⟩ := wa_fld0 (r := 6) (t := 9) (j := 1) (s := 7) hPk (List.mem_cons_of_mem _ (List.mem_cons_self))
  rw [tU_9 d2 wz_ty1] at d3
  have e1 : ρ' 7 = ρ' 4 := lp_e1 (hPk.2.1 _ (List.mem_cons_self)).1 (hPk.2.1 _ (List.mem_cons_of_mem _ (List.mem_cons_self))).1
  have e2 : ρ' 4 = n := hag 4 (by decide)
  rw [e1, e2] at d3 d4
  exact ⟨⟨_, er⟩, lw_c I hT (by decide +kernel) d3 d4⟩
/-- PlugHall.idle -/
theorem lc_157 {h : ae_H} {n m : Int} (I : lw_T h n m) {x1 : Int} (h1 : sv_I x1) : sv_G (fun r => (∃ x, r.1 = some (wk_i x)) ∧ lw_T r.2 n m) 157 0 (ae_args [wk_r 0, wk_i x1] 0) [] h := by
  obtain ⟨k1, ftape, ty1⟩ := wk_ref (j := 0) I.1 wz_ty0 tT_11 rfl
  rw [tU_9 ty1 wz_ty1] at ftape
  have bn := I.2.2.2.1
  have bm := I.2.2.2.2
  have hPre : sv_Pk sv_ty sv_op (wa_x (fun _ => 0) 0 [0, x1, 1, n]) svC_127.2.2.1 (ae_args [wk_r 0, wk_i x1] 0) h := lp_Pi ⟨by show (0 : Int) ≤ 0 ∧ (0 : Int) ≤ 255; omega, lp_bI h1, by show (0 : Int) ≤ 1 ∧ (1 : Int) ≤ 255; omega, bn.2, trivial⟩ rfl ⟨lp_l1 (k := 0) (by decide) rfl rfl wz_ty0, lp_l0 (by decide) rfl h1, trivial⟩ ⟨wa_F1 (k := 0) (k2 := 1) (by decide) (by decide) rfl wz_ty0 rfl wz_ty1 ftape, wa_F0 (k := 1) (by decide) (by decide) rfl wz_ty1 bn.1 (lp_n bn.2), trivial⟩ trivial trivial
  refine sv_G_mono (fun r hr => ?_) (svC_127_ok (wa_x (fun _ => 0) 0 [0, x1, 1, n]) _ h I.1 hPre)
  obtain ⟨P, hPm, ρ', hag, hPk, hT, -⟩ := hr
  have hPm : P ∈ [(0, [(0, 255), ((-2147483648), 2147483647), (0, 2147483647), (0, 740), ((-2147483648), 2147483647), (0, 255), (0, 740)], [(0, [(3, (-1)), (6, 1)]), (0, [(3, 1), (6, (-1))])], [(1000, (0, 0, (0, [(4, 1)])))], [((0, 11, 0), (1, 9, (0, [(5, 1)]))), ((5, 9, 1), (0, 0, (0, [(6, 1)])))], [], [])] := hPm
  cases List.mem_singleton.mp hPm
  obtain ⟨lr, ir⟩ := wa_loc0 hPk (i := 1000) (s := 4) rfl
  have er := lp_rl lr
  obtain ⟨a1, a2, c1, c2, c3, c4, c5⟩ := wa_fld1 (r := 0) (t := 11) (j := 0) (t2 := 9) (s := 5) hPk (List.mem_cons_self)
  obtain ⟨a3, d1, d2, d3, d4⟩ := wa_fld0 (r := 5) (t := 9) (j := 1) (s := 6) hPk (List.mem_cons_of_mem _ (List.mem_cons_self))
  rw [tU_9 d2 wz_ty1] at d3
  have e1 : ρ' 6 = ρ' 3 := lp_e1 (hPk.2.1 _ (List.mem_cons_self)).1 (hPk.2.1 _ (List.mem_cons_of_mem _ (List.mem_cons_self))).1
  have e2 : ρ' 3 = n := hag 3 (by decide)
  rw [e1, e2] at d3 d4
  exact ⟨⟨_, er⟩, lw_c I hT (by decide +kernel) d3 d4⟩
/-- PlugHall.missing -/
theorem lc_158 {h : ae_H} {n m : Int} (I : lw_T h n m) {x1 : Int} (h1 : sv_I x1) : sv_G (fun r => (∃ x, r.1 = some (wk_i x)) ∧ lw_T r.2 0 m) 158 0 (ae_args [wk_r 0, wk_i x1] 0) [] h := by
  have bn := I.2.2.2.1
  have bm := I.2.2.2.2
  have hPre : sv_Pk sv_ty sv_op (wa_x (fun _ => 0) 0 [0, x1]) svC_148.2.2.1 (ae_args [wk_r 0, wk_i x1] 0) h := lp_Pi ⟨by show (0 : Int) ≤ 0 ∧ (0 : Int) ≤ 255; omega, lp_bI h1, trivial⟩ rfl ⟨lp_l1 (k := 0) (by decide) rfl rfl wz_ty0, lp_l0 (by decide) rfl h1, trivial⟩ trivial trivial trivial
  refine sv_G_mono (fun r hr => ?_) (svC_148_ok (wa_x (fun _ => 0) 0 [0, x1]) _ h I.1 hPre)
  obtain ⟨P, hPm, ρ', hag, hPk, hT, -⟩ := hr
  have hPm : P ∈ [(0, [(0, 255), ((-2147483648), 2147483647), ((-2147483648), 2147483647), (0, 255), (0, 0)], [], [(1000, (0, 0, (0, [(2, 1)])))], [((0, 11, 0), (1, 9, (0, [(3, 1)]))), ((3, 9, 1), (0, 0, (0, [(4, 1)])))], [], [])] := hPm
  cases List.mem_singleton.mp hPm
  obtain ⟨lr, ir⟩ := wa_loc0 hPk (i := 1000) (s := 2) rfl
  have er := lp_rl lr
  obtain ⟨a1, a2, c1, c2, c3, c4, c5⟩ := wa_fld1 (r := 0) (t := 11) (j := 0) (t2 := 9) (s := 3) hPk (List.mem_cons_self)
  obtain ⟨a3, d1, d2, d3, d4⟩ := wa_fld0 (r := 3) (t := 9) (j := 1) (s := 4) hPk (List.mem_cons_of_mem _ (List.mem_cons_self))
  rw [tU_9 d2 wz_ty1] at d3
  have e1 : 0 ≤ ρ' 4 ∧ ρ' 4 ≤ 0 := hPk.1 4 (0, 0) rfl
  have e2 : ρ' 4 = 0 := by omega
  rw [e2] at d3 d4
  exact ⟨⟨_, er⟩, lw_c I hT (by decide +kernel) d3 d4⟩
/-- PlugHall.wire -/
theorem lc_159 {h : ae_H} {n m : Int} (I : lw_T h n m) {x1 : Int} (h1 : sv_I x1) : sv_G (fun r => (∃ x, r.1 = some (wk_i x)) ∧ lw_T r.2 n m) 159 0 (ae_args [wk_r 0, wk_i x1] 0) [] h := by
  obtain ⟨k1, ftape, ty1⟩ := wk_ref (j := 0) I.1 wz_ty0 tT_11 rfl
  rw [tU_9 ty1 wz_ty1] at ftape
  have bn := I.2.2.2.1
  have bm := I.2.2.2.2
  have hPre : sv_Pk sv_ty sv_op (wa_x (fun _ => 0) 0 [0, x1, 1, n]) svC_128.2.2.1 (ae_args [wk_r 0, wk_i x1] 0) h := lp_Pi ⟨by show (0 : Int) ≤ 0 ∧ (0 : Int) ≤ 255; omega, lp_bI h1, by show (0 : Int) ≤ 1 ∧ (1 : Int) ≤ 255; omega, bn.2, trivial⟩ rfl ⟨lp_l1 (k := 0) (by decide) rfl rfl wz_ty0, lp_l0 (by decide) rfl h1, trivial⟩ ⟨wa_F1 (k := 0) (k2 := 1) (by decide) (by decide) rfl wz_ty0 rfl wz_ty1 ftape, wa_F0 (k := 1) (by decide) (by decide) rfl wz_ty1 bn.1 (lp_n bn.2), trivial⟩ trivial trivial
  refine sv_G_mono (fun r hr => ?_) (svC_128_ok (wa_x (fun _ => 0) 0 [0, x1, 1, n]) _ h I.1 hPre)
  obtain ⟨P, hPm, ρ', hag, hPk, hT, -⟩ := hr
  have hPm : P ∈ [(0, [(0, 255), ((-2147483648), 2147483647), (0, 2147483647), (0, 740), ((-2147483648), 2147483647), (0, 255), (0, 740)], [(0, [(3, (-1)), (6, 1)]), (0, [(3, 1), (6, (-1))])], [(1000, (0, 0, (0, [(4, 1)])))], [((0, 11, 0), (1, 9, (0, [(5, 1)]))), ((5, 9, 1), (0, 0, (0, [(6, 1)])))], [], [])] := hPm
  cases List.mem_singleton.mp hPm
  obtain ⟨lr, ir⟩ := wa_loc0 hPk (i := 1000) (s := 4) rfl
  have er := lp_rl lr
  obtain ⟨a1, a2, c1, c2, c3, c4, c5⟩ := wa_fld1 (r := 0) (t := 11) (j := 0) (t2 := 9) (s := 5) hPk (List.mem_cons_self)
  obtain ⟨a3, d1, d2, d3, d4⟩ := wa_fld0 (r := 5) (t := 9) (j := 1) (s := 6) hPk (List.mem_cons_of_mem _ (List.mem_cons_self))
  rw [tU_9 d2 wz_ty1] at d3
  have e1 : ρ' 6 = ρ' 3 := lp_e1 (hPk.2.1 _ (List.mem_cons_self)).1 (hPk.2.1 _ (List.mem_cons_of_mem _ (List.mem_cons_self))).1
  have e2 : ρ' 3 = n := hag 3 (by decide)
  rw [e1, e2] at d3 d4
  exact ⟨⟨_, er⟩, lw_c I hT (by decide +kernel) d3 d4⟩
/-- PlugHall.tests -/
theorem lc_160 {h : ae_H} {n m : Int} (I : lw_T h n m) {x1 : Int} (h1 : sv_I x1) : sv_G (fun r => (∃ x, r.1 = some (wk_i x)) ∧ lw_T r.2 n m) 160 0 (ae_args [wk_r 0, wk_i x1] 0) [] h := by
  obtain ⟨k1, ftape, ty1⟩ := wk_ref (j := 0) I.1 wz_ty0 tT_11 rfl
  rw [tU_9 ty1 wz_ty1] at ftape
  have bn := I.2.2.2.1
  have bm := I.2.2.2.2
  have hPre : sv_Pk sv_ty sv_op (wa_x (fun _ => 0) 0 [0, x1, 1, n]) svC_129.2.2.1 (ae_args [wk_r 0, wk_i x1] 0) h := lp_Pi ⟨by show (0 : Int) ≤ 0 ∧ (0 : Int) ≤ 255; omega, lp_bI h1, by show (0 : Int) ≤ 1 ∧ (1 : Int) ≤ 255; omega, bn.2, trivial⟩ rfl ⟨lp_l1 (k := 0) (by decide) rfl rfl wz_ty0, lp_l0 (by decide) rfl h1, trivial⟩ ⟨wa_F1 (k := 0) (k2 := 1) (by decide) (by decide) rfl wz_ty0 rfl wz_ty1 ftape, wa_F0 (k := 1) (by decide) (by decide) rfl wz_ty1 bn.1 (lp_n bn.2), trivial⟩ trivial trivial
  refine sv_G_mono (fun r hr => ?_) (svC_129_ok (wa_x (fun _ => 0) 0 [0, x1, 1, n]) _ h I.1 hPre)
  obtain ⟨P, hPm, ρ', hag, hPk, hT, -⟩ := hr
  have hPm : P ∈ [(0, [(0, 255), ((-2147483648), 2147483647), (0, 2147483647), (0, 740), ((-2147483648), 2147483647), (0, 255), (0, 740)], [(0, [(3, (-1)), (6, 1)]), (0, [(3, 1), (6, (-1))])], [(1000, (0, 0, (0, [(4, 1)])))], [((0, 11, 0), (1, 9, (0, [(5, 1)]))), ((5, 9, 1), (0, 0, (0, [(6, 1)])))], [], [])] := hPm
  cases List.mem_singleton.mp hPm
  obtain ⟨lr, ir⟩ := wa_loc0 hPk (i := 1000) (s := 4) rfl
  have er := lp_rl lr
  obtain ⟨a1, a2, c1, c2, c3, c4, c5⟩ := wa_fld1 (r := 0) (t := 11) (j := 0) (t2 := 9) (s := 5) hPk (List.mem_cons_self)
  obtain ⟨a3, d1, d2, d3, d4⟩ := wa_fld0 (r := 5) (t := 9) (j := 1) (s := 6) hPk (List.mem_cons_of_mem _ (List.mem_cons_self))
  rw [tU_9 d2 wz_ty1] at d3
  have e1 : ρ' 6 = ρ' 3 := lp_e1 (hPk.2.1 _ (List.mem_cons_self)).1 (hPk.2.1 _ (List.mem_cons_of_mem _ (List.mem_cons_self))).1
  have e2 : ρ' 3 = n := hag 3 (by decide)
  rw [e1, e2] at d3 d4
  exact ⟨⟨_, er⟩, lw_c I hT (by decide +kernel) d3 d4⟩
/-- PlugHall.testSet -/
theorem lc_161 {h : ae_H} {n m : Int} (I : lw_T h n m)  : sv_G (fun r => (∃ x, r.1 = some (wk_i x)) ∧ lw_T r.2 n m) 161 0 (ae_args [wk_r 0] 0) [] h := by
  obtain ⟨k1, ftape, ty1⟩ := wk_ref (j := 0) I.1 wz_ty0 tT_11 rfl
  rw [tU_9 ty1 wz_ty1] at ftape
  have bn := I.2.2.2.1
  have bm := I.2.2.2.2
  have hPre : sv_Pk sv_ty sv_op (wa_x (fun _ => 0) 0 [0, 1, n]) svC_130.2.2.1 (ae_args [wk_r 0] 0) h := lp_Pi ⟨by show (0 : Int) ≤ 0 ∧ (0 : Int) ≤ 255; omega, by show (0 : Int) ≤ 1 ∧ (1 : Int) ≤ 255; omega, bn.2, trivial⟩ rfl ⟨lp_l1 (k := 0) (by decide) rfl rfl wz_ty0, trivial⟩ ⟨wa_F1 (k := 0) (k2 := 1) (by decide) (by decide) rfl wz_ty0 rfl wz_ty1 ftape, wa_F0 (k := 1) (by decide) (by decide) rfl wz_ty1 bn.1 (lp_n bn.2), trivial⟩ trivial trivial
  refine sv_G_mono (fun r hr => ?_) (svC_130_ok (wa_x (fun _ => 0) 0 [0, 1, n]) _ h I.1 hPre)
  obtain ⟨P, hPm, ρ', hag, hPk, hT, -⟩ := hr
  have hPm : P ∈ [(0, [(0, 255), (0, 2147483647), (0, 740), ((-2147483648), 2147483647), (0, 255), (0, 740)], [(0, [(2, (-1)), (5, 1)]), (0, [(2, 1), (5, (-1))])], [(1000, (0, 0, (0, [(3, 1)])))], [((0, 11, 0), (1, 9, (0, [(4, 1)]))), ((4, 9, 1), (0, 0, (0, [(5, 1)])))], [], [])] := hPm
  cases List.mem_singleton.mp hPm
  obtain ⟨lr, ir⟩ := wa_loc0 hPk (i := 1000) (s := 3) rfl
  have er := lp_rl lr
  obtain ⟨a1, a2, c1, c2, c3, c4, c5⟩ := wa_fld1 (r := 0) (t := 11) (j := 0) (t2 := 9) (s := 4) hPk (List.mem_cons_self)
  obtain ⟨a3, d1, d2, d3, d4⟩ := wa_fld0 (r := 4) (t := 9) (j := 1) (s := 5) hPk (List.mem_cons_of_mem _ (List.mem_cons_self))
  rw [tU_9 d2 wz_ty1] at d3
  have e1 : ρ' 5 = ρ' 2 := lp_e1 (hPk.2.1 _ (List.mem_cons_self)).1 (hPk.2.1 _ (List.mem_cons_of_mem _ (List.mem_cons_self))).1
  have e2 : ρ' 2 = n := hag 2 (by decide)
  rw [e1, e2] at d3 d4
  exact ⟨⟨_, er⟩, lw_c I hT (by decide +kernel) d3 d4⟩
/-- PlugHall.shown -/
theorem lc_162 {h : ae_H} {n m : Int} (I : lw_T h n m)  : sv_G (fun r => (∃ x, r.1 = some (wk_i x)) ∧ lw_T r.2 n m) 162 0 (ae_args [wk_r 0] 0) [] h := by
  obtain ⟨k1, ftape, ty1⟩ := wk_ref (j := 0) I.1 wz_ty0 tT_11 rfl
  rw [tU_9 ty1 wz_ty1] at ftape
  have bn := I.2.2.2.1
  have bm := I.2.2.2.2
  have hPre : sv_Pk sv_ty sv_op (wa_x (fun _ => 0) 0 [0, 1, n]) svC_131.2.2.1 (ae_args [wk_r 0] 0) h := lp_Pi ⟨by show (0 : Int) ≤ 0 ∧ (0 : Int) ≤ 255; omega, by show (0 : Int) ≤ 1 ∧ (1 : Int) ≤ 255; omega, bn.2, trivial⟩ rfl ⟨lp_l1 (k := 0) (by decide) rfl rfl wz_ty0, trivial⟩ ⟨wa_F1 (k := 0) (k2 := 1) (by decide) (by decide) rfl wz_ty0 rfl wz_ty1 ftape, wa_F0 (k := 1) (by decide) (by decide) rfl wz_ty1 bn.1 (lp_n bn.2), trivial⟩ trivial trivial
  refine sv_G_mono (fun r hr => ?_) (svC_131_ok (wa_x (fun _ => 0) 0 [0, 1, n]) _ h I.1 hPre)
  obtain ⟨P, hPm, ρ', hag, hPk, hT, -⟩ := hr
  have hPm : P ∈ [(0, [(0, 255), (0, 2147483647), (0, 740), ((-2147483648), 2147483647), (0, 255), (0, 740)], [(0, [(2, (-1)), (5, 1)]), (0, [(2, 1), (5, (-1))])], [(1000, (0, 0, (0, [(3, 1)])))], [((0, 11, 0), (1, 9, (0, [(4, 1)]))), ((4, 9, 1), (0, 0, (0, [(5, 1)])))], [], [])] := hPm
  cases List.mem_singleton.mp hPm
  obtain ⟨lr, ir⟩ := wa_loc0 hPk (i := 1000) (s := 3) rfl
  have er := lp_rl lr
  obtain ⟨a1, a2, c1, c2, c3, c4, c5⟩ := wa_fld1 (r := 0) (t := 11) (j := 0) (t2 := 9) (s := 4) hPk (List.mem_cons_self)
  obtain ⟨a3, d1, d2, d3, d4⟩ := wa_fld0 (r := 4) (t := 9) (j := 1) (s := 5) hPk (List.mem_cons_of_mem _ (List.mem_cons_self))
  rw [tU_9 d2 wz_ty1] at d3
  have e1 : ρ' 5 = ρ' 2 := lp_e1 (hPk.2.1 _ (List.mem_cons_self)).1 (hPk.2.1 _ (List.mem_cons_of_mem _ (List.mem_cons_self))).1
  have e2 : ρ' 2 = n := hag 2 (by decide)
  rw [e1, e2] at d3 d4
  exact ⟨⟨_, er⟩, lw_c I hT (by decide +kernel) d3 d4⟩
/-- PlugHall.runs -/
theorem lc_164 {h : ae_H} {n m : Int} (I : lw_T h n m)  : sv_G (fun r => (∃ x, r.1 = some (wk_i x)) ∧ lw_T r.2 n m) 164 0 (ae_args [wk_r 0] 0) [] h := by
  obtain ⟨k1, ftape, ty1⟩ := wk_ref (j := 0) I.1 wz_ty0 tT_11 rfl
  rw [tU_9 ty1 wz_ty1] at ftape
  have bn := I.2.2.2.1
  have bm := I.2.2.2.2
  have hPre : sv_Pk sv_ty sv_op (wa_x (fun _ => 0) 0 [0, 1, n]) svC_132.2.2.1 (ae_args [wk_r 0] 0) h := lp_Pi ⟨by show (0 : Int) ≤ 0 ∧ (0 : Int) ≤ 255; omega, by show (0 : Int) ≤ 1 ∧ (1 : Int) ≤ 255; omega, bn.2, trivial⟩ rfl ⟨lp_l1 (k := 0) (by decide) rfl rfl wz_ty0, trivial⟩ ⟨wa_F1 (k := 0) (k2 := 1) (by decide) (by decide) rfl wz_ty0 rfl wz_ty1 ftape, wa_F0 (k := 1) (by decide) (by decide) rfl wz_ty1 bn.1 (lp_n bn.2), trivial⟩ trivial trivial
  refine sv_G_mono (fun r hr => ?_) (svC_132_ok (wa_x (fun _ => 0) 0 [0, 1, n]) _ h I.1 hPre)
  obtain ⟨P, hPm, ρ', hag, hPk, hT, -⟩ := hr
  have hPm : P ∈ [(0, [(0, 255), (0, 2147483647), (0, 740), ((-2147483648), 2147483647), (0, 255), (0, 740)], [(0, [(2, (-1)), (5, 1)]), (0, [(2, 1), (5, (-1))])], [(1000, (0, 0, (0, [(3, 1)])))], [((0, 11, 0), (1, 9, (0, [(4, 1)]))), ((4, 9, 1), (0, 0, (0, [(5, 1)])))], [], [])] := hPm
  cases List.mem_singleton.mp hPm
  obtain ⟨lr, ir⟩ := wa_loc0 hPk (i := 1000) (s := 3) rfl
  have er := lp_rl lr
  obtain ⟨a1, a2, c1, c2, c3, c4, c5⟩ := wa_fld1 (r := 0) (t := 11) (j := 0) (t2 := 9) (s := 4) hPk (List.mem_cons_self)
  obtain ⟨a3, d1, d2, d3, d4⟩ := wa_fld0 (r := 4) (t := 9) (j := 1) (s := 5) hPk (List.mem_cons_of_mem _ (List.mem_cons_self))
  rw [tU_9 d2 wz_ty1] at d3
  have e1 : ρ' 5 = ρ' 2 := lp_e1 (hPk.2.1 _ (List.mem_cons_self)).1 (hPk.2.1 _ (List.mem_cons_of_mem _ (List.mem_cons_self))).1
  have e2 : ρ' 2 = n := hag 2 (by decide)
  rw [e1, e2] at d3 d4
  exact ⟨⟨_, er⟩, lw_c I hT (by decide +kernel) d3 d4⟩
/-- PlugHall.wants -/
theorem lc_165 {h : ae_H} {n m : Int} (I : lw_T h n m) {x1 : Int} (h1 : sv_I x1) : sv_G (fun r => (∃ x, r.1 = some (wk_i x)) ∧ lw_T r.2 n m) 165 0 (ae_args [wk_r 0, wk_i x1] 0) [] h := by
  obtain ⟨k1, ftape, ty1⟩ := wk_ref (j := 0) I.1 wz_ty0 tT_11 rfl
  rw [tU_9 ty1 wz_ty1] at ftape
  have bn := I.2.2.2.1
  have bm := I.2.2.2.2
  have hPre : sv_Pk sv_ty sv_op (wa_x (fun _ => 0) 0 [0, x1, 1, n]) svC_133.2.2.1 (ae_args [wk_r 0, wk_i x1] 0) h := lp_Pi ⟨by show (0 : Int) ≤ 0 ∧ (0 : Int) ≤ 255; omega, lp_bI h1, by show (0 : Int) ≤ 1 ∧ (1 : Int) ≤ 255; omega, bn.2, trivial⟩ rfl ⟨lp_l1 (k := 0) (by decide) rfl rfl wz_ty0, lp_l0 (by decide) rfl h1, trivial⟩ ⟨wa_F1 (k := 0) (k2 := 1) (by decide) (by decide) rfl wz_ty0 rfl wz_ty1 ftape, wa_F0 (k := 1) (by decide) (by decide) rfl wz_ty1 bn.1 (lp_n bn.2), trivial⟩ trivial trivial
  refine sv_G_mono (fun r hr => ?_) (svC_133_ok (wa_x (fun _ => 0) 0 [0, x1, 1, n]) _ h I.1 hPre)
  obtain ⟨P, hPm, ρ', hag, hPk, hT, -⟩ := hr
  have hPm : P ∈ [(0, [(0, 255), ((-2147483648), 2147483647), (0, 2147483647), (0, 740), ((-2147483648), 2147483647), (0, 255), (0, 740)], [(0, [(3, (-1)), (6, 1)]), (0, [(3, 1), (6, (-1))])], [(1000, (0, 0, (0, [(4, 1)])))], [((0, 11, 0), (1, 9, (0, [(5, 1)]))), ((5, 9, 1), (0, 0, (0, [(6, 1)])))], [], [])] := hPm
  cases List.mem_singleton.mp hPm
  obtain ⟨lr, ir⟩ := wa_loc0 hPk (i := 1000) (s := 4) rfl
  have er := lp_rl lr
  obtain ⟨a1, a2, c1, c2, c3, c4, c5⟩ := wa_fld1 (r := 0) (t := 11) (j := 0) (t2 := 9) (s := 5) hPk (List.mem_cons_self)
  obtain ⟨a3, d1, d2, d3, d4⟩ := wa_fld0 (r := 5) (t := 9) (j := 1) (s := 6) hPk (List.mem_cons_of_mem _ (List.mem_cons_self))
  rw [tU_9 d2 wz_ty1] at d3
  have e1 : ρ' 6 = ρ' 3 := lp_e1 (hPk.2.1 _ (List.mem_cons_self)).1 (hPk.2.1 _ (List.mem_cons_of_mem _ (List.mem_cons_self))).1
  have e2 : ρ' 3 = n := hag 3 (by decide)
  rw [e1, e2] at d3 d4
  exact ⟨⟨_, er⟩, lw_c I hT (by decide +kernel) d3 d4⟩
/-- PlugHall.make -/
theorem lc_166 {h : ae_H} {n m : Int} (I : lw_T h n m) {x1 : Int} (h1 : sv_I x1) : sv_G (fun r => (∃ x, r.1 = some (wk_i x)) ∧ lw_T r.2 n m) 166 0 (ae_args [wk_r 0, wk_i x1] 0) [] h := by
  obtain ⟨k1, ftape, ty1⟩ := wk_ref (j := 0) I.1 wz_ty0 tT_11 rfl
  rw [tU_9 ty1 wz_ty1] at ftape
  have bn := I.2.2.2.1
  have bm := I.2.2.2.2
  obtain ⟨A, B, hAB, FA, FB, oA, oB, f, w, j1, j2, j3, j4, j5, j6⟩ := I.2.1
  obtain ⟨⟨tA, tA2, tA5⟩, tB, tB2, tB5⟩ := wz_rows hAB
  have hA : A ≤ 105 := by rcases hAB with ⟨x, y⟩ | ⟨x, y⟩ <;> omega
  have hPre : sv_Pk sv_ty sv_op (wa_x (fun _ => 0) 0 [0, x1, (A : Int), ((A + 2 : Nat) : Int), f, ((A + 5 : Nat) : Int), w, 1, n]) svC_134.2.2.1 (ae_args [wk_r 0, wk_i x1] 0) h := lp_Pi ⟨by show (0 : Int) ≤ 0 ∧ (0 : Int) ≤ 255; omega, lp_bI h1, by show (0 : Int) ≤ (A : Int) ∧ (A : Int) ≤ 255; omega, by show (0 : Int) ≤ ((A + 2 : Nat) : Int) ∧ ((A + 2 : Nat) : Int) ≤ 255; omega, j3, by show (0 : Int) ≤ ((A + 5 : Nat) : Int) ∧ ((A + 5 : Nat) : Int) ≤ 255; omega, j4, by show (0 : Int) ≤ 1 ∧ (1 : Int) ≤ 255; omega, bn.2, trivial⟩ rfl ⟨lp_l1 (k := 0) (by decide) rfl rfl wz_ty0, lp_l0 (by decide) rfl h1, trivial⟩ ⟨wa_F1 (k := 0) (k2 := 1) (by decide) (by decide) rfl wz_ty0 rfl wz_ty1 ftape, wa_F1 (k := 0) (k2 := A) (by decide) (by decide) rfl wz_ty0 rfl tA FA, wa_F1 (k := A) (k2 := A + 2) (by decide) (by decide) rfl tA rfl tA2 oA.2.1, wa_F0 (k := A) (by decide) (by decide) rfl tA j1 (by show sv_I f; unfold sv_I; omega), wa_F1 (k := A) (k2 := A + 5) (by decide) (by decide) rfl tA rfl tA5 oA.2.2.2.2.1, wa_F0 (k := A) (by decide) (by decide) rfl tA j2 (by show sv_I w; unfold sv_I; omega), wa_F0 (k := 1) (by decide) (by decide) rfl wz_ty1 bn.1 (lp_n bn.2), trivial⟩ trivial ⟨lp_q (k := A + 2) (by decide) (fun q hq => by cases List.mem_singleton.mp hq; decide) (sv_wf0 _ _) (sv_wf0 _ _) rfl tA2 (fun j a b => by rw [wa_ev1] at b; exact j5 j a b), lp_q (k := A + 5) (by decide) (fun q hq => by cases List.mem_singleton.mp hq; decide) (sv_wf0 _ _) (fun q hq => by cases List.mem_singleton.mp hq; decide) rfl tA5 (fun j a b => by rw [wa_ev1] at b; have q := j6 j a b; exact ⟨q.1, by show _ ≤ (-1 : Int) + (1 * f + 0); omega⟩), trivial⟩
  refine sv_G_mono (fun r hr => ?_) (svC_134_ok (wa_x (fun _ => 0) 0 [0, x1, (A : Int), ((A + 2 : Nat) : Int), f, ((A + 5 : Nat) : Int), w, 1, n]) _ h I.1 hPre)
  obtain ⟨P, hPm, ρ', hag, hPk, hT, -⟩ := hr
  have hPm : P ∈ [(0, [(0, 255), ((-2147483648), 2147483647), (0, 2147483647), (0, 2147483647), (0, 6), (0, 2147483647), (0, 8), (0, 2147483647), (0, 740), ((-2147483648), 2147483647), (0, 255), (0, 740), (0, 255), (0, 255), (0, 6), (0, 255), (0, 8)], [(0, [(8, (-1)), (11, 1)]), (0, [(8, 1), (11, (-1))])], [(1000, (0, 0, (0, [(9, 1)])))], [((0, 11, 0), (1, 9, (0, [(10, 1)]))), ((0, 11, 10), (1, 2, (0, [(12, 1)]))), ((10, 9, 1), (0, 0, (0, [(11, 1)]))), ((12, 2, 1), (1, 41, (0, [(13, 1)]))), ((12, 2, 3), (0, 0, (0, [(14, 1)]))), ((12, 2, 5), (1, 44, (0, [(15, 1)]))), ((12, 2, 9), (0, 0, (0, [(16, 1)])))], [], [(0, (13, 41), (13, 41), 1, (0, []), (0, [(14, 1)]), (1, []), (20, [])), (0, (15, 44), (15, 44), 1, (0, []), (0, [(16, 1)]), ((-1), []), ((-1), [(14, 1)]))])] := hPm
  cases List.mem_singleton.mp hPm
  obtain ⟨lr, ir⟩ := wa_loc0 hPk (i := 1000) (s := 9) rfl
  have er := lp_rl lr
  obtain ⟨a1, a2, c1, c2, c3, c4, c5⟩ := wa_fld1 (r := 0) (t := 11) (j := 0) (t2 := 9) (s := 10) hPk (List.mem_cons_self)
  obtain ⟨a3, d1, d2, d3, d4⟩ := wa_fld0 (r := 10) (t := 9) (j := 1) (s := 11) hPk (List.mem_cons_of_mem _ (List.mem_cons_of_mem _ (List.mem_cons_self)))
  rw [tU_9 d2 wz_ty1] at d3
  have e1 : ρ' 11 = ρ' 8 := lp_e1 (hPk.2.1 _ (List.mem_cons_self)).1 (hPk.2.1 _ (List.mem_cons_of_mem _ (List.mem_cons_self))).1
  have e2 : ρ' 8 = n := hag 8 (by decide)
  rw [e1, e2] at d3 d4
  exact ⟨⟨_, er⟩, lw_c I hT (by decide +kernel) d3 d4⟩
/-- PlugHall.wanted -/
theorem lc_167 {h : ae_H} {n m : Int} (I : lw_T h n m) {x1 : Int} (h1 : sv_I x1) {x2 : Int} (h2 : sv_I x2) : sv_G (fun r => (∃ x, r.1 = some (wk_i x)) ∧ lw_T r.2 n m) 167 0 (ae_args [wk_r 0, wk_i x1, wk_i x2] 0) [] h := by
  obtain ⟨k1, ftape, ty1⟩ := wk_ref (j := 0) I.1 wz_ty0 tT_11 rfl
  rw [tU_9 ty1 wz_ty1] at ftape
  have bn := I.2.2.2.1
  have bm := I.2.2.2.2
  obtain ⟨A, B, hAB, FA, FB, oA, oB, f, w, j1, j2, j3, j4, j5, j6⟩ := I.2.1
  obtain ⟨⟨tA, tA2, tA5⟩, tB, tB2, tB5⟩ := wz_rows hAB
  have hA : A ≤ 105 := by rcases hAB with ⟨x, y⟩ | ⟨x, y⟩ <;> omega
  have hPre : sv_Pk sv_ty sv_op (wa_x (fun _ => 0) 0 [0, x1, x2, (A : Int), ((A + 2 : Nat) : Int), f, ((A + 5 : Nat) : Int), w, 1, n]) svC_135.2.2.1 (ae_args [wk_r 0, wk_i x1, wk_i x2] 0) h := lp_Pi ⟨by show (0 : Int) ≤ 0 ∧ (0 : Int) ≤ 255; omega, lp_bI h1, lp_bI h2, by show (0 : Int) ≤ (A : Int) ∧ (A : Int) ≤ 255; omega, by show (0 : Int) ≤ ((A + 2 : Nat) : Int) ∧ ((A + 2 : Nat) : Int) ≤ 255; omega, j3, by show (0 : Int) ≤ ((A + 5 : Nat) : Int) ∧ ((A + 5 : Nat) : Int) ≤ 255; omega, j4, by show (0 : Int) ≤ 1 ∧ (1 : Int) ≤ 255; omega, bn.2, trivial⟩ rfl ⟨lp_l1 (k := 0) (by decide) rfl rfl wz_ty0, lp_l0 (by decide) rfl h1, lp_l0 (by decide) rfl h2, trivial⟩ ⟨wa_F1 (k := 0) (k2 := 1) (by decide) (by decide) rfl wz_ty0 rfl wz_ty1 ftape, wa_F1 (k := 0) (k2 := A) (by decide) (by decide) rfl wz_ty0 rfl tA FA, wa_F1 (k := A) (k2 := A + 2) (by decide) (by decide) rfl tA rfl tA2 oA.2.1, wa_F0 (k := A) (by decide) (by decide) rfl tA j1 (by show sv_I f; unfold sv_I; omega), wa_F1 (k := A) (k2 := A + 5) (by decide) (by decide) rfl tA rfl tA5 oA.2.2.2.2.1, wa_F0 (k := A) (by decide) (by decide) rfl tA j2 (by show sv_I w; unfold sv_I; omega), wa_F0 (k := 1) (by decide) (by decide) rfl wz_ty1 bn.1 (lp_n bn.2), trivial⟩ trivial ⟨lp_q (k := A + 2) (by decide) (fun q hq => by cases List.mem_singleton.mp hq; decide) (sv_wf0 _ _) (sv_wf0 _ _) rfl tA2 (fun j a b => by rw [wa_ev1] at b; exact j5 j a b), lp_q (k := A + 5) (by decide) (fun q hq => by cases List.mem_singleton.mp hq; decide) (sv_wf0 _ _) (fun q hq => by cases List.mem_singleton.mp hq; decide) rfl tA5 (fun j a b => by rw [wa_ev1] at b; have q := j6 j a b; exact ⟨q.1, by show _ ≤ (-1 : Int) + (1 * f + 0); omega⟩), trivial⟩
  refine sv_G_mono (fun r hr => ?_) (svC_135_ok (wa_x (fun _ => 0) 0 [0, x1, x2, (A : Int), ((A + 2 : Nat) : Int), f, ((A + 5 : Nat) : Int), w, 1, n]) _ h I.1 hPre)
  obtain ⟨P, hPm, ρ', hag, hPk, hT, -⟩ := hr
  have hPm : P ∈ [(0, [(0, 255), ((-2147483648), 2147483647), ((-2147483648), 2147483647), (0, 2147483647), (0, 2147483647), (0, 6), (0, 2147483647), (0, 8), (0, 2147483647), (0, 740), ((-2147483648), 2147483647), (0, 255), (0, 740), (0, 255), (0, 255), (0, 6), (0, 255), (0, 8)], [(0, [(9, (-1)), (12, 1)]), (0, [(9, 1), (12, (-1))])], [(1000, (0, 0, (0, [(10, 1)])))], [((0, 11, 0), (1, 9, (0, [(11, 1)]))), ((0, 11, 10), (1, 2, (0, [(13, 1)]))), ((11, 9, 1), (0, 0, (0, [(12, 1)]))), ((13, 2, 1), (1, 41, (0, [(14, 1)]))), ((13, 2, 3), (0, 0, (0, [(15, 1)]))), ((13, 2, 5), (1, 44, (0, [(16, 1)]))), ((13, 2, 9), (0, 0, (0, [(17, 1)])))], [], [(0, (14, 41), (14, 41), 1, (0, []), (0, [(15, 1)]), (1, []), (20, [])), (0, (16, 44), (16, 44), 1, (0, []), (0, [(17, 1)]), ((-1), []), ((-1), [(15, 1)]))])] := hPm
  cases List.mem_singleton.mp hPm
  obtain ⟨lr, ir⟩ := wa_loc0 hPk (i := 1000) (s := 10) rfl
  have er := lp_rl lr
  obtain ⟨a1, a2, c1, c2, c3, c4, c5⟩ := wa_fld1 (r := 0) (t := 11) (j := 0) (t2 := 9) (s := 11) hPk (List.mem_cons_self)
  obtain ⟨a3, d1, d2, d3, d4⟩ := wa_fld0 (r := 11) (t := 9) (j := 1) (s := 12) hPk (List.mem_cons_of_mem _ (List.mem_cons_of_mem _ (List.mem_cons_self)))
  rw [tU_9 d2 wz_ty1] at d3
  have e1 : ρ' 12 = ρ' 9 := lp_e1 (hPk.2.1 _ (List.mem_cons_self)).1 (hPk.2.1 _ (List.mem_cons_of_mem _ (List.mem_cons_self))).1
  have e2 : ρ' 9 = n := hag 9 (by decide)
  rw [e1, e2] at d3 d4
  exact ⟨⟨_, er⟩, lw_c I hT (by decide +kernel) d3 d4⟩
/-- PlugHall.same -/
theorem lc_169 {h : ae_H} {n m : Int} (I : lw_T h n m) {x1 : Int} (h1 : sv_I x1) {x2 : Int} (h2 : sv_I x2) : sv_G (fun r => (∃ x, r.1 = some (wk_i x)) ∧ lw_T r.2 n m) 169 0 (ae_args [wk_r 0, wk_i x1, wk_i x2] 0) [] h := by
  obtain ⟨k1, ftape, ty1⟩ := wk_ref (j := 0) I.1 wz_ty0 tT_11 rfl
  rw [tU_9 ty1 wz_ty1] at ftape
  have bn := I.2.2.2.1
  have bm := I.2.2.2.2
  obtain ⟨A, B, hAB, FA, FB, oA, oB, f, w, j1, j2, j3, j4, j5, j6⟩ := I.2.1
  obtain ⟨⟨tA, tA2, tA5⟩, tB, tB2, tB5⟩ := wz_rows hAB
  have hA : A ≤ 105 := by rcases hAB with ⟨x, y⟩ | ⟨x, y⟩ <;> omega
  have hPre : sv_Pk sv_ty sv_op (wa_x (fun _ => 0) 0 [0, x1, x2, (A : Int), ((A + 2 : Nat) : Int), f, ((A + 5 : Nat) : Int), w, 1, n]) svC_136.2.2.1 (ae_args [wk_r 0, wk_i x1, wk_i x2] 0) h := lp_Pi ⟨by show (0 : Int) ≤ 0 ∧ (0 : Int) ≤ 255; omega, lp_bI h1, lp_bI h2, by show (0 : Int) ≤ (A : Int) ∧ (A : Int) ≤ 255; omega, by show (0 : Int) ≤ ((A + 2 : Nat) : Int) ∧ ((A + 2 : Nat) : Int) ≤ 255; omega, j3, by show (0 : Int) ≤ ((A + 5 : Nat) : Int) ∧ ((A + 5 : Nat) : Int) ≤ 255; omega, j4, by show (0 : Int) ≤ 1 ∧ (1 : Int) ≤ 255; omega, bn.2, trivial⟩ rfl ⟨lp_l1 (k := 0) (by decide) rfl rfl wz_ty0, lp_l0 (by decide) rfl h1, lp_l0 (by decide) rfl h2, trivial⟩ ⟨wa_F1 (k := 0) (k2 := 1) (by decide) (by decide) rfl wz_ty0 rfl wz_ty1 ftape, wa_F1 (k := 0) (k2 := A) (by decide) (by decide) rfl wz_ty0 rfl tA FA, wa_F1 (k := A) (k2 := A + 2) (by decide) (by decide) rfl tA rfl tA2 oA.2.1, wa_F0 (k := A) (by decide) (by decide) rfl tA j1 (by show sv_I f; unfold sv_I; omega), wa_F1 (k := A) (k2 := A + 5) (by decide) (by decide) rfl tA rfl tA5 oA.2.2.2.2.1, wa_F0 (k := A) (by decide) (by decide) rfl tA j2 (by show sv_I w; unfold sv_I; omega), wa_F0 (k := 1) (by decide) (by decide) rfl wz_ty1 bn.1 (lp_n bn.2), trivial⟩ trivial ⟨lp_q (k := A + 2) (by decide) (fun q hq => by cases List.mem_singleton.mp hq; decide) (sv_wf0 _ _) (sv_wf0 _ _) rfl tA2 (fun j a b => by rw [wa_ev1] at b; exact j5 j a b), lp_q (k := A + 5) (by decide) (fun q hq => by cases List.mem_singleton.mp hq; decide) (sv_wf0 _ _) (fun q hq => by cases List.mem_singleton.mp hq; decide) rfl tA5 (fun j a b => by rw [wa_ev1] at b; have q := j6 j a b; exact ⟨q.1, by show _ ≤ (-1 : Int) + (1 * f + 0); omega⟩), trivial⟩
  refine sv_G_mono (fun r hr => ?_) (svC_136_ok (wa_x (fun _ => 0) 0 [0, x1, x2, (A : Int), ((A + 2 : Nat) : Int), f, ((A + 5 : Nat) : Int), w, 1, n]) _ h I.1 hPre)
  obtain ⟨P, hPm, ρ', hag, hPk, hT, -⟩ := hr
  have hPm : P ∈ [(0, [(0, 255), ((-2147483648), 2147483647), ((-2147483648), 2147483647), (0, 2147483647), (0, 2147483647), (0, 6), (0, 2147483647), (0, 8), (0, 2147483647), (0, 740), ((-2147483648), 2147483647), (0, 255), (0, 740), (0, 255), (0, 255), (0, 6), (0, 255), (0, 8)], [(0, [(9, (-1)), (12, 1)]), (0, [(9, 1), (12, (-1))])], [(1000, (0, 0, (0, [(10, 1)])))], [((0, 11, 0), (1, 9, (0, [(11, 1)]))), ((0, 11, 10), (1, 2, (0, [(13, 1)]))), ((11, 9, 1), (0, 0, (0, [(12, 1)]))), ((13, 2, 1), (1, 41, (0, [(14, 1)]))), ((13, 2, 3), (0, 0, (0, [(15, 1)]))), ((13, 2, 5), (1, 44, (0, [(16, 1)]))), ((13, 2, 9), (0, 0, (0, [(17, 1)])))], [], [(0, (14, 41), (14, 41), 1, (0, []), (0, [(15, 1)]), (1, []), (20, [])), (0, (16, 44), (16, 44), 1, (0, []), (0, [(17, 1)]), ((-1), []), ((-1), [(15, 1)]))])] := hPm
  cases List.mem_singleton.mp hPm
  obtain ⟨lr, ir⟩ := wa_loc0 hPk (i := 1000) (s := 10) rfl
  have er := lp_rl lr
  obtain ⟨a1, a2, c1, c2, c3, c4, c5⟩ := wa_fld1 (r := 0) (t := 11) (j := 0) (t2 := 9) (s := 11) hPk (List.mem_cons_self)
  obtain ⟨a3, d1, d2, d3, d4⟩ := wa_fld0 (r := 11) (t := 9) (j := 1) (s := 12) hPk (List.mem_cons_of_mem _ (List.mem_cons_of_mem _ (List.mem_cons_self)))
  rw [tU_9 d2 wz_ty1] at d3
  have e1 : ρ' 12 = ρ' 9 := lp_e1 (hPk.2.1 _ (List.mem_cons_self)).1 (hPk.2.1 _ (List.mem_cons_of_mem _ (List.mem_cons_self))).1
  have e2 : ρ' 9 = n := hag 9 (by decide)
  rw [e1, e2] at d3 d4
  exact ⟨⟨_, er⟩, lw_c I hT (by decide +kernel) d3 d4⟩
/-- PlugHall.needed -/
theorem lc_170 {h : ae_H} {n m : Int} (I : lw_T h n m) {x1 : Int} (h1 : sv_I x1) : sv_G (fun r => (∃ x, r.1 = some (wk_i x)) ∧ lw_T r.2 0 m) 170 0 (ae_args [wk_r 0, wk_i x1] 0) [] h := by
  have bn := I.2.2.2.1
  have bm := I.2.2.2.2
  have hPre : sv_Pk sv_ty sv_op (wa_x (fun _ => 0) 0 [0, x1]) svC_150.2.2.1 (ae_args [wk_r 0, wk_i x1] 0) h := lp_Pi ⟨by show (0 : Int) ≤ 0 ∧ (0 : Int) ≤ 255; omega, lp_bI h1, trivial⟩ rfl ⟨lp_l1 (k := 0) (by decide) rfl rfl wz_ty0, lp_l0 (by decide) rfl h1, trivial⟩ trivial trivial trivial
  refine sv_G_mono (fun r hr => ?_) (svC_150_ok (wa_x (fun _ => 0) 0 [0, x1]) _ h I.1 hPre)
  obtain ⟨P, hPm, ρ', hag, hPk, hT, -⟩ := hr
  have hPm : P ∈ [(0, [(0, 255), ((-2147483648), 2147483647), ((-2147483648), 2147483647), (0, 255), (0, 0)], [], [(1000, (0, 0, (0, [(2, 1)])))], [((0, 11, 0), (1, 9, (0, [(3, 1)]))), ((3, 9, 1), (0, 0, (0, [(4, 1)])))], [], [])] := hPm
  cases List.mem_singleton.mp hPm
  obtain ⟨lr, ir⟩ := wa_loc0 hPk (i := 1000) (s := 2) rfl
  have er := lp_rl lr
  obtain ⟨a1, a2, c1, c2, c3, c4, c5⟩ := wa_fld1 (r := 0) (t := 11) (j := 0) (t2 := 9) (s := 3) hPk (List.mem_cons_self)
  obtain ⟨a3, d1, d2, d3, d4⟩ := wa_fld0 (r := 3) (t := 9) (j := 1) (s := 4) hPk (List.mem_cons_of_mem _ (List.mem_cons_self))
  rw [tU_9 d2 wz_ty1] at d3
  have e1 : 0 ≤ ρ' 4 ∧ ρ' 4 ≤ 0 := hPk.1 4 (0, 0) rfl
  have e2 : ρ' 4 = 0 := by omega
  rw [e2] at d3 d4
  exact ⟨⟨_, er⟩, lw_c I hT (by decide +kernel) d3 d4⟩
/-- PlugHall.neededSet -/
theorem lc_171 {h : ae_H} {n m : Int} (I : lw_T h n m)  : sv_G (fun r => (∃ x, r.1 = some (wk_i x)) ∧ lw_T r.2 n m) 171 0 (ae_args [wk_r 0] 0) [] h := by
  obtain ⟨k1, ftape, ty1⟩ := wk_ref (j := 0) I.1 wz_ty0 tT_11 rfl
  rw [tU_9 ty1 wz_ty1] at ftape
  have bn := I.2.2.2.1
  have bm := I.2.2.2.2
  have hPre : sv_Pk sv_ty sv_op (wa_x (fun _ => 0) 0 [0, 1, n]) svC_137.2.2.1 (ae_args [wk_r 0] 0) h := lp_Pi ⟨by show (0 : Int) ≤ 0 ∧ (0 : Int) ≤ 255; omega, by show (0 : Int) ≤ 1 ∧ (1 : Int) ≤ 255; omega, bn.2, trivial⟩ rfl ⟨lp_l1 (k := 0) (by decide) rfl rfl wz_ty0, trivial⟩ ⟨wa_F1 (k := 0) (k2 := 1) (by decide) (by decide) rfl wz_ty0 rfl wz_ty1 ftape, wa_F0 (k := 1) (by decide) (by decide) rfl wz_ty1 bn.1 (lp_n bn.2), trivial⟩ trivial trivial
  refine sv_G_mono (fun r hr => ?_) (svC_137_ok (wa_x (fun _ => 0) 0 [0, 1, n]) _ h I.1 hPre)
  obtain ⟨P, hPm, ρ', hag, hPk, hT, -⟩ := hr
  have hPm : P ∈ [(0, [(0, 255), (0, 2147483647), (0, 740), ((-2147483648), 2147483647), (0, 255), (0, 740)], [(0, [(2, (-1)), (5, 1)]), (0, [(2, 1), (5, (-1))])], [(1000, (0, 0, (0, [(3, 1)])))], [((0, 11, 0), (1, 9, (0, [(4, 1)]))), ((4, 9, 1), (0, 0, (0, [(5, 1)])))], [], [])] := hPm
  cases List.mem_singleton.mp hPm
  obtain ⟨lr, ir⟩ := wa_loc0 hPk (i := 1000) (s := 3) rfl
  have er := lp_rl lr
  obtain ⟨a1, a2, c1, c2, c3, c4, c5⟩ := wa_fld1 (r := 0) (t := 11) (j := 0) (t2 := 9) (s := 4) hPk (List.mem_cons_self)
  obtain ⟨a3, d1, d2, d3, d4⟩ := wa_fld0 (r := 4) (t := 9) (j := 1) (s := 5) hPk (List.mem_cons_of_mem _ (List.mem_cons_self))
  rw [tU_9 d2 wz_ty1] at d3
  have e1 : ρ' 5 = ρ' 2 := lp_e1 (hPk.2.1 _ (List.mem_cons_self)).1 (hPk.2.1 _ (List.mem_cons_of_mem _ (List.mem_cons_self))).1
  have e2 : ρ' 2 = n := hag 2 (by decide)
  rw [e1, e2] at d3 d4
  exact ⟨⟨_, er⟩, lw_c I hT (by decide +kernel) d3 d4⟩
/-- PlugHall.unseen -/
theorem lc_172 {h : ae_H} {n m : Int} (I : lw_T h n m) {x1 : Int} (h1 : sv_I x1) : sv_G (fun r => (∃ x, r.1 = some (wk_i x)) ∧ lw_T r.2 n m) 172 0 (ae_args [wk_r 0, wk_i x1] 0) [] h := by
  obtain ⟨k1, ftape, ty1⟩ := wk_ref (j := 0) I.1 wz_ty0 tT_11 rfl
  rw [tU_9 ty1 wz_ty1] at ftape
  have bn := I.2.2.2.1
  have bm := I.2.2.2.2
  have hPre : sv_Pk sv_ty sv_op (wa_x (fun _ => 0) 0 [0, x1, 1, n]) svC_138.2.2.1 (ae_args [wk_r 0, wk_i x1] 0) h := lp_Pi ⟨by show (0 : Int) ≤ 0 ∧ (0 : Int) ≤ 255; omega, lp_bI h1, by show (0 : Int) ≤ 1 ∧ (1 : Int) ≤ 255; omega, bn.2, trivial⟩ rfl ⟨lp_l1 (k := 0) (by decide) rfl rfl wz_ty0, lp_l0 (by decide) rfl h1, trivial⟩ ⟨wa_F1 (k := 0) (k2 := 1) (by decide) (by decide) rfl wz_ty0 rfl wz_ty1 ftape, wa_F0 (k := 1) (by decide) (by decide) rfl wz_ty1 bn.1 (lp_n bn.2), trivial⟩ trivial trivial
  refine sv_G_mono (fun r hr => ?_) (svC_138_ok (wa_x (fun _ => 0) 0 [0, x1, 1, n]) _ h I.1 hPre)
  obtain ⟨P, hPm, ρ', hag, hPk, hT, -⟩ := hr
  have hPm : P ∈ [(0, [(0, 255), ((-2147483648), 2147483647), (0, 2147483647), (0, 740), ((-2147483648), 2147483647), (0, 255), (0, 740)], [(0, [(3, (-1)), (6, 1)]), (0, [(3, 1), (6, (-1))])], [(1000, (0, 0, (0, [(4, 1)])))], [((0, 11, 0), (1, 9, (0, [(5, 1)]))), ((5, 9, 1), (0, 0, (0, [(6, 1)])))], [], [])] := hPm
  cases List.mem_singleton.mp hPm
  obtain ⟨lr, ir⟩ := wa_loc0 hPk (i := 1000) (s := 4) rfl
  have er := lp_rl lr
  obtain ⟨a1, a2, c1, c2, c3, c4, c5⟩ := wa_fld1 (r := 0) (t := 11) (j := 0) (t2 := 9) (s := 5) hPk (List.mem_cons_self)
  obtain ⟨a3, d1, d2, d3, d4⟩ := wa_fld0 (r := 5) (t := 9) (j := 1) (s := 6) hPk (List.mem_cons_of_mem _ (List.mem_cons_self))
  rw [tU_9 d2 wz_ty1] at d3
  have e1 : ρ' 6 = ρ' 3 := lp_e1 (hPk.2.1 _ (List.mem_cons_self)).1 (hPk.2.1 _ (List.mem_cons_of_mem _ (List.mem_cons_self))).1
  have e2 : ρ' 3 = n := hag 3 (by decide)
  rw [e1, e2] at d3 d4
  exact ⟨⟨_, er⟩, lw_c I hT (by decide +kernel) d3 d4⟩
/-- PlugHall.unseenAt -/
theorem lc_173 {h : ae_H} {n m : Int} (I : lw_T h n m) {x1 : Int} (h1 : sv_I x1) : sv_G (fun r => (∃ x, r.1 = some (wk_i x)) ∧ lw_T r.2 n m) 173 0 (ae_args [wk_r 0, wk_i x1] 0) [] h := by
  obtain ⟨k1, ftape, ty1⟩ := wk_ref (j := 0) I.1 wz_ty0 tT_11 rfl
  rw [tU_9 ty1 wz_ty1] at ftape
  have bn := I.2.2.2.1
  have bm := I.2.2.2.2
  have hPre : sv_Pk sv_ty sv_op (wa_x (fun _ => 0) 0 [0, x1, 1, n]) svC_139.2.2.1 (ae_args [wk_r 0, wk_i x1] 0) h := lp_Pi ⟨by show (0 : Int) ≤ 0 ∧ (0 : Int) ≤ 255; omega, lp_bI h1, by show (0 : Int) ≤ 1 ∧ (1 : Int) ≤ 255; omega, bn.2, trivial⟩ rfl ⟨lp_l1 (k := 0) (by decide) rfl rfl wz_ty0, lp_l0 (by decide) rfl h1, trivial⟩ ⟨wa_F1 (k := 0) (k2 := 1) (by decide) (by decide) rfl wz_ty0 rfl wz_ty1 ftape, wa_F0 (k := 1) (by decide) (by decide) rfl wz_ty1 bn.1 (lp_n bn.2), trivial⟩ trivial trivial
  refine sv_G_mono (fun r hr => ?_) (svC_139_ok (wa_x (fun _ => 0) 0 [0, x1, 1, n]) _ h I.1 hPre)
  obtain ⟨P, hPm, ρ', hag, hPk, hT, -⟩ := hr
  have hPm : P ∈ [(0, [(0, 255), ((-2147483648), 2147483647), (0, 2147483647), (0, 740), ((-2147483648), 2147483647), (0, 255), (0, 740)], [(0, [(3, (-1)), (6, 1)]), (0, [(3, 1), (6, (-1))])], [(1000, (0, 0, (0, [(4, 1)])))], [((0, 11, 0), (1, 9, (0, [(5, 1)]))), ((5, 9, 1), (0, 0, (0, [(6, 1)])))], [], [])] := hPm
  cases List.mem_singleton.mp hPm
  obtain ⟨lr, ir⟩ := wa_loc0 hPk (i := 1000) (s := 4) rfl
  have er := lp_rl lr
  obtain ⟨a1, a2, c1, c2, c3, c4, c5⟩ := wa_fld1 (r := 0) (t := 11) (j := 0) (t2 := 9) (s := 5) hPk (List.mem_cons_self)
  obtain ⟨a3, d1, d2, d3, d4⟩ := wa_fld0 (r := 5) (t := 9) (j := 1) (s := 6) hPk (List.mem_cons_of_mem _ (List.mem_cons_self))
  rw [tU_9 d2 wz_ty1] at d3
  have e1 : ρ' 6 = ρ' 3 := lp_e1 (hPk.2.1 _ (List.mem_cons_self)).1 (hPk.2.1 _ (List.mem_cons_of_mem _ (List.mem_cons_self))).1
  have e2 : ρ' 3 = n := hag 3 (by decide)
  rw [e1, e2] at d3 d4
  exact ⟨⟨_, er⟩, lw_c I hT (by decide +kernel) d3 d4⟩
/-- PlugHall.moves -/
theorem lc_174 {h : ae_H} {n m : Int} (I : lw_T h n m) {x1 : Int} (h1 : sv_I x1) : sv_G (fun r => (∃ x, r.1 = some (wk_i x)) ∧ lw_T r.2 0 m) 174 0 (ae_args [wk_r 0, wk_i x1] 0) [] h := by
  have bn := I.2.2.2.1
  have bm := I.2.2.2.2
  have hPre : sv_Pk sv_ty sv_op (wa_x (fun _ => 0) 0 [0, x1]) svC_151.2.2.1 (ae_args [wk_r 0, wk_i x1] 0) h := lp_Pi ⟨by show (0 : Int) ≤ 0 ∧ (0 : Int) ≤ 255; omega, lp_bI h1, trivial⟩ rfl ⟨lp_l1 (k := 0) (by decide) rfl rfl wz_ty0, lp_l0 (by decide) rfl h1, trivial⟩ trivial trivial trivial
  refine sv_G_mono (fun r hr => ?_) (svC_151_ok (wa_x (fun _ => 0) 0 [0, x1]) _ h I.1 hPre)
  obtain ⟨P, hPm, ρ', hag, hPk, hT, -⟩ := hr
  have hPm : P ∈ [(0, [(0, 255), ((-2147483648), 2147483647), ((-2147483648), 2147483647), (0, 255), (0, 0)], [], [(1000, (0, 0, (0, [(2, 1)])))], [((0, 11, 0), (1, 9, (0, [(3, 1)]))), ((3, 9, 1), (0, 0, (0, [(4, 1)])))], [], [])] := hPm
  cases List.mem_singleton.mp hPm
  obtain ⟨lr, ir⟩ := wa_loc0 hPk (i := 1000) (s := 2) rfl
  have er := lp_rl lr
  obtain ⟨a1, a2, c1, c2, c3, c4, c5⟩ := wa_fld1 (r := 0) (t := 11) (j := 0) (t2 := 9) (s := 3) hPk (List.mem_cons_self)
  obtain ⟨a3, d1, d2, d3, d4⟩ := wa_fld0 (r := 3) (t := 9) (j := 1) (s := 4) hPk (List.mem_cons_of_mem _ (List.mem_cons_self))
  rw [tU_9 d2 wz_ty1] at d3
  have e1 : 0 ≤ ρ' 4 ∧ ρ' 4 ≤ 0 := hPk.1 4 (0, 0) rfl
  have e2 : ρ' 4 = 0 := by omega
  rw [e2] at d3 d4
  exact ⟨⟨_, er⟩, lw_c I hT (by decide +kernel) d3 d4⟩
/-- PlugHall.move -/
theorem lc_175 {h : ae_H} {n m : Int} (I : lw_T h n m) {x1 : Int} (h1 : sv_I x1) {x2 : Int} (h2 : sv_I x2) : sv_G (fun r => (∃ x, r.1 = some (wk_i x)) ∧ lw_T r.2 n m) 175 0 (ae_args [wk_r 0, wk_i x1, wk_i x2] 0) [] h := by
  obtain ⟨k1, ftape, ty1⟩ := wk_ref (j := 0) I.1 wz_ty0 tT_11 rfl
  rw [tU_9 ty1 wz_ty1] at ftape
  have bn := I.2.2.2.1
  have bm := I.2.2.2.2
  have hPre : sv_Pk sv_ty sv_op (wa_x (fun _ => 0) 0 [0, x1, x2, 1, n]) svC_140.2.2.1 (ae_args [wk_r 0, wk_i x1, wk_i x2] 0) h := lp_Pi ⟨by show (0 : Int) ≤ 0 ∧ (0 : Int) ≤ 255; omega, lp_bI h1, lp_bI h2, by show (0 : Int) ≤ 1 ∧ (1 : Int) ≤ 255; omega, bn.2, trivial⟩ rfl ⟨lp_l1 (k := 0) (by decide) rfl rfl wz_ty0, lp_l0 (by decide) rfl h1, lp_l0 (by decide) rfl h2, trivial⟩ ⟨wa_F1 (k := 0) (k2 := 1) (by decide) (by decide) rfl wz_ty0 rfl wz_ty1 ftape, wa_F0 (k := 1) (by decide) (by decide) rfl wz_ty1 bn.1 (lp_n bn.2), trivial⟩ trivial trivial
  refine sv_G_mono (fun r hr => ?_) (svC_140_ok (wa_x (fun _ => 0) 0 [0, x1, x2, 1, n]) _ h I.1 hPre)
  obtain ⟨P, hPm, ρ', hag, hPk, hT, -⟩ := hr
  have hPm : P ∈ [(0, [(0, 255), ((-2147483648), 2147483647), ((-2147483648), 2147483647), (0, 2147483647), (0, 740), ((-2147483648), 2147483647), (0, 255), (0, 740)], [(0, [(4, (-1)), (7, 1)]), (0, [(4, 1), (7, (-1))])], [(1000, (0, 0, (0, [(5, 1)])))], [((0, 11, 0), (1, 9, (0, [(6, 1)]))), ((6, 9, 1), (0, 0, (0, [(7, 1)])))], [], [])] := hPm
  cases List.mem_singleton.mp hPm
  obtain ⟨lr, ir⟩ := wa_loc0 hPk (i := 1000) (s := 5) rfl
  have er := lp_rl lr
  obtain ⟨a1, a2, c1, c2, c3, c4, c5⟩ := wa_fld1 (r := 0) (t := 11) (j := 0) (t2 := 9) (s := 6) hPk (List.mem_cons_self)
  obtain ⟨a3, d1, d2, d3, d4⟩ := wa_fld0 (r := 6) (t := 9) (j := 1) (s := 7) hPk (List.mem_cons_of_mem _ (List.mem_cons_self))
  rw [tU_9 d2 wz_ty1] at d3
  have e1 : ρ' 7 = ρ' 4 := lp_e1 (hPk.2.1 _ (List.mem_cons_self)).1 (hPk.2.1 _ (List.mem_cons_of_mem _ (List.mem_cons_self))).1
  have e2 : ρ' 4 = n := hag 4 (by decide)
  rw [e1, e2] at d3 d4
  exact ⟨⟨_, er⟩, lw_c I hT (by decide +kernel) d3 d4⟩
/-- PlugHall.keep -/
theorem lc_176 {h : ae_H} {n m : Int} (I : lw_T h n m) {x1 : Int} (h1 : sv_I x1) : sv_G (fun r => (∃ x, r.1 = some (wk_i x)) ∧ lw_T r.2 n m) 176 0 (ae_args [wk_r 0, wk_i x1] 0) [] h := by
  obtain ⟨k1, ftape, ty1⟩ := wk_ref (j := 0) I.1 wz_ty0 tT_11 rfl
  rw [tU_9 ty1 wz_ty1] at ftape
  have bn := I.2.2.2.1
  have bm := I.2.2.2.2
  have hPre : sv_Pk sv_ty sv_op (wa_x (fun _ => 0) 0 [0, x1, 1, n]) svC_141.2.2.1 (ae_args [wk_r 0, wk_i x1] 0) h := lp_Pi ⟨by show (0 : Int) ≤ 0 ∧ (0 : Int) ≤ 255; omega, lp_bI h1, by show (0 : Int) ≤ 1 ∧ (1 : Int) ≤ 255; omega, bn.2, trivial⟩ rfl ⟨lp_l1 (k := 0) (by decide) rfl rfl wz_ty0, lp_l0 (by decide) rfl h1, trivial⟩ ⟨wa_F1 (k := 0) (k2 := 1) (by decide) (by decide) rfl wz_ty0 rfl wz_ty1 ftape, wa_F0 (k := 1) (by decide) (by decide) rfl wz_ty1 bn.1 (lp_n bn.2), trivial⟩ trivial trivial
  refine sv_G_mono (fun r hr => ?_) (svC_141_ok (wa_x (fun _ => 0) 0 [0, x1, 1, n]) _ h I.1 hPre)
  obtain ⟨P, hPm, ρ', hag, hPk, hT, -⟩ := hr
  have hPm : P ∈ [(0, [(0, 255), ((-2147483648), 2147483647), (0, 2147483647), (0, 740), (0, 1), (0, 255), (0, 740)], [(0, [(3, (-1)), (6, 1)]), (0, [(3, 1), (6, (-1))])], [(1000, (0, 0, (0, [(4, 1)])))], [((0, 11, 0), (1, 9, (0, [(5, 1)]))), ((5, 9, 1), (0, 0, (0, [(6, 1)])))], [], [])] := hPm
  cases List.mem_singleton.mp hPm
  obtain ⟨lr, ir⟩ := wa_loc0 hPk (i := 1000) (s := 4) rfl
  have er := lp_rl lr
  obtain ⟨a1, a2, c1, c2, c3, c4, c5⟩ := wa_fld1 (r := 0) (t := 11) (j := 0) (t2 := 9) (s := 5) hPk (List.mem_cons_self)
  obtain ⟨a3, d1, d2, d3, d4⟩ := wa_fld0 (r := 5) (t := 9) (j := 1) (s := 6) hPk (List.mem_cons_of_mem _ (List.mem_cons_self))
  rw [tU_9 d2 wz_ty1] at d3
  have e1 : ρ' 6 = ρ' 3 := lp_e1 (hPk.2.1 _ (List.mem_cons_self)).1 (hPk.2.1 _ (List.mem_cons_of_mem _ (List.mem_cons_self))).1
  have e2 : ρ' 3 = n := hag 3 (by decide)
  rw [e1, e2] at d3 d4
  exact ⟨⟨_, er⟩, lw_c I hT (by decide +kernel) d3 d4⟩
/-- PlugHall.use -/
theorem lc_177 {h : ae_H} {n m : Int} (I : lw_T h n m) {x1 : Int} (h1 : sv_I x1) : sv_G (fun r => (∃ x, r.1 = some (wk_i x)) ∧ lw_T r.2 n m) 177 0 (ae_args [wk_r 0, wk_i x1] 0) [] h := by
  obtain ⟨k1, ftape, ty1⟩ := wk_ref (j := 0) I.1 wz_ty0 tT_11 rfl
  rw [tU_9 ty1 wz_ty1] at ftape
  have bn := I.2.2.2.1
  have bm := I.2.2.2.2
  have hPre : sv_Pk sv_ty sv_op (wa_x (fun _ => 0) 0 [0, x1, 1, n]) svC_142.2.2.1 (ae_args [wk_r 0, wk_i x1] 0) h := lp_Pi ⟨by show (0 : Int) ≤ 0 ∧ (0 : Int) ≤ 255; omega, lp_bI h1, by show (0 : Int) ≤ 1 ∧ (1 : Int) ≤ 255; omega, bn.2, trivial⟩ rfl ⟨lp_l1 (k := 0) (by decide) rfl rfl wz_ty0, lp_l0 (by decide) rfl h1, trivial⟩ ⟨wa_F1 (k := 0) (k2 := 1) (by decide) (by decide) rfl wz_ty0 rfl wz_ty1 ftape, wa_F0 (k := 1) (by decide) (by decide) rfl wz_ty1 bn.1 (lp_n bn.2), trivial⟩ trivial trivial
  refine sv_G_mono (fun r hr => ?_) (svC_142_ok (wa_x (fun _ => 0) 0 [0, x1, 1, n]) _ h I.1 hPre)
  obtain ⟨P, hPm, ρ', hag, hPk, hT, -⟩ := hr
  have hPm : P ∈ [(0, [(0, 255), ((-2147483648), 2147483647), (0, 2147483647), (0, 740), ((-2147483648), 2147483647), (0, 255), (0, 740)], [(0, [(3, (-1)), (6, 1)]), (0, [(3, 1), (6, (-1))])], [(1000, (0, 0, (0, [(4, 1)])))], [((0, 11, 0), (1, 9, (0, [(5, 1)]))), ((5, 9, 1), (0, 0, (0, [(6, 1)])))], [], [])] := hPm
  cases List.mem_singleton.mp hPm
  obtain ⟨lr, ir⟩ := wa_loc0 hPk (i := 1000) (s := 4) rfl
  have er := lp_rl lr
  obtain ⟨a1, a2, c1, c2, c3, c4, c5⟩ := wa_fld1 (r := 0) (t := 11) (j := 0) (t2 := 9) (s := 5) hPk (List.mem_cons_self)
  obtain ⟨a3, d1, d2, d3, d4⟩ := wa_fld0 (r := 5) (t := 9) (j := 1) (s := 6) hPk (List.mem_cons_of_mem _ (List.mem_cons_self))
  rw [tU_9 d2 wz_ty1] at d3
  have e1 : ρ' 6 = ρ' 3 := lp_e1 (hPk.2.1 _ (List.mem_cons_self)).1 (hPk.2.1 _ (List.mem_cons_of_mem _ (List.mem_cons_self))).1
  have e2 : ρ' 3 = n := hag 3 (by decide)
  rw [e1, e2] at d3 d4
  exact ⟨⟨_, er⟩, lw_c I hT (by decide +kernel) d3 d4⟩
/-- PlugHall.apart -/
theorem lc_178 {h : ae_H} {n m : Int} (I : lw_T h n m) {x1 : Int} (h1 : sv_I x1) {x2 : Int} (h2 : sv_I x2) : sv_G (fun r => (∃ x, r.1 = some (wk_i x)) ∧ lw_T r.2 n m) 178 0 (ae_args [wk_r 0, wk_i x1, wk_i x2] 0) [] h := by
  obtain ⟨k1, ftape, ty1⟩ := wk_ref (j := 0) I.1 wz_ty0 tT_11 rfl
  rw [tU_9 ty1 wz_ty1] at ftape
  have bn := I.2.2.2.1
  have bm := I.2.2.2.2
  have hPre : sv_Pk sv_ty sv_op (wa_x (fun _ => 0) 0 [0, x1, x2, 1, n]) svC_143.2.2.1 (ae_args [wk_r 0, wk_i x1, wk_i x2] 0) h := lp_Pi ⟨by show (0 : Int) ≤ 0 ∧ (0 : Int) ≤ 255; omega, lp_bI h1, lp_bI h2, by show (0 : Int) ≤ 1 ∧ (1 : Int) ≤ 255; omega, bn.2, trivial⟩ rfl ⟨lp_l1 (k := 0) (by decide) rfl rfl wz_ty0, lp_l0 (by decide) rfl h1, lp_l0 (by decide) rfl h2, trivial⟩ ⟨wa_F1 (k := 0) (k2 := 1) (by decide) (by decide) rfl wz_ty0 rfl wz_ty1 ftape, wa_F0 (k := 1) (by decide) (by decide) rfl wz_ty1 bn.1 (lp_n bn.2), trivial⟩ trivial trivial
  refine sv_G_mono (fun r hr => ?_) (svC_143_ok (wa_x (fun _ => 0) 0 [0, x1, x2, 1, n]) _ h I.1 hPre)
  obtain ⟨P, hPm, ρ', hag, hPk, hT, -⟩ := hr
  have hPm : P ∈ [(0, [(0, 255), ((-2147483648), 2147483647), ((-2147483648), 2147483647), (0, 2147483647), (0, 740), ((-2147483648), 2147483647), (0, 255), (0, 740)], [(0, [(4, (-1)), (7, 1)]), (0, [(4, 1), (7, (-1))])], [(1000, (0, 0, (0, [(5, 1)])))], [((0, 11, 0), (1, 9, (0, [(6, 1)]))), ((6, 9, 1), (0, 0, (0, [(7, 1)])))], [], [])] := hPm
  cases List.mem_singleton.mp hPm
  obtain ⟨lr, ir⟩ := wa_loc0 hPk (i := 1000) (s := 5) rfl
  have er := lp_rl lr
  obtain ⟨a1, a2, c1, c2, c3, c4, c5⟩ := wa_fld1 (r := 0) (t := 11) (j := 0) (t2 := 9) (s := 6) hPk (List.mem_cons_self)
  obtain ⟨a3, d1, d2, d3, d4⟩ := wa_fld0 (r := 6) (t := 9) (j := 1) (s := 7) hPk (List.mem_cons_of_mem _ (List.mem_cons_self))
  rw [tU_9 d2 wz_ty1] at d3
  have e1 : ρ' 7 = ρ' 4 := lp_e1 (hPk.2.1 _ (List.mem_cons_self)).1 (hPk.2.1 _ (List.mem_cons_of_mem _ (List.mem_cons_self))).1
  have e2 : ρ' 4 = n := hag 4 (by decide)
  rw [e1, e2] at d3 d4
  exact ⟨⟨_, er⟩, lw_c I hT (by decide +kernel) d3 d4⟩
/-- PlugHall.friday -/
theorem lc_179 {h : ae_H} {n m : Int} (I : lw_T h n m)  : sv_G (fun r => (∃ x, r.1 = some (wk_i x)) ∧ lw_T r.2 0 m) 179 0 (ae_args [wk_r 0] 0) [] h := by
  have bn := I.2.2.2.1
  have bm := I.2.2.2.2
  have hPre : sv_Pk sv_ty sv_op (wa_x (fun _ => 0) 0 [0]) svC_152.2.2.1 (ae_args [wk_r 0] 0) h := lp_Pi ⟨by show (0 : Int) ≤ 0 ∧ (0 : Int) ≤ 255; omega, trivial⟩ rfl ⟨lp_l1 (k := 0) (by decide) rfl rfl wz_ty0, trivial⟩ trivial trivial trivial
  refine sv_G_mono (fun r hr => ?_) (svC_152_ok (wa_x (fun _ => 0) 0 [0]) _ h I.1 hPre)
  obtain ⟨P, hPm, ρ', hag, hPk, hT, -⟩ := hr
  have hPm : P ∈ [(0, [(0, 255), ((-2147483648), 2147483647), (0, 255), (0, 0)], [], [(1000, (0, 0, (0, [(1, 1)])))], [((0, 11, 0), (1, 9, (0, [(2, 1)]))), ((2, 9, 1), (0, 0, (0, [(3, 1)])))], [], [])] := hPm
  cases List.mem_singleton.mp hPm
  obtain ⟨lr, ir⟩ := wa_loc0 hPk (i := 1000) (s := 1) rfl
  have er := lp_rl lr
  obtain ⟨a1, a2, c1, c2, c3, c4, c5⟩ := wa_fld1 (r := 0) (t := 11) (j := 0) (t2 := 9) (s := 2) hPk (List.mem_cons_self)
  obtain ⟨a3, d1, d2, d3, d4⟩ := wa_fld0 (r := 2) (t := 9) (j := 1) (s := 3) hPk (List.mem_cons_of_mem _ (List.mem_cons_self))
  rw [tU_9 d2 wz_ty1] at d3
  have e1 : 0 ≤ ρ' 3 ∧ ρ' 3 ≤ 0 := hPk.1 3 (0, 0) rfl
  have e2 : ρ' 3 = 0 := by omega
  rw [e2] at d3 d4
  exact ⟨⟨_, er⟩, lw_c I hT (by decide +kernel) d3 d4⟩
/-- PlugHall.fridayAt -/
theorem lc_180 {h : ae_H} {n m : Int} (I : lw_T h n m) {x1 : Int} (h1 : sv_I x1) : sv_G (fun r => (∃ x, r.1 = some (wk_i x)) ∧ lw_T r.2 n m) 180 0 (ae_args [wk_r 0, wk_i x1] 0) [] h := by
  obtain ⟨k1, ftape, ty1⟩ := wk_ref (j := 0) I.1 wz_ty0 tT_11 rfl
  rw [tU_9 ty1 wz_ty1] at ftape
  have bn := I.2.2.2.1
  have bm := I.2.2.2.2
  have hPre : sv_Pk sv_ty sv_op (wa_x (fun _ => 0) 0 [0, x1, 1, n]) svC_144.2.2.1 (ae_args [wk_r 0, wk_i x1] 0) h := lp_Pi ⟨by show (0 : Int) ≤ 0 ∧ (0 : Int) ≤ 255; omega, lp_bI h1, by show (0 : Int) ≤ 1 ∧ (1 : Int) ≤ 255; omega, bn.2, trivial⟩ rfl ⟨lp_l1 (k := 0) (by decide) rfl rfl wz_ty0, lp_l0 (by decide) rfl h1, trivial⟩ ⟨wa_F1 (k := 0) (k2 := 1) (by decide) (by decide) rfl wz_ty0 rfl wz_ty1 ftape, wa_F0 (k := 1) (by decide) (by decide) rfl wz_ty1 bn.1 (lp_n bn.2), trivial⟩ trivial trivial
  refine sv_G_mono (fun r hr => ?_) (svC_144_ok (wa_x (fun _ => 0) 0 [0, x1, 1, n]) _ h I.1 hPre)
  obtain ⟨P, hPm, ρ', hag, hPk, hT, -⟩ := hr
  have hPm : P ∈ [(0, [(0, 255), ((-2147483648), 2147483647), (0, 2147483647), (0, 740), ((-2147483648), 2147483647), (0, 255), (0, 740)], [(0, [(3, (-1)), (6, 1)]), (0, [(3, 1), (6, (-1))])], [(1000, (0, 0, (0, [(4, 1)])))], [((0, 11, 0), (1, 9, (0, [(5, 1)]))), ((5, 9, 1), (0, 0, (0, [(6, 1)])))], [], [])] := hPm
  cases List.mem_singleton.mp hPm
  obtain ⟨lr, ir⟩ := wa_loc0 hPk (i := 1000) (s := 4) rfl
  have er := lp_rl lr
  obtain ⟨a1, a2, c1, c2, c3, c4, c5⟩ := wa_fld1 (r := 0) (t := 11) (j := 0) (t2 := 9) (s := 5) hPk (List.mem_cons_self)
  obtain ⟨a3, d1, d2, d3, d4⟩ := wa_fld0 (r := 5) (t := 9) (j := 1) (s := 6) hPk (List.mem_cons_of_mem _ (List.mem_cons_self))
  rw [tU_9 d2 wz_ty1] at d3
  have e1 : ρ' 6 = ρ' 3 := lp_e1 (hPk.2.1 _ (List.mem_cons_self)).1 (hPk.2.1 _ (List.mem_cons_of_mem _ (List.mem_cons_self))).1
  have e2 : ρ' 3 = n := hag 3 (by decide)
  rw [e1, e2] at d3 d4
  exact ⟨⟨_, er⟩, lw_c I hT (by decide +kernel) d3 d4⟩
/-- PlugHall.count -/
theorem lc_181 {h : ae_H} {n m : Int} (I : lw_T h n m) {x1 : Int} (h1 : sv_I x1) : sv_G (fun r => (∃ x, r.1 = some (wk_i x)) ∧ lw_T r.2 n m) 181 0 (ae_args [wk_r 0, wk_i x1] 0) [] h := by
  obtain ⟨k1, ftape, ty1⟩ := wk_ref (j := 0) I.1 wz_ty0 tT_11 rfl
  rw [tU_9 ty1 wz_ty1] at ftape
  have bn := I.2.2.2.1
  have bm := I.2.2.2.2
  have hPre : sv_Pk sv_ty sv_op (wa_x (fun _ => 0) 0 [0, x1, 1, n]) svC_145.2.2.1 (ae_args [wk_r 0, wk_i x1] 0) h := lp_Pi ⟨by show (0 : Int) ≤ 0 ∧ (0 : Int) ≤ 255; omega, lp_bI h1, by show (0 : Int) ≤ 1 ∧ (1 : Int) ≤ 255; omega, bn.2, trivial⟩ rfl ⟨lp_l1 (k := 0) (by decide) rfl rfl wz_ty0, lp_l0 (by decide) rfl h1, trivial⟩ ⟨wa_F1 (k := 0) (k2 := 1) (by decide) (by decide) rfl wz_ty0 rfl wz_ty1 ftape, wa_F0 (k := 1) (by decide) (by decide) rfl wz_ty1 bn.1 (lp_n bn.2), trivial⟩ trivial trivial
  refine sv_G_mono (fun r hr => ?_) (svC_145_ok (wa_x (fun _ => 0) 0 [0, x1, 1, n]) _ h I.1 hPre)
  obtain ⟨P, hPm, ρ', hag, hPk, hT, -⟩ := hr
  have hPm : P ∈ [(0, [(0, 255), ((-2147483648), 2147483647), (0, 2147483647), (0, 740), ((-2147483648), 2147483647), (0, 255), (0, 740)], [(0, [(3, (-1)), (6, 1)]), (0, [(3, 1), (6, (-1))])], [(1000, (0, 0, (0, [(4, 1)])))], [((0, 11, 0), (1, 9, (0, [(5, 1)]))), ((5, 9, 1), (0, 0, (0, [(6, 1)])))], [], [])] := hPm
  cases List.mem_singleton.mp hPm
  obtain ⟨lr, ir⟩ := wa_loc0 hPk (i := 1000) (s := 4) rfl
  have er := lp_rl lr
  obtain ⟨a1, a2, c1, c2, c3, c4, c5⟩ := wa_fld1 (r := 0) (t := 11) (j := 0) (t2 := 9) (s := 5) hPk (List.mem_cons_self)
  obtain ⟨a3, d1, d2, d3, d4⟩ := wa_fld0 (r := 5) (t := 9) (j := 1) (s := 6) hPk (List.mem_cons_of_mem _ (List.mem_cons_self))
  rw [tU_9 d2 wz_ty1] at d3
  have e1 : ρ' 6 = ρ' 3 := lp_e1 (hPk.2.1 _ (List.mem_cons_self)).1 (hPk.2.1 _ (List.mem_cons_of_mem _ (List.mem_cons_self))).1
  have e2 : ρ' 3 = n := hag 3 (by decide)
  rw [e1, e2] at d3 d4
  exact ⟨⟨_, er⟩, lw_c I hT (by decide +kernel) d3 d4⟩
/-- Ref.feed -/
theorem lr_184 {h : ae_H} {n m : Int} (I : lw_T h n m) {x1 : Int} (h1 : sv_I x1) {x2 : Int} (h2 : sv_I x2) {x3 : Int} (h3 : sv_I x3) {x4 : Int} (h4 : sv_I x4) {x5 : Int} (h5 : sv_I x5) : sv_G (fun r => (m ≤ 720 ∧ r.1 = some (wk_i (m + 20)) ∧ lw_T r.2 n (m + 20)) ∨ (721 ≤ m ∧ r.1 = some (wk_i (-1)) ∧ lw_T r.2 n m)) 184 0 (ae_args [wk_r 114, wk_i x1, wk_i x2, wk_i x3, wk_i x4, wk_i x5] 0) [] h := by
  have bn := I.2.2.2.1
  have bm := I.2.2.2.2
  have hPre : sv_Pk sv_ty sv_op (wa_x (fun _ => 0) 0 [114, x1, x2, x3, x4, x5, m]) svC_235.2.2.1 (ae_args [wk_r 114, wk_i x1, wk_i x2, wk_i x3, wk_i x4, wk_i x5] 0) h := lp_Pi ⟨by show (0 : Int) ≤ 114 ∧ (114 : Int) ≤ 255; omega, lp_bI h1, lp_bI h2, lp_bI h3, lp_bI h4, lp_bI h5, bm.2, trivial⟩ rfl ⟨lp_l1 (k := 114) (by decide) rfl rfl lp_tyR, lp_l0 (by decide) rfl h1, lp_l0 (by decide) rfl h2, lp_l0 (by decide) rfl h3, lp_l0 (by decide) rfl h4, lp_l0 (by decide) rfl h5, trivial⟩ ⟨wa_F0 (k := 114) (by decide) (by decide) rfl lp_tyR bm.1 (lp_n bm.2), trivial⟩ trivial trivial
  refine sv_G_mono (fun r hr => ?_) (svC_235_ok (wa_x (fun _ => 0) 0 [114, x1, x2, x3, x4, x5, m]) _ h I.1 hPre)
  obtain ⟨P, hPm, ρ', hag, hPk, hT, -⟩ := hr
  have hPm : P ∈ [(0, [(0, 255), ((-2147483648), 2147483647), ((-2147483648), 2147483647), ((-2147483648), 2147483647), ((-2147483648), 2147483647), ((-2147483648), 2147483647), (0, 740), ((-1), (-1)), (0, 740)], [(0, [(6, (-1)), (8, 1)]), (0, [(6, 1), (8, (-1))]), ((-721), [(6, 1)])], [(1000, (0, 0, (0, [(7, 1)])))], [((0, 12, 2), (0, 0, (0, [(8, 1)])))], [], []), (0, [(0, 255), ((-2147483648), 2147483647), ((-2147483648), 2147483647), ((-2147483648), 2147483647), ((-2147483648), 2147483647), ((-2147483648), 2147483647), (0, 740), ((-2147483648), 2147483647), (0, 740)], [((-20), [(6, (-1)), (7, 1)]), (20, [(6, 1), (7, (-1))]), (0, [(7, (-1)), (8, 1)]), (0, [(7, 1), (8, (-1))]), (720, [(6, (-1))])], [(1000, (0, 0, (0, [(7, 1)])))], [((0, 12, 2), (0, 0, (0, [(8, 1)])))], [], [])] := hPm
  rcases List.mem_cons.mp hPm with e | hPm
  · cases e
    obtain ⟨lr, ir⟩ := wa_loc0 hPk (i := 1000) (s := 7) rfl
    have er := lp_rl lr
    obtain ⟨a3, d1, d2, d3, d4⟩ := wa_fld0 (r := 0) (t := 12) (j := 2) (s := 8) hPk (List.mem_cons_self)
    rw [tU_12 d2 lp_tyR] at d3
    have ez : ρ' 6 = m := hag 6 (by decide)
    have eb : ((-1) : Int) ≤ ρ' 7 ∧ ρ' 7 ≤ (-1) := hPk.1 7 ((-1), (-1)) rfl
    have cc0 : (0 : Int) ≤ 0 + ((-1) * ρ' 6 + (1 * ρ' 8 + 0)) := (hPk.2.1 _ (List.mem_cons_self)).1
    have cc1 : (0 : Int) ≤ 0 + (1 * ρ' 6 + ((-1) * ρ' 8 + 0)) := (hPk.2.1 _ (List.mem_cons_of_mem _ (List.mem_cons_self))).1
    have cc2 : (0 : Int) ≤ (-721) + (1 * ρ' 6 + 0) := (hPk.2.1 _ (List.mem_cons_of_mem _ (List.mem_cons_of_mem _ (List.mem_cons_self)))).1
    rw [show ρ' 7 = -1 by omega] at er
    rw [show ρ' 8 = m by omega] at d3 d4
    exact Or.inr ⟨by omega, er, lw_r I hT (by decide +kernel) (lw_frR (by decide +kernel) I.1 hT.2 I.2.2.1) d3 d4⟩
  · cases List.mem_singleton.mp hPm
    obtain ⟨lr, ir⟩ := wa_loc0 hPk (i := 1000) (s := 7) rfl
    have er := lp_rl lr
    obtain ⟨a3, d1, d2, d3, d4⟩ := wa_fld0 (r := 0) (t := 12) (j := 2) (s := 8) hPk (List.mem_cons_self)
    rw [tU_12 d2 lp_tyR] at d3
    have ez : ρ' 6 = m := hag 6 (by decide)
    have cc0 : (0 : Int) ≤ (-20) + ((-1) * ρ' 6 + (1 * ρ' 7 + 0)) := (hPk.2.1 _ (List.mem_cons_self)).1
    have cc1 : (0 : Int) ≤ 20 + (1 * ρ' 6 + ((-1) * ρ' 7 + 0)) := (hPk.2.1 _ (List.mem_cons_of_mem _ (List.mem_cons_self))).1
    have cc2 : (0 : Int) ≤ 0 + ((-1) * ρ' 7 + (1 * ρ' 8 + 0)) := (hPk.2.1 _ (List.mem_cons_of_mem _ (List.mem_cons_of_mem _ (List.mem_cons_self)))).1
    have cc3 : (0 : Int) ≤ 0 + (1 * ρ' 7 + ((-1) * ρ' 8 + 0)) := (hPk.2.1 _ (List.mem_cons_of_mem _ (List.mem_cons_of_mem _ (List.mem_cons_of_mem _ (List.mem_cons_self))))).1
    have cc4 : (0 : Int) ≤ 720 + ((-1) * ρ' 6 + 0) := (hPk.2.1 _ (List.mem_cons_of_mem _ (List.mem_cons_of_mem _ (List.mem_cons_of_mem _ (List.mem_cons_of_mem _ (List.mem_cons_self)))))).1
    rw [show ρ' 7 = m + 20 by omega] at er
    rw [show ρ' 8 = m + 20 by omega] at d3 d4
    exact Or.inl ⟨by omega, er, lw_r I hT (by decide +kernel) (lw_frR (by decide +kernel) I.1 hT.2 I.2.2.1) d3 d4⟩
/-- Ref.end -/
theorem lr_186 {h : ae_H} {n m : Int} (I : lw_T h n m) {x1 : Int} (h1 : sv_I x1) : sv_G (fun r => (0 ≤ x1 ∧ x1 ≤ m ∧ r.1 = some (wk_i 1) ∧ lw_T r.2 n x1) ∨ (¬ (0 ≤ x1 ∧ x1 ≤ m) ∧ r.1 = some (wk_i 0) ∧ lw_T r.2 n m)) 186 0 (ae_args [wk_r 114, wk_i x1] 0) [] h := by
  have bn := I.2.2.2.1
  have bm := I.2.2.2.2
  have hPre : sv_Pk sv_ty sv_op (wa_x (fun _ => 0) 0 [114, x1, m]) svC_236.2.2.1 (ae_args [wk_r 114, wk_i x1] 0) h := lp_Pi ⟨by show (0 : Int) ≤ 114 ∧ (114 : Int) ≤ 255; omega, lp_bI h1, bm.2, trivial⟩ rfl ⟨lp_l1 (k := 114) (by decide) rfl rfl lp_tyR, lp_l0 (by decide) rfl h1, trivial⟩ ⟨wa_F0 (k := 114) (by decide) (by decide) rfl lp_tyR bm.1 (lp_n bm.2), trivial⟩ trivial trivial
  refine sv_G_mono (fun r hr => ?_) (svC_236_ok (wa_x (fun _ => 0) 0 [114, x1, m]) _ h I.1 hPre)
  obtain ⟨P, hPm, ρ', hag, hPk, hT, -⟩ := hr
  have hPm : P ∈ [(0, [(0, 255), ((-2147483648), 2147483647), (0, 740), (0, 0), (0, 740)], [(0, [(2, (-1)), (4, 1)]), (0, [(2, 1), (4, (-1))]), ((-1), [(1, (-1))])], [(1000, (0, 0, (0, [(3, 1)])))], [((0, 12, 2), (0, 0, (0, [(4, 1)])))], [], []), (0, [(0, 255), ((-2147483648), 2147483647), (0, 740), (0, 0), (0, 740)], [(0, [(2, (-1)), (4, 1)]), (0, [(2, 1), (4, (-1))]), ((-1), [(1, 1), (2, (-1))])], [(1000, (0, 0, (0, [(3, 1)])))], [((0, 12, 2), (0, 0, (0, [(4, 1)])))], [], []), (0, [(0, 255), ((-2147483648), 2147483647), (0, 740), (1, 1), (0, 740)], [(0, [(1, (-1)), (4, 1)]), (0, [(1, 1), (4, (-1))]), (0, [(1, 1)]), (0, [(1, (-1)), (2, 1)])], [(1000, (0, 0, (0, [(3, 1)])))], [((0, 12, 2), (0, 0, (0, [(4, 1)])))], [], [])] := hPm
  rcases List.mem_cons.mp hPm with e | hPm
  · cases e
    obtain ⟨lr, ir⟩ := wa_loc0 hPk (i := 1000) (s := 3) rfl
    have er := lp_rl lr
    obtain ⟨a3, d1, d2, d3, d4⟩ := wa_fld0 (r := 0) (t := 12) (j := 2) (s := 4) hPk (List.mem_cons_self)
    rw [tU_12 d2 lp_tyR] at d3
    have ez : ρ' 2 = m := hag 2 (by decide)
    have ex : ρ' 1 = x1 := hag 1 (by decide)
    have eb : (0 : Int) ≤ ρ' 3 ∧ ρ' 3 ≤ 0 := hPk.1 3 (0, 0) rfl
    have cc0 : (0 : Int) ≤ 0 + ((-1) * ρ' 2 + (1 * ρ' 4 + 0)) := (hPk.2.1 _ (List.mem_cons_self)).1
    have cc1 : (0 : Int) ≤ 0 + (1 * ρ' 2 + ((-1) * ρ' 4 + 0)) := (hPk.2.1 _ (List.mem_cons_of_mem _ (List.mem_cons_self))).1
    have cc2 : (0 : Int) ≤ (-1) + ((-1) * ρ' 1 + 0) := (hPk.2.1 _ (List.mem_cons_of_mem _ (List.mem_cons_of_mem _ (List.mem_cons_self)))).1
    rw [show ρ' 3 = 0 by omega] at er
    rw [show ρ' 4 = m by omega] at d3 d4
    exact Or.inr ⟨by omega, er, lw_r I hT (by decide +kernel) (lw_frR (by decide +kernel) I.1 hT.2 I.2.2.1) d3 d4⟩
  rcases List.mem_cons.mp hPm with e | hPm
  · cases e
    obtain ⟨lr, ir⟩ := wa_loc0 hPk (i := 1000) (s := 3) rfl
    have er := lp_rl lr
    obtain ⟨a3, d1, d2, d3, d4⟩ := wa_fld0 (r := 0) (t := 12) (j := 2) (s := 4) hPk (List.mem_cons_self)
    rw [tU_12 d2 lp_tyR] at d3
    have ez : ρ' 2 = m := hag 2 (by decide)
    have ex : ρ' 1 = x1 := hag 1 (by decide)
    have eb : (0 : Int) ≤ ρ' 3 ∧ ρ' 3 ≤ 0 := hPk.1 3 (0, 0) rfl
    have cc0 : (0 : Int) ≤ 0 + ((-1) * ρ' 2 + (1 * ρ' 4 + 0)) := (hPk.2.1 _ (List.mem_cons_self)).1
    have cc1 : (0 : Int) ≤ 0 + (1 * ρ' 2 + ((-1) * ρ' 4 + 0)) := (hPk.2.1 _ (List.mem_cons_of_mem _ (List.mem_cons_self))).1
    have cc2 : (0 : Int) ≤ (-1) + (1 * ρ' 1 + ((-1) * ρ' 2 + 0)) := (hPk.2.1 _ (List.mem_cons_of_mem _ (List.mem_cons_of_mem _ (List.mem_cons_self)))).1
    rw [show ρ' 3 = 0 by omega] at er
    rw [show ρ' 4 = m by omega] at d3 d4
    exact Or.inr ⟨by omega, er, lw_r I hT (by decide +kernel) (lw_frR (by decide +kernel) I.1 hT.2 I.2.2.1) d3 d4⟩
  · cases List.mem_singleton.mp hPm
    obtain ⟨lr, ir⟩ := wa_loc0 hPk (i := 1000) (s := 3) rfl
    have er := lp_rl lr
    obtain ⟨a3, d1, d2, d3, d4⟩ := wa_fld0 (r := 0) (t := 12) (j := 2) (s := 4) hPk (List.mem_cons_self)
    rw [tU_12 d2 lp_tyR] at d3
    have ez : ρ' 2 = m := hag 2 (by decide)
    have ex : ρ' 1 = x1 := hag 1 (by decide)
    have eb : (1 : Int) ≤ ρ' 3 ∧ ρ' 3 ≤ 1 := hPk.1 3 (1, 1) rfl
    have cc0 : (0 : Int) ≤ 0 + ((-1) * ρ' 1 + (1 * ρ' 4 + 0)) := (hPk.2.1 _ (List.mem_cons_self)).1
    have cc1 : (0 : Int) ≤ 0 + (1 * ρ' 1 + ((-1) * ρ' 4 + 0)) := (hPk.2.1 _ (List.mem_cons_of_mem _ (List.mem_cons_self))).1
    have cc2 : (0 : Int) ≤ 0 + (1 * ρ' 1 + 0) := (hPk.2.1 _ (List.mem_cons_of_mem _ (List.mem_cons_of_mem _ (List.mem_cons_self)))).1
    have cc3 : (0 : Int) ≤ 0 + ((-1) * ρ' 1 + (1 * ρ' 2 + 0)) := (hPk.2.1 _ (List.mem_cons_of_mem _ (List.mem_cons_of_mem _ (List.mem_cons_of_mem _ (List.mem_cons_self))))).1
    rw [show ρ' 3 = 1 by omega] at er
    rw [show ρ' 4 = x1 by omega] at d3 d4
    exact Or.inl ⟨by omega, by omega, er, lw_r I hT (by decide +kernel) (lw_frR (by decide +kernel) I.1 hT.2 I.2.2.1) d3 d4⟩
/-- Ref.card -/
theorem lr_191 {h : ae_H} {n m : Int} (I : lw_T h n m) {x1 : Int} (h1 : sv_I x1) : sv_G (fun r => (∃ x, r.1 = some (wk_i x)) ∧ lw_T r.2 n 0) 191 0 (ae_args [wk_r 114, wk_i x1] 0) [] h := by
  have bn := I.2.2.2.1
  have bm := I.2.2.2.2
  have hPre : sv_Pk sv_ty sv_op (wa_x (fun _ => 0) 0 [114, x1]) svC_217.2.2.1 (ae_args [wk_r 114, wk_i x1] 0) h := lp_Pi ⟨by show (0 : Int) ≤ 114 ∧ (114 : Int) ≤ 255; omega, lp_bI h1, trivial⟩ rfl ⟨lp_l1 (k := 114) (by decide) rfl rfl lp_tyR, lp_l0 (by decide) rfl h1, trivial⟩ trivial trivial trivial
  refine sv_G_mono (fun r hr => ?_) (svC_217_ok (wa_x (fun _ => 0) 0 [114, x1]) _ h I.1 hPre)
  obtain ⟨P, hPm, ρ', hag, hPk, hT, -⟩ := hr
  have hPm : P ∈ [(0, [(0, 255), ((-2147483648), 2147483647), ((-2147483648), 2147483647), (0, 0)], [], [(1000, (0, 0, (0, [(2, 1)])))], [((0, 12, 2), (0, 0, (0, [(3, 1)])))], [], [])] := hPm
  cases List.mem_singleton.mp hPm
  obtain ⟨lr, ir⟩ := wa_loc0 hPk (i := 1000) (s := 2) rfl
  have er := lp_rl lr
  obtain ⟨a3, d1, d2, d3, d4⟩ := wa_fld0 (r := 0) (t := 12) (j := 2) (s := 3) hPk (List.mem_cons_self)
  rw [tU_12 d2 lp_tyR] at d3
  have e1 : 0 ≤ ρ' 3 ∧ ρ' 3 ≤ 0 := hPk.1 3 (0, 0) rfl
  have e2 : ρ' 3 = 0 := by omega
  rw [e2] at d3 d4
  exact ⟨⟨_, er⟩, lw_r I hT (by decide +kernel) (lw_frR (by decide +kernel) I.1 hT.2 I.2.2.1) d3 d4⟩
/-- Ref.cards -/
theorem lr_192 {h : ae_H} {n m : Int} (I : lw_T h n m) {x1 : Int} (h1 : sv_I x1) : sv_G (fun r => (∃ x, r.1 = some (wk_i x)) ∧ lw_T r.2 n m) 192 0 (ae_args [wk_r 114, wk_i x1] 0) [] h := by
  have bn := I.2.2.2.1
  have bm := I.2.2.2.2
  have hPre : sv_Pk sv_ty sv_op (wa_x (fun _ => 0) 0 [114, x1, m]) svC_182.2.2.1 (ae_args [wk_r 114, wk_i x1] 0) h := lp_Pi ⟨by show (0 : Int) ≤ 114 ∧ (114 : Int) ≤ 255; omega, lp_bI h1, bm.2, trivial⟩ rfl ⟨lp_l1 (k := 114) (by decide) rfl rfl lp_tyR, lp_l0 (by decide) rfl h1, trivial⟩ ⟨wa_F0 (k := 114) (by decide) (by decide) rfl lp_tyR bm.1 (lp_n bm.2), trivial⟩ trivial trivial
  refine sv_G_mono (fun r hr => ?_) (svC_182_ok (wa_x (fun _ => 0) 0 [114, x1, m]) _ h I.1 hPre)
  obtain ⟨P, hPm, ρ', hag, hPk, hT, -⟩ := hr
  have hPm : P ∈ [(0, [(0, 255), ((-2147483648), 2147483647), (0, 740), ((-2147483648), 2147483647), (0, 740)], [(0, [(2, (-1)), (4, 1)]), (0, [(2, 1), (4, (-1))])], [(1000, (0, 0, (0, [(3, 1)])))], [((0, 12, 2), (0, 0, (0, [(4, 1)])))], [], [])] := hPm
  cases List.mem_singleton.mp hPm
  obtain ⟨lr, ir⟩ := wa_loc0 hPk (i := 1000) (s := 3) rfl
  have er := lp_rl lr
  obtain ⟨a3, d1, d2, d3, d4⟩ := wa_fld0 (r := 0) (t := 12) (j := 2) (s := 4) hPk (List.mem_cons_self)
  rw [tU_12 d2 lp_tyR] at d3
  have e1 : ρ' 4 = ρ' 2 := lp_e1 (hPk.2.1 _ (List.mem_cons_self)).1 (hPk.2.1 _ (List.mem_cons_of_mem _ (List.mem_cons_self))).1
  have e2 : ρ' 2 = m := hag 2 (by decide)
  rw [e1, e2] at d3 d4
  exact ⟨⟨_, er⟩, lw_r I hT (by decide +kernel) (lw_frR (by decide +kernel) I.1 hT.2 I.2.2.1) d3 d4⟩
/-- Ref.empty -/
theorem lr_194 {h : ae_H} {n m : Int} (I : lw_T h n m) {x1 : Int} (h1 : sv_I x1) : sv_G (fun r => (∃ x, r.1 = some (wk_i x)) ∧ lw_T r.2 n m) 194 0 (ae_args [wk_r 114, wk_i x1] 0) [] h := by
  have bn := I.2.2.2.1
  have bm := I.2.2.2.2
  have hPre : sv_Pk sv_ty sv_op (wa_x (fun _ => 0) 0 [114, x1, m]) svC_184.2.2.1 (ae_args [wk_r 114, wk_i x1] 0) h := lp_Pi ⟨by show (0 : Int) ≤ 114 ∧ (114 : Int) ≤ 255; omega, lp_bI h1, bm.2, trivial⟩ rfl ⟨lp_l1 (k := 114) (by decide) rfl rfl lp_tyR, lp_l0 (by decide) rfl h1, trivial⟩ ⟨wa_F0 (k := 114) (by decide) (by decide) rfl lp_tyR bm.1 (lp_n bm.2), trivial⟩ trivial trivial
  refine sv_G_mono (fun r hr => ?_) (svC_184_ok (wa_x (fun _ => 0) 0 [114, x1, m]) _ h I.1 hPre)
  obtain ⟨P, hPm, ρ', hag, hPk, hT, -⟩ := hr
  have hPm : P ∈ [(0, [(0, 255), ((-2147483648), 2147483647), (0, 740), ((-2147483648), 2147483647), (0, 740)], [(0, [(2, (-1)), (4, 1)]), (0, [(2, 1), (4, (-1))])], [(1000, (0, 0, (0, [(3, 1)])))], [((0, 12, 2), (0, 0, (0, [(4, 1)])))], [], [])] := hPm
  cases List.mem_singleton.mp hPm
  obtain ⟨lr, ir⟩ := wa_loc0 hPk (i := 1000) (s := 3) rfl
  have er := lp_rl lr
  obtain ⟨a3, d1, d2, d3, d4⟩ := wa_fld0 (r := 0) (t := 12) (j := 2) (s := 4) hPk (List.mem_cons_self)
  rw [tU_12 d2 lp_tyR] at d3
  have e1 : ρ' 4 = ρ' 2 := lp_e1 (hPk.2.1 _ (List.mem_cons_self)).1 (hPk.2.1 _ (List.mem_cons_of_mem _ (List.mem_cons_self))).1
  have e2 : ρ' 2 = m := hag 2 (by decide)
  rw [e1, e2] at d3 d4
  exact ⟨⟨_, er⟩, lw_r I hT (by decide +kernel) (lw_frR (by decide +kernel) I.1 hT.2 I.2.2.1) d3 d4⟩
/-- Ref.board -/
theorem lr_209 {h : ae_H} {n m : Int} (I : lw_T h n m)  : sv_G (fun r => (∃ x, r.1 = some (wk_i x)) ∧ lw_T r.2 n 0) 209 0 (ae_args [wk_r 114] 0) [] h := by
  have bn := I.2.2.2.1
  have bm := I.2.2.2.2
  have hPre : sv_Pk sv_ty sv_op (wa_x (fun _ => 0) 0 [114]) svC_218.2.2.1 (ae_args [wk_r 114] 0) h := lp_Pi ⟨by show (0 : Int) ≤ 114 ∧ (114 : Int) ≤ 255; omega, trivial⟩ rfl ⟨lp_l1 (k := 114) (by decide) rfl rfl lp_tyR, trivial⟩ trivial trivial trivial
  refine sv_G_mono (fun r hr => ?_) (svC_218_ok (wa_x (fun _ => 0) 0 [114]) _ h I.1 hPre)
  obtain ⟨P, hPm, ρ', hag, hPk, hT, -⟩ := hr
  have hPm : P ∈ [(0, [(0, 255), ((-2147483648), 2147483647), (0, 0)], [], [(1000, (0, 0, (0, [(1, 1)])))], [((0, 12, 2), (0, 0, (0, [(2, 1)])))], [], [])] := hPm
  cases List.mem_singleton.mp hPm
  obtain ⟨lr, ir⟩ := wa_loc0 hPk (i := 1000) (s := 1) rfl
  have er := lp_rl lr
  obtain ⟨a3, d1, d2, d3, d4⟩ := wa_fld0 (r := 0) (t := 12) (j := 2) (s := 2) hPk (List.mem_cons_self)
  rw [tU_12 d2 lp_tyR] at d3
  have e1 : 0 ≤ ρ' 2 ∧ ρ' 2 ≤ 0 := hPk.1 2 (0, 0) rfl
  have e2 : ρ' 2 = 0 := by omega
  rw [e2] at d3 d4
  exact ⟨⟨_, er⟩, lw_r I hT (by decide +kernel) (lw_frR (by decide +kernel) I.1 hT.2 I.2.2.1) d3 d4⟩
/-- Ref.fault -/
theorem lr_202 {h : ae_H} {n m : Int} (I : lw_T h n m)  : sv_G (fun r => (∃ x, r.1 = some (wk_i x)) ∧ lw_T r.2 n m) 202 0 (ae_args [wk_r 114] 0) [] h := by
  have bn := I.2.2.2.1
  have bm := I.2.2.2.2
  have hPre : sv_Pk sv_ty sv_op (wa_x (fun _ => 0) 0 [114, m]) svC_185.2.2.1 (ae_args [wk_r 114] 0) h := lp_Pi ⟨by show (0 : Int) ≤ 114 ∧ (114 : Int) ≤ 255; omega, bm.2, trivial⟩ rfl ⟨lp_l1 (k := 114) (by decide) rfl rfl lp_tyR, trivial⟩ ⟨wa_F0 (k := 114) (by decide) (by decide) rfl lp_tyR bm.1 (lp_n bm.2), trivial⟩ trivial trivial
  refine sv_G_mono (fun r hr => ?_) (svC_185_ok (wa_x (fun _ => 0) 0 [114, m]) _ h I.1 hPre)
  obtain ⟨P, hPm, ρ', hag, hPk, hT, -⟩ := hr
  have hPm : P ∈ [(0, [(0, 255), (0, 740), ((-2147483648), 2147483647), (0, 740)], [(0, [(1, (-1)), (3, 1)]), (0, [(1, 1), (3, (-1))])], [(1000, (0, 0, (0, [(2, 1)])))], [((0, 12, 2), (0, 0, (0, [(3, 1)])))], [], [])] := hPm
  cases List.mem_singleton.mp hPm
  obtain ⟨lr, ir⟩ := wa_loc0 hPk (i := 1000) (s := 2) rfl
  have er := lp_rl lr
  obtain ⟨a3, d1, d2, d3, d4⟩ := wa_fld0 (r := 0) (t := 12) (j := 2) (s := 3) hPk (List.mem_cons_self)
  rw [tU_12 d2 lp_tyR] at d3
  have e1 : ρ' 3 = ρ' 1 := lp_e1 (hPk.2.1 _ (List.mem_cons_self)).1 (hPk.2.1 _ (List.mem_cons_of_mem _ (List.mem_cons_self))).1
  have e2 : ρ' 1 = m := hag 1 (by decide)
  rw [e1, e2] at d3 d4
  exact ⟨⟨_, er⟩, lw_r I hT (by decide +kernel) (lw_frR (by decide +kernel) I.1 hT.2 I.2.2.1) d3 d4⟩
/-- Ref.run -/
theorem lr_225 {h : ae_H} {n m : Int} (I : lw_T h n m) {x1 : Int} (h1 : sv_I x1) {x2 : Int} (h2 : sv_I x2) : sv_G (fun r => (∃ x, r.1 = some (wk_i x)) ∧ lw_T r.2 n m) 225 0 (ae_args [wk_r 114, wk_i x1, wk_i x2] 0) [] h := by
  have bn := I.2.2.2.1
  have bm := I.2.2.2.2
  have hPre : sv_Pk sv_ty sv_op (wa_x (fun _ => 0) 0 [114, x1, x2, m]) svC_186.2.2.1 (ae_args [wk_r 114, wk_i x1, wk_i x2] 0) h := lp_Pi ⟨by show (0 : Int) ≤ 114 ∧ (114 : Int) ≤ 255; omega, lp_bI h1, lp_bI h2, bm.2, trivial⟩ rfl ⟨lp_l1 (k := 114) (by decide) rfl rfl lp_tyR, lp_l0 (by decide) rfl h1, lp_l0 (by decide) rfl h2, trivial⟩ ⟨wa_F0 (k := 114) (by decide) (by decide) rfl lp_tyR bm.1 (lp_n bm.2), trivial⟩ trivial trivial
  refine sv_G_mono (fun r hr => ?_) (svC_186_ok (wa_x (fun _ => 0) 0 [114, x1, x2, m]) _ h I.1 hPre)
  obtain ⟨P, hPm, ρ', hag, hPk, hT, -⟩ := hr
  have hPm : P ∈ [(0, [(0, 255), ((-2147483648), 2147483647), ((-2147483648), 2147483647), (0, 740), ((-2147483648), 2147483647), (0, 740)], [(0, [(3, (-1)), (5, 1)]), (0, [(3, 1), (5, (-1))])], [(1000, (0, 0, (0, [(4, 1)])))], [((0, 12, 2), (0, 0, (0, [(5, 1)])))], [], [])] := hPm
  cases List.mem_singleton.mp hPm
  obtain ⟨lr, ir⟩ := wa_loc0 hPk (i := 1000) (s := 4) rfl
  have er := lp_rl lr
  obtain ⟨a3, d1, d2, d3, d4⟩ := wa_fld0 (r := 0) (t := 12) (j := 2) (s := 5) hPk (List.mem_cons_self)
  rw [tU_12 d2 lp_tyR] at d3
  have e1 : ρ' 5 = ρ' 3 := lp_e1 (hPk.2.1 _ (List.mem_cons_self)).1 (hPk.2.1 _ (List.mem_cons_of_mem _ (List.mem_cons_self))).1
  have e2 : ρ' 3 = m := hag 3 (by decide)
  rw [e1, e2] at d3 d4
  exact ⟨⟨_, er⟩, lw_r I hT (by decide +kernel) (lw_frR (by decide +kernel) I.1 hT.2 I.2.2.1) d3 d4⟩
/-- Ref.ran -/
theorem lr_226 {h : ae_H} {n m : Int} (I : lw_T h n m) {x1 : Int} (h1 : sv_I x1) : sv_G (fun r => (∃ x, r.1 = some (wk_i x)) ∧ lw_T r.2 n m) 226 0 (ae_args [wk_r 114, wk_i x1] 0) [] h := by
  have bn := I.2.2.2.1
  have bm := I.2.2.2.2
  have hPre : sv_Pk sv_ty sv_op (wa_x (fun _ => 0) 0 [114, x1, m]) svC_187.2.2.1 (ae_args [wk_r 114, wk_i x1] 0) h := lp_Pi ⟨by show (0 : Int) ≤ 114 ∧ (114 : Int) ≤ 255; omega, lp_bI h1, bm.2, trivial⟩ rfl ⟨lp_l1 (k := 114) (by decide) rfl rfl lp_tyR, lp_l0 (by decide) rfl h1, trivial⟩ ⟨wa_F0 (k := 114) (by decide) (by decide) rfl lp_tyR bm.1 (lp_n bm.2), trivial⟩ trivial trivial
  refine sv_G_mono (fun r hr => ?_) (svC_187_ok (wa_x (fun _ => 0) 0 [114, x1, m]) _ h I.1 hPre)
  obtain ⟨P, hPm, ρ', hag, hPk, hT, -⟩ := hr
  have hPm : P ∈ [(0, [(0, 255), ((-2147483648), 2147483647), (0, 740), ((-2147483648), 2147483647), (0, 740)], [(0, [(2, (-1)), (4, 1)]), (0, [(2, 1), (4, (-1))])], [(1000, (0, 0, (0, [(3, 1)])))], [((0, 12, 2), (0, 0, (0, [(4, 1)])))], [], [])] := hPm
  cases List.mem_singleton.mp hPm
  obtain ⟨lr, ir⟩ := wa_loc0 hPk (i := 1000) (s := 3) rfl
  have er := lp_rl lr
  obtain ⟨a3, d1, d2, d3, d4⟩ := wa_fld0 (r := 0) (t := 12) (j := 2) (s := 4) hPk (List.mem_cons_self)
  rw [tU_12 d2 lp_tyR] at d3
  have e1 : ρ' 4 = ρ' 2 := lp_e1 (hPk.2.1 _ (List.mem_cons_self)).1 (hPk.2.1 _ (List.mem_cons_of_mem _ (List.mem_cons_self))).1
  have e2 : ρ' 2 = m := hag 2 (by decide)
  rw [e1, e2] at d3 d4
  exact ⟨⟨_, er⟩, lw_r I hT (by decide +kernel) (lw_frR (by decide +kernel) I.1 hT.2 I.2.2.1) d3 d4⟩
/-- Ref.pass -/
theorem lr_230 {h : ae_H} {n m : Int} (I : lw_T h n m) {x1 : Int} (h1 : sv_I x1) {x2 : Int} (h2 : sv_I x2) : sv_G (fun r => (∃ x, r.1 = some (wk_i x)) ∧ lw_T r.2 n m) 230 0 (ae_args [wk_r 114, wk_i x1, wk_i x2] 0) [] h := by
  have bn := I.2.2.2.1
  have bm := I.2.2.2.2
  have hPre : sv_Pk sv_ty sv_op (wa_x (fun _ => 0) 0 [114, x1, x2, m]) svC_190.2.2.1 (ae_args [wk_r 114, wk_i x1, wk_i x2] 0) h := lp_Pi ⟨by show (0 : Int) ≤ 114 ∧ (114 : Int) ≤ 255; omega, lp_bI h1, lp_bI h2, bm.2, trivial⟩ rfl ⟨lp_l1 (k := 114) (by decide) rfl rfl lp_tyR, lp_l0 (by decide) rfl h1, lp_l0 (by decide) rfl h2, trivial⟩ ⟨wa_F0 (k := 114) (by decide) (by decide) rfl lp_tyR bm.1 (lp_n bm.2), trivial⟩ trivial trivial
  refine sv_G_mono (fun r hr => ?_) (svC_190_ok (wa_x (fun _ => 0) 0 [114, x1, x2, m]) _ h I.1 hPre)
  obtain ⟨P, hPm, ρ', hag, hPk, hT, -⟩ := hr
  have hPm : P ∈ [(0, [(0, 255), ((-2147483648), 2147483647), ((-2147483648), 2147483647), (0, 740), (0, 1), (0, 740)], [(0, [(3, (-1)), (5, 1)]), (0, [(3, 1), (5, (-1))])], [(1000, (0, 0, (0, [(4, 1)])))], [((0, 12, 2), (0, 0, (0, [(5, 1)])))], [], [])] := hPm
  cases List.mem_singleton.mp hPm
  obtain ⟨lr, ir⟩ := wa_loc0 hPk (i := 1000) (s := 4) rfl
  have er := lp_rl lr
  obtain ⟨a3, d1, d2, d3, d4⟩ := wa_fld0 (r := 0) (t := 12) (j := 2) (s := 5) hPk (List.mem_cons_self)
  rw [tU_12 d2 lp_tyR] at d3
  have e1 : ρ' 5 = ρ' 3 := lp_e1 (hPk.2.1 _ (List.mem_cons_self)).1 (hPk.2.1 _ (List.mem_cons_of_mem _ (List.mem_cons_self))).1
  have e2 : ρ' 3 = m := hag 3 (by decide)
  rw [e1, e2] at d3 d4
  exact ⟨⟨_, er⟩, lw_r I hT (by decide +kernel) (lw_frR (by decide +kernel) I.1 hT.2 I.2.2.1) d3 d4⟩
/-- Ref.idle -/
theorem lr_235 {h : ae_H} {n m : Int} (I : lw_T h n m) {x1 : Int} (h1 : sv_I x1) : sv_G (fun r => (∃ x, r.1 = some (wk_i x)) ∧ lw_T r.2 n m) 235 0 (ae_args [wk_r 114, wk_i x1] 0) [] h := by
  have bn := I.2.2.2.1
  have bm := I.2.2.2.2
  have hPre : sv_Pk sv_ty sv_op (wa_x (fun _ => 0) 0 [114, x1, m]) svC_191.2.2.1 (ae_args [wk_r 114, wk_i x1] 0) h := lp_Pi ⟨by show (0 : Int) ≤ 114 ∧ (114 : Int) ≤ 255; omega, lp_bI h1, bm.2, trivial⟩ rfl ⟨lp_l1 (k := 114) (by decide) rfl rfl lp_tyR, lp_l0 (by decide) rfl h1, trivial⟩ ⟨wa_F0 (k := 114) (by decide) (by decide) rfl lp_tyR bm.1 (lp_n bm.2), trivial⟩ trivial trivial
  refine sv_G_mono (fun r hr => ?_) (svC_191_ok (wa_x (fun _ => 0) 0 [114, x1, m]) _ h I.1 hPre)
  obtain ⟨P, hPm, ρ', hag, hPk, hT, -⟩ := hr
  have hPm : P ∈ [(0, [(0, 255), ((-2147483648), 2147483647), (0, 740), ((-2147483648), 2147483647), (0, 740)], [(0, [(2, (-1)), (4, 1)]), (0, [(2, 1), (4, (-1))])], [(1000, (0, 0, (0, [(3, 1)])))], [((0, 12, 2), (0, 0, (0, [(4, 1)])))], [], [])] := hPm
  cases List.mem_singleton.mp hPm
  obtain ⟨lr, ir⟩ := wa_loc0 hPk (i := 1000) (s := 3) rfl
  have er := lp_rl lr
  obtain ⟨a3, d1, d2, d3, d4⟩ := wa_fld0 (r := 0) (t := 12) (j := 2) (s := 4) hPk (List.mem_cons_self)
  rw [tU_12 d2 lp_tyR] at d3
  have e1 : ρ' 4 = ρ' 2 := lp_e1 (hPk.2.1 _ (List.mem_cons_self)).1 (hPk.2.1 _ (List.mem_cons_of_mem _ (List.mem_cons_self))).1
  have e2 : ρ' 2 = m := hag 2 (by decide)
  rw [e1, e2] at d3 d4
  exact ⟨⟨_, er⟩, lw_r I hT (by decide +kernel) (lw_frR (by decide +kernel) I.1 hT.2 I.2.2.1) d3 d4⟩
/-- Ref.missing -/
theorem lr_238 {h : ae_H} {n m : Int} (I : lw_T h n m) {x1 : Int} (h1 : sv_I x1) : sv_G (fun r => (∃ x, r.1 = some (wk_i x)) ∧ lw_T r.2 n 0) 238 0 (ae_args [wk_r 114, wk_i x1] 0) [] h := by
  have bn := I.2.2.2.1
  have bm := I.2.2.2.2
  have hPre : sv_Pk sv_ty sv_op (wa_x (fun _ => 0) 0 [114, x1]) svC_219.2.2.1 (ae_args [wk_r 114, wk_i x1] 0) h := lp_Pi ⟨by show (0 : Int) ≤ 114 ∧ (114 : Int) ≤ 255; omega, lp_bI h1, trivial⟩ rfl ⟨lp_l1 (k := 114) (by decide) rfl rfl lp_tyR, lp_l0 (by decide) rfl h1, trivial⟩ trivial trivial trivial
  refine sv_G_mono (fun r hr => ?_) (svC_219_ok (wa_x (fun _ => 0) 0 [114, x1]) _ h I.1 hPre)
  obtain ⟨P, hPm, ρ', hag, hPk, hT, -⟩ := hr
  have hPm : P ∈ [(0, [(0, 255), ((-2147483648), 2147483647), ((-2147483648), 2147483647), (0, 0)], [], [(1000, (0, 0, (0, [(2, 1)])))], [((0, 12, 2), (0, 0, (0, [(3, 1)])))], [], [])] := hPm
  cases List.mem_singleton.mp hPm
  obtain ⟨lr, ir⟩ := wa_loc0 hPk (i := 1000) (s := 2) rfl
  have er := lp_rl lr
  obtain ⟨a3, d1, d2, d3, d4⟩ := wa_fld0 (r := 0) (t := 12) (j := 2) (s := 3) hPk (List.mem_cons_self)
  rw [tU_12 d2 lp_tyR] at d3
  have e1 : 0 ≤ ρ' 3 ∧ ρ' 3 ≤ 0 := hPk.1 3 (0, 0) rfl
  have e2 : ρ' 3 = 0 := by omega
  rw [e2] at d3 d4
  exact ⟨⟨_, er⟩, lw_r I hT (by decide +kernel) (lw_frR (by decide +kernel) I.1 hT.2 I.2.2.1) d3 d4⟩
/-- Ref.wire -/
theorem lr_239 {h : ae_H} {n m : Int} (I : lw_T h n m) {x1 : Int} (h1 : sv_I x1) : sv_G (fun r => (∃ x, r.1 = some (wk_i x)) ∧ lw_T r.2 n m) 239 0 (ae_args [wk_r 114, wk_i x1] 0) [] h := by
  have bn := I.2.2.2.1
  have bm := I.2.2.2.2
  have hPre : sv_Pk sv_ty sv_op (wa_x (fun _ => 0) 0 [114, x1, m]) svC_192.2.2.1 (ae_args [wk_r 114, wk_i x1] 0) h := lp_Pi ⟨by show (0 : Int) ≤ 114 ∧ (114 : Int) ≤ 255; omega, lp_bI h1, bm.2, trivial⟩ rfl ⟨lp_l1 (k := 114) (by decide) rfl rfl lp_tyR, lp_l0 (by decide) rfl h1, trivial⟩ ⟨wa_F0 (k := 114) (by decide) (by decide) rfl lp_tyR bm.1 (lp_n bm.2), trivial⟩ trivial trivial
  refine sv_G_mono (fun r hr => ?_) (svC_192_ok (wa_x (fun _ => 0) 0 [114, x1, m]) _ h I.1 hPre)
  obtain ⟨P, hPm, ρ', hag, hPk, hT, -⟩ := hr
  have hPm : P ∈ [(0, [(0, 255), ((-2147483648), 2147483647), (0, 740), ((-2147483648), 2147483647), (0, 740)], [(0, [(2, (-1)), (4, 1)]), (0, [(2, 1), (4, (-1))])], [(1000, (0, 0, (0, [(3, 1)])))], [((0, 12, 2), (0, 0, (0, [(4, 1)])))], [], [])] := hPm
  cases List.mem_singleton.mp hPm
  obtain ⟨lr, ir⟩ := wa_loc0 hPk (i := 1000) (s := 3) rfl
  have er := lp_rl lr
  obtain ⟨a3, d1, d2, d3, d4⟩ := wa_fld0 (r := 0) (t := 12) (j := 2) (s := 4) hPk (List.mem_cons_self)
  rw [tU_12 d2 lp_tyR] at d3
  have e1 : ρ' 4 = ρ' 2 := lp_e1 (hPk.2.1 _ (List.mem_cons_self)).1 (hPk.2.1 _ (List.mem_cons_of_mem _ (List.mem_cons_self))).1
  have e2 : ρ' 2 = m := hag 2 (by decide)
  rw [e1, e2] at d3 d4
  exact ⟨⟨_, er⟩, lw_r I hT (by decide +kernel) (lw_frR (by decide +kernel) I.1 hT.2 I.2.2.1) d3 d4⟩
/-- Ref.tests -/
theorem lr_240 {h : ae_H} {n m : Int} (I : lw_T h n m) {x1 : Int} (h1 : sv_I x1) : sv_G (fun r => (∃ x, r.1 = some (wk_i x)) ∧ lw_T r.2 n m) 240 0 (ae_args [wk_r 114, wk_i x1] 0) [] h := by
  have bn := I.2.2.2.1
  have bm := I.2.2.2.2
  have hPre : sv_Pk sv_ty sv_op (wa_x (fun _ => 0) 0 [114, x1, m]) svC_193.2.2.1 (ae_args [wk_r 114, wk_i x1] 0) h := lp_Pi ⟨by show (0 : Int) ≤ 114 ∧ (114 : Int) ≤ 255; omega, lp_bI h1, bm.2, trivial⟩ rfl ⟨lp_l1 (k := 114) (by decide) rfl rfl lp_tyR, lp_l0 (by decide) rfl h1, trivial⟩ ⟨wa_F0 (k := 114) (by decide) (by decide) rfl lp_tyR bm.1 (lp_n bm.2), trivial⟩ trivial trivial
  refine sv_G_mono (fun r hr => ?_) (svC_193_ok (wa_x (fun _ => 0) 0 [114, x1, m]) _ h I.1 hPre)
  obtain ⟨P, hPm, ρ', hag, hPk, hT, -⟩ := hr
  have hPm : P ∈ [(0, [(0, 255), ((-2147483648), 2147483647), (0, 740), ((-2147483648), 2147483647), (0, 740)], [(0, [(2, (-1)), (4, 1)]), (0, [(2, 1), (4, (-1))])], [(1000, (0, 0, (0, [(3, 1)])))], [((0, 12, 2), (0, 0, (0, [(4, 1)])))], [], [])] := hPm
  cases List.mem_singleton.mp hPm
  obtain ⟨lr, ir⟩ := wa_loc0 hPk (i := 1000) (s := 3) rfl
  have er := lp_rl lr
  obtain ⟨a3, d1, d2, d3, d4⟩ := wa_fld0 (r := 0) (t := 12) (j := 2) (s := 4) hPk (List.mem_cons_self)
  rw [tU_12 d2 lp_tyR] at d3
  have e1 : ρ' 4 = ρ' 2 := lp_e1 (hPk.2.1 _ (List.mem_cons_self)).1 (hPk.2.1 _ (List.mem_cons_of_mem _ (List.mem_cons_self))).1
  have e2 : ρ' 2 = m := hag 2 (by decide)
  rw [e1, e2] at d3 d4
  exact ⟨⟨_, er⟩, lw_r I hT (by decide +kernel) (lw_frR (by decide +kernel) I.1 hT.2 I.2.2.1) d3 d4⟩
/-- Ref.testSet -/
theorem lr_241 {h : ae_H} {n m : Int} (I : lw_T h n m)  : sv_G (fun r => (∃ x, r.1 = some (wk_i x)) ∧ lw_T r.2 n m) 241 0 (ae_args [wk_r 114] 0) [] h := by
  have bn := I.2.2.2.1
  have bm := I.2.2.2.2
  have hPre : sv_Pk sv_ty sv_op (wa_x (fun _ => 0) 0 [114, m]) svC_194.2.2.1 (ae_args [wk_r 114] 0) h := lp_Pi ⟨by show (0 : Int) ≤ 114 ∧ (114 : Int) ≤ 255; omega, bm.2, trivial⟩ rfl ⟨lp_l1 (k := 114) (by decide) rfl rfl lp_tyR, trivial⟩ ⟨wa_F0 (k := 114) (by decide) (by decide) rfl lp_tyR bm.1 (lp_n bm.2), trivial⟩ trivial trivial
  refine sv_G_mono (fun r hr => ?_) (svC_194_ok (wa_x (fun _ => 0) 0 [114, m]) _ h I.1 hPre)
  obtain ⟨P, hPm, ρ', hag, hPk, hT, -⟩ := hr
  have hPm : P ∈ [(0, [(0, 255), (0, 740), ((-2147483648), 2147483647), (0, 740)], [(0, [(1, (-1)), (3, 1)]), (0, [(1, 1), (3, (-1))])], [(1000, (0, 0, (0, [(2, 1)])))], [((0, 12, 2), (0, 0, (0, [(3, 1)])))], [], [])] := hPm
  cases List.mem_singleton.mp hPm
  obtain ⟨lr, ir⟩ := wa_loc0 hPk (i := 1000) (s := 2) rfl
  have er := lp_rl lr
  obtain ⟨a3, d1, d2, d3, d4⟩ := wa_fld0 (r := 0) (t := 12) (j := 2) (s := 3) hPk (List.mem_cons_self)
  rw [tU_12 d2 lp_tyR] at d3
  have e1 : ρ' 3 = ρ' 1 := lp_e1 (hPk.2.1 _ (List.mem_cons_self)).1 (hPk.2.1 _ (List.mem_cons_of_mem _ (List.mem_cons_self))).1
  have e2 : ρ' 1 = m := hag 1 (by decide)
  rw [e1, e2] at d3 d4
  exact ⟨⟨_, er⟩, lw_r I hT (by decide +kernel) (lw_frR (by decide +kernel) I.1 hT.2 I.2.2.1) d3 d4⟩
/-- Ref.shown -/
theorem lr_242 {h : ae_H} {n m : Int} (I : lw_T h n m)  : sv_G (fun r => (∃ x, r.1 = some (wk_i x)) ∧ lw_T r.2 n m) 242 0 (ae_args [wk_r 114] 0) [] h := by
  have bn := I.2.2.2.1
  have bm := I.2.2.2.2
  have hPre : sv_Pk sv_ty sv_op (wa_x (fun _ => 0) 0 [114, m]) svC_195.2.2.1 (ae_args [wk_r 114] 0) h := lp_Pi ⟨by show (0 : Int) ≤ 114 ∧ (114 : Int) ≤ 255; omega, bm.2, trivial⟩ rfl ⟨lp_l1 (k := 114) (by decide) rfl rfl lp_tyR, trivial⟩ ⟨wa_F0 (k := 114) (by decide) (by decide) rfl lp_tyR bm.1 (lp_n bm.2), trivial⟩ trivial trivial
  refine sv_G_mono (fun r hr => ?_) (svC_195_ok (wa_x (fun _ => 0) 0 [114, m]) _ h I.1 hPre)
  obtain ⟨P, hPm, ρ', hag, hPk, hT, -⟩ := hr
  have hPm : P ∈ [(0, [(0, 255), (0, 740), ((-2147483648), 2147483647), (0, 740)], [(0, [(1, (-1)), (3, 1)]), (0, [(1, 1), (3, (-1))])], [(1000, (0, 0, (0, [(2, 1)])))], [((0, 12, 2), (0, 0, (0, [(3, 1)])))], [], [])] := hPm
  cases List.mem_singleton.mp hPm
  obtain ⟨lr, ir⟩ := wa_loc0 hPk (i := 1000) (s := 2) rfl
  have er := lp_rl lr
  obtain ⟨a3, d1, d2, d3, d4⟩ := wa_fld0 (r := 0) (t := 12) (j := 2) (s := 3) hPk (List.mem_cons_self)
  rw [tU_12 d2 lp_tyR] at d3
  have e1 : ρ' 3 = ρ' 1 := lp_e1 (hPk.2.1 _ (List.mem_cons_self)).1 (hPk.2.1 _ (List.mem_cons_of_mem _ (List.mem_cons_self))).1
  have e2 : ρ' 1 = m := hag 1 (by decide)
  rw [e1, e2] at d3 d4
  exact ⟨⟨_, er⟩, lw_r I hT (by decide +kernel) (lw_frR (by decide +kernel) I.1 hT.2 I.2.2.1) d3 d4⟩
/-- Ref.runs -/
theorem lr_262 {h : ae_H} {n m : Int} (I : lw_T h n m)  : sv_G (fun r => (∃ x, r.1 = some (wk_i x)) ∧ lw_T r.2 n m) 262 0 (ae_args [wk_r 114] 0) [] h := by
  have bn := I.2.2.2.1
  have bm := I.2.2.2.2
  obtain ⟨k62, fr62, ty62⟩ := wk_ref (j := 62) I.1 lp_tyR tT_12 rfl
  rw [tU_88 ty62 lp_ty88] at fr62
  obtain ⟨k63, fr63, ty63⟩ := wk_ref (j := 63) I.1 lp_tyR tT_12 rfl
  rw [tU_89 ty63 lp_ty89] at fr63
  obtain ⟨k66, fr66, ty66⟩ := wk_ref (j := 66) I.1 lp_tyR tT_12 rfl
  rw [tU_92 ty66 lp_ty92] at fr66
  obtain ⟨k67, fr67, ty67⟩ := wk_ref (j := 67) I.1 lp_tyR tT_12 rfl
  rw [tU_93 ty67 lp_ty93] at fr67
  have hPre : sv_Pk sv_ty sv_op (wa_x (fun _ => 0) 0 [114, 151, wk_R h 151 0, 155, wk_R h 155 0, 152, 156, m]) svC_198.2.2.1 (ae_args [wk_r 114] 0) h := lp_Pi ⟨by show (0 : Int) ≤ 114 ∧ (114 : Int) ≤ 255; omega, by show (0 : Int) ≤ 151 ∧ (151 : Int) ≤ 255; omega, lp_row I.1 lp_ty88 tT_88 (by omega) (by decide), by show (0 : Int) ≤ 155 ∧ (155 : Int) ≤ 255; omega, lp_row I.1 lp_ty92 tT_92 (by omega) (by decide), by show (0 : Int) ≤ 152 ∧ (152 : Int) ≤ 255; omega, by show (0 : Int) ≤ 156 ∧ (156 : Int) ≤ 255; omega, bm.2, trivial⟩ rfl ⟨lp_l1 (k := 114) (by decide) rfl rfl lp_tyR, trivial⟩ ⟨wa_F0 (k := 114) (by decide) (by decide) rfl lp_tyR bm.1 (lp_n bm.2), wa_F1 (k := 114) (k2 := 151) (by decide) (by decide) rfl lp_tyR rfl lp_ty88 fr62, wa_F1 (k := 114) (k2 := 152) (by decide) (by decide) rfl lp_tyR rfl lp_ty89 fr63, wa_F1 (k := 114) (k2 := 155) (by decide) (by decide) rfl lp_tyR rfl lp_ty92 fr66, wa_F1 (k := 114) (k2 := 156) (by decide) (by decide) rfl lp_tyR rfl lp_ty93 fr67, trivial⟩ ⟨wa_M (k := 151) (i := 0) I.1 (by decide) (by decide) (sv_wf0 _ _) rfl lp_ty88 tT_88 (sv_ev0 _ _) ⟨by omega, by decide⟩ rfl, wa_M (k := 155) (i := 0) I.1 (by decide) (by decide) (sv_wf0 _ _) rfl lp_ty92 tT_92 (sv_ev0 _ _) ⟨by omega, by decide⟩ rfl, trivial⟩ ⟨lp_q (k := 152) (by decide) (fun q hq => by cases List.mem_singleton.mp hq; decide) (sv_wf0 _ _) (sv_wf0 _ _) rfl lp_ty89 (fun j a b => by rw [wa_ev1] at b; exact I.2.2.1.1 j a b), lp_q (k := 156) (by decide) (fun q hq => by cases List.mem_singleton.mp hq; decide) (sv_wf0 _ _) (fun q hq => by cases List.mem_singleton.mp hq; decide) rfl lp_ty93 (fun j a b => by rw [wa_ev1] at b; have q := I.2.2.1.2 j a b; exact ⟨q.1, by show _ ≤ (-1 : Int) + (1 * wk_R h 151 0 + 0); omega⟩), trivial⟩
  refine sv_G_mono (fun r hr => ?_) (svC_198_ok (wa_x (fun _ => 0) 0 [114, 151, wk_R h 151 0, 155, wk_R h 155 0, 152, 156, m]) _ h I.1 hPre)
  obtain ⟨P, hPm, ρ', hag, hPk, hT, -⟩ := hr
  have hPm : P ∈ [(0, [(0, 255), (0, 2147483647), (0, 6), (0, 2147483647), (0, 8), (0, 2147483647), (0, 2147483647), (0, 740), ((-2147483648), 2147483647), (0, 740), (0, 255), (0, 6), (0, 255), (0, 8), (0, 255), (0, 255)], [(0, [(7, (-1)), (9, 1)]), (0, [(7, 1), (9, (-1))])], [(1000, (0, 0, (0, [(8, 1)])))], [((0, 12, 2), (0, 0, (0, [(9, 1)]))), ((0, 12, 62), (1, 88, (0, [(10, 1)]))), ((0, 12, 63), (1, 89, (0, [(14, 1)]))), ((0, 12, 66), (1, 92, (0, [(12, 1)]))), ((0, 12, 67), (1, 93, (0, [(15, 1)])))], [(10, 88, (0, []), (0, [(11, 1)])), (12, 92, (0, []), (0, [(13, 1)]))], [(0, (14, 89), (14, 89), 1, (0, []), (0, [(11, 1)]), (1, []), (20, [])), (0, (15, 93), (15, 93), 1, (0, []), (0, [(13, 1)]), ((-1), []), ((-1), [(11, 1)]))])] := hPm
  cases List.mem_singleton.mp hPm
  obtain ⟨lr, ir⟩ := wa_loc0 hPk (i := 1000) (s := 8) rfl
  have er := lp_rl lr
  obtain ⟨a3, d1, d2, d3, d4⟩ := wa_fld0 (r := 0) (t := 12) (j := 2) (s := 9) hPk (List.mem_cons_self)
  rw [tU_12 d2 lp_tyR] at d3
  have e1 : ρ' 9 = ρ' 7 := lp_e1 (hPk.2.1 _ (List.mem_cons_self)).1 (hPk.2.1 _ (List.mem_cons_of_mem _ (List.mem_cons_self))).1
  have e2 : ρ' 7 = m := hag 7 (by decide)
  rw [e1, e2] at d3 d4
  exact ⟨⟨_, er⟩, lw_r I hT (by decide +kernel) (lw_frR (by decide +kernel) I.1 hT.2 I.2.2.1) d3 d4⟩
/-- Ref.wants -/
theorem lr_264 {h : ae_H} {n m : Int} (I : lw_T h n m) {x1 : Int} (h1 : sv_I x1) : sv_G (fun r => (∃ x, r.1 = some (wk_i x)) ∧ lw_T r.2 n m) 264 0 (ae_args [wk_r 114, wk_i x1] 0) [] h := by
  have bn := I.2.2.2.1
  have bm := I.2.2.2.2
  obtain ⟨k62, fr62, ty62⟩ := wk_ref (j := 62) I.1 lp_tyR tT_12 rfl
  rw [tU_88 ty62 lp_ty88] at fr62
  obtain ⟨k63, fr63, ty63⟩ := wk_ref (j := 63) I.1 lp_tyR tT_12 rfl
  rw [tU_89 ty63 lp_ty89] at fr63
  obtain ⟨k66, fr66, ty66⟩ := wk_ref (j := 66) I.1 lp_tyR tT_12 rfl
  rw [tU_92 ty66 lp_ty92] at fr66
  obtain ⟨k67, fr67, ty67⟩ := wk_ref (j := 67) I.1 lp_tyR tT_12 rfl
  rw [tU_93 ty67 lp_ty93] at fr67
  have hPre : sv_Pk sv_ty sv_op (wa_x (fun _ => 0) 0 [114, x1, 151, wk_R h 151 0, 155, wk_R h 155 0, 152, 156, m]) svC_200.2.2.1 (ae_args [wk_r 114, wk_i x1] 0) h := lp_Pi ⟨by show (0 : Int) ≤ 114 ∧ (114 : Int) ≤ 255; omega, lp_bI h1, by show (0 : Int) ≤ 151 ∧ (151 : Int) ≤ 255; omega, lp_row I.1 lp_ty88 tT_88 (by omega) (by decide), by show (0 : Int) ≤ 155 ∧ (155 : Int) ≤ 255; omega, lp_row I.1 lp_ty92 tT_92 (by omega) (by decide), by show (0 : Int) ≤ 152 ∧ (152 : Int) ≤ 255; omega, by show (0 : Int) ≤ 156 ∧ (156 : Int) ≤ 255; omega, bm.2, trivial⟩ rfl ⟨lp_l1 (k := 114) (by decide) rfl rfl lp_tyR, lp_l0 (by decide) rfl h1, trivial⟩ ⟨wa_F0 (k := 114) (by decide) (by decide) rfl lp_tyR bm.1 (lp_n bm.2), wa_F1 (k := 114) (k2 := 151) (by decide) (by decide) rfl lp_tyR rfl lp_ty88 fr62, wa_F1 (k := 114) (k2 := 152) (by decide) (by decide) rfl lp_tyR rfl lp_ty89 fr63, wa_F1 (k := 114) (k2 := 155) (by decide) (by decide) rfl lp_tyR rfl lp_ty92 fr66, wa_F1 (k := 114) (k2 := 156) (by decide) (by decide) rfl lp_tyR rfl lp_ty93 fr67, trivial⟩ ⟨wa_M (k := 151) (i := 0) I.1 (by decide) (by decide) (sv_wf0 _ _) rfl lp_ty88 tT_88 (sv_ev0 _ _) ⟨by omega, by decide⟩ rfl, wa_M (k := 155) (i := 0) I.1 (by decide) (by decide) (sv_wf0 _ _) rfl lp_ty92 tT_92 (sv_ev0 _ _) ⟨by omega, by decide⟩ rfl, trivial⟩ ⟨lp_q (k := 152) (by decide) (fun q hq => by cases List.mem_singleton.mp hq; decide) (sv_wf0 _ _) (sv_wf0 _ _) rfl lp_ty89 (fun j a b => by rw [wa_ev1] at b; exact I.2.2.1.1 j a b), lp_q (k := 156) (by decide) (fun q hq => by cases List.mem_singleton.mp hq; decide) (sv_wf0 _ _) (fun q hq => by cases List.mem_singleton.mp hq; decide) rfl lp_ty93 (fun j a b => by rw [wa_ev1] at b; have q := I.2.2.1.2 j a b; exact ⟨q.1, by show _ ≤ (-1 : Int) + (1 * wk_R h 151 0 + 0); omega⟩), trivial⟩
  refine sv_G_mono (fun r hr => ?_) (svC_200_ok (wa_x (fun _ => 0) 0 [114, x1, 151, wk_R h 151 0, 155, wk_R h 155 0, 152, 156, m]) _ h I.1 hPre)
  obtain ⟨P, hPm, ρ', hag, hPk, hT, -⟩ := hr
  have hPm : P ∈ [(0, [(0, 255), ((-2147483648), 2147483647), (0, 2147483647), (0, 6), (0, 2147483647), (0, 8), (0, 2147483647), (0, 2147483647), (0, 740), ((-2147483648), 2147483647), (0, 740), (0, 255), (0, 6), (0, 255), (0, 8), (0, 255), (0, 255)], [(0, [(8, (-1)), (10, 1)]), (0, [(8, 1), (10, (-1))])], [(1000, (0, 0, (0, [(9, 1)])))], [((0, 12, 2), (0, 0, (0, [(10, 1)]))), ((0, 12, 62), (1, 88, (0, [(11, 1)]))), ((0, 12, 63), (1, 89, (0, [(15, 1)]))), ((0, 12, 66), (1, 92, (0, [(13, 1)]))), ((0, 12, 67), (1, 93, (0, [(16, 1)])))], [(11, 88, (0, []), (0, [(12, 1)])), (13, 92, (0, []), (0, [(14, 1)]))], [(0, (15, 89), (15, 89), 1, (0, []), (0, [(12, 1)]), (1, []), (20, [])), (0, (16, 93), (16, 93), 1, (0, []), (0, [(14, 1)]), ((-1), []), ((-1), [(12, 1)]))])] := hPm
  cases List.mem_singleton.mp hPm
  obtain ⟨lr, ir⟩ := wa_loc0 hPk (i := 1000) (s := 9) rfl
  have er := lp_rl lr
  obtain ⟨a3, d1, d2, d3, d4⟩ := wa_fld0 (r := 0) (t := 12) (j := 2) (s := 10) hPk (List.mem_cons_self)
  rw [tU_12 d2 lp_tyR] at d3
  have e1 : ρ' 10 = ρ' 8 := lp_e1 (hPk.2.1 _ (List.mem_cons_self)).1 (hPk.2.1 _ (List.mem_cons_of_mem _ (List.mem_cons_self))).1
  have e2 : ρ' 8 = m := hag 8 (by decide)
  rw [e1, e2] at d3 d4
  exact ⟨⟨_, er⟩, lw_r I hT (by decide +kernel) (lw_frR (by decide +kernel) I.1 hT.2 I.2.2.1) d3 d4⟩
/-- Ref.make -/
theorem lr_265 {h : ae_H} {n m : Int} (I : lw_T h n m) {x1 : Int} (h1 : sv_I x1) : sv_G (fun r => (∃ x, r.1 = some (wk_i x)) ∧ lw_T r.2 n m) 265 0 (ae_args [wk_r 114, wk_i x1] 0) [] h := by
  have bn := I.2.2.2.1
  have bm := I.2.2.2.2
  obtain ⟨k62, fr62, ty62⟩ := wk_ref (j := 62) I.1 lp_tyR tT_12 rfl
  rw [tU_88 ty62 lp_ty88] at fr62
  obtain ⟨k63, fr63, ty63⟩ := wk_ref (j := 63) I.1 lp_tyR tT_12 rfl
  rw [tU_89 ty63 lp_ty89] at fr63
  obtain ⟨k66, fr66, ty66⟩ := wk_ref (j := 66) I.1 lp_tyR tT_12 rfl
  rw [tU_92 ty66 lp_ty92] at fr66
  obtain ⟨k67, fr67, ty67⟩ := wk_ref (j := 67) I.1 lp_tyR tT_12 rfl
  rw [tU_93 ty67 lp_ty93] at fr67
  have hPre : sv_Pk sv_ty sv_op (wa_x (fun _ => 0) 0 [114, x1, 151, wk_R h 151 0, 155, wk_R h 155 0, 152, 156, m]) svC_201.2.2.1 (ae_args [wk_r 114, wk_i x1] 0) h := lp_Pi ⟨by show (0 : Int) ≤ 114 ∧ (114 : Int) ≤ 255; omega, lp_bI h1, by show (0 : Int) ≤ 151 ∧ (151 : Int) ≤ 255; omega, lp_row I.1 lp_ty88 tT_88 (by omega) (by decide), by show (0 : Int) ≤ 155 ∧ (155 : Int) ≤ 255; omega, lp_row I.1 lp_ty92 tT_92 (by omega) (by decide), by show (0 : Int) ≤ 152 ∧ (152 : Int) ≤ 255; omega, by show (0 : Int) ≤ 156 ∧ (156 : Int) ≤ 255; omega, bm.2, trivial⟩ rfl ⟨lp_l1 (k := 114) (by decide) rfl rfl lp_tyR, lp_l0 (by decide) rfl h1, trivial⟩ ⟨wa_F0 (k := 114) (by decide) (by decide) rfl lp_tyR bm.1 (lp_n bm.2), wa_F1 (k := 114) (k2 := 151) (by decide) (by decide) rfl lp_tyR rfl lp_ty88 fr62, wa_F1 (k := 114) (k2 := 152) (by decide) (by decide) rfl lp_tyR rfl lp_ty89 fr63, wa_F1 (k := 114) (k2 := 155) (by decide) (by decide) rfl lp_tyR rfl lp_ty92 fr66, wa_F1 (k := 114) (k2 := 156) (by decide) (by decide) rfl lp_tyR rfl lp_ty93 fr67, trivial⟩ ⟨wa_M (k := 151) (i := 0) I.1 (by decide) (by decide) (sv_wf0 _ _) rfl lp_ty88 tT_88 (sv_ev0 _ _) ⟨by omega, by decide⟩ rfl, wa_M (k := 155) (i := 0) I.1 (by decide) (by decide) (sv_wf0 _ _) rfl lp_ty92 tT_92 (sv_ev0 _ _) ⟨by omega, by decide⟩ rfl, trivial⟩ ⟨lp_q (k := 152) (by decide) (fun q hq => by cases List.mem_singleton.mp hq; decide) (sv_wf0 _ _) (sv_wf0 _ _) rfl lp_ty89 (fun j a b => by rw [wa_ev1] at b; exact I.2.2.1.1 j a b), lp_q (k := 156) (by decide) (fun q hq => by cases List.mem_singleton.mp hq; decide) (sv_wf0 _ _) (fun q hq => by cases List.mem_singleton.mp hq; decide) rfl lp_ty93 (fun j a b => by rw [wa_ev1] at b; have q := I.2.2.1.2 j a b; exact ⟨q.1, by show _ ≤ (-1 : Int) + (1 * wk_R h 151 0 + 0); omega⟩), trivial⟩
  refine sv_G_mono (fun r hr => ?_) (svC_201_ok (wa_x (fun _ => 0) 0 [114, x1, 151, wk_R h 151 0, 155, wk_R h 155 0, 152, 156, m]) _ h I.1 hPre)
  obtain ⟨P, hPm, ρ', hag, hPk, hT, -⟩ := hr
  have hPm : P ∈ [(0, [(0, 255), ((-2147483648), 2147483647), (0, 2147483647), (0, 6), (0, 2147483647), (0, 8), (0, 2147483647), (0, 2147483647), (0, 740), ((-2147483648), 2147483647), (0, 740), (0, 255), (0, 6), (0, 255), (0, 8), (0, 255), (0, 255)], [(0, [(8, (-1)), (10, 1)]), (0, [(8, 1), (10, (-1))])], [(1000, (0, 0, (0, [(9, 1)])))], [((0, 12, 2), (0, 0, (0, [(10, 1)]))), ((0, 12, 62), (1, 88, (0, [(11, 1)]))), ((0, 12, 63), (1, 89, (0, [(15, 1)]))), ((0, 12, 66), (1, 92, (0, [(13, 1)]))), ((0, 12, 67), (1, 93, (0, [(16, 1)])))], [(11, 88, (0, []), (0, [(12, 1)])), (13, 92, (0, []), (0, [(14, 1)]))], [(0, (15, 89), (15, 89), 1, (0, []), (0, [(12, 1)]), (1, []), (20, [])), (0, (16, 93), (16, 93), 1, (0, []), (0, [(14, 1)]), ((-1), []), ((-1), [(12, 1)]))])] := hPm
  cases List.mem_singleton.mp hPm
  obtain ⟨lr, ir⟩ := wa_loc0 hPk (i := 1000) (s := 9) rfl
  have er := lp_rl lr
  obtain ⟨a3, d1, d2, d3, d4⟩ := wa_fld0 (r := 0) (t := 12) (j := 2) (s := 10) hPk (List.mem_cons_self)
  rw [tU_12 d2 lp_tyR] at d3
  have e1 : ρ' 10 = ρ' 8 := lp_e1 (hPk.2.1 _ (List.mem_cons_self)).1 (hPk.2.1 _ (List.mem_cons_of_mem _ (List.mem_cons_self))).1
  have e2 : ρ' 8 = m := hag 8 (by decide)
  rw [e1, e2] at d3 d4
  exact ⟨⟨_, er⟩, lw_r I hT (by decide +kernel) (lw_frR (by decide +kernel) I.1 hT.2 I.2.2.1) d3 d4⟩
/-- Ref.wanted -/
theorem lr_269 {h : ae_H} {n m : Int} (I : lw_T h n m) {x1 : Int} (h1 : sv_I x1) {x2 : Int} (h2 : sv_I x2) : sv_G (fun r => (∃ x, r.1 = some (wk_i x)) ∧ lw_T r.2 n m) 269 0 (ae_args [wk_r 114, wk_i x1, wk_i x2] 0) [] h := by
  have bn := I.2.2.2.1
  have bm := I.2.2.2.2
  obtain ⟨k62, fr62, ty62⟩ := wk_ref (j := 62) I.1 lp_tyR tT_12 rfl
  rw [tU_88 ty62 lp_ty88] at fr62
  obtain ⟨k63, fr63, ty63⟩ := wk_ref (j := 63) I.1 lp_tyR tT_12 rfl
  rw [tU_89 ty63 lp_ty89] at fr63
  obtain ⟨k66, fr66, ty66⟩ := wk_ref (j := 66) I.1 lp_tyR tT_12 rfl
  rw [tU_92 ty66 lp_ty92] at fr66
  obtain ⟨k67, fr67, ty67⟩ := wk_ref (j := 67) I.1 lp_tyR tT_12 rfl
  rw [tU_93 ty67 lp_ty93] at fr67
  have hPre : sv_Pk sv_ty sv_op (wa_x (fun _ => 0) 0 [114, x1, x2, 151, wk_R h 151 0, 155, wk_R h 155 0, 152, 156, m]) svC_205.2.2.1 (ae_args [wk_r 114, wk_i x1, wk_i x2] 0) h := lp_Pi ⟨by show (0 : Int) ≤ 114 ∧ (114 : Int) ≤ 255; omega, lp_bI h1, lp_bI h2, by show (0 : Int) ≤ 151 ∧ (151 : Int) ≤ 255; omega, lp_row I.1 lp_ty88 tT_88 (by omega) (by decide), by show (0 : Int) ≤ 155 ∧ (155 : Int) ≤ 255; omega, lp_row I.1 lp_ty92 tT_92 (by omega) (by decide), by show (0 : Int) ≤ 152 ∧ (152 : Int) ≤ 255; omega, by show (0 : Int) ≤ 156 ∧ (156 : Int) ≤ 255; omega, bm.2, trivial⟩ rfl ⟨lp_l1 (k := 114) (by decide) rfl rfl lp_tyR, lp_l0 (by decide) rfl h1, lp_l0 (by decide) rfl h2, trivial⟩ ⟨wa_F0 (k := 114) (by decide) (by decide) rfl lp_tyR bm.1 (lp_n bm.2), wa_F1 (k := 114) (k2 := 151) (by decide) (by decide) rfl lp_tyR rfl lp_ty88 fr62, wa_F1 (k := 114) (k2 := 152) (by decide) (by decide) rfl lp_tyR rfl lp_ty89 fr63, wa_F1 (k := 114) (k2 := 155) (by decide) (by decide) rfl lp_tyR rfl lp_ty92 fr66, wa_F1 (k := 114) (k2 := 156) (by decide) (by decide) rfl lp_tyR rfl lp_ty93 fr67, trivial⟩ ⟨wa_M (k := 151) (i := 0) I.1 (by decide) (by decide) (sv_wf0 _ _) rfl lp_ty88 tT_88 (sv_ev0 _ _) ⟨by omega, by decide⟩ rfl, wa_M (k := 155) (i := 0) I.1 (by decide) (by decide) (sv_wf0 _ _) rfl lp_ty92 tT_92 (sv_ev0 _ _) ⟨by omega, by decide⟩ rfl, trivial⟩ ⟨lp_q (k := 152) (by decide) (fun q hq => by cases List.mem_singleton.mp hq; decide) (sv_wf0 _ _) (sv_wf0 _ _) rfl lp_ty89 (fun j a b => by rw [wa_ev1] at b; exact I.2.2.1.1 j a b), lp_q (k := 156) (by decide) (fun q hq => by cases List.mem_singleton.mp hq; decide) (sv_wf0 _ _) (fun q hq => by cases List.mem_singleton.mp hq; decide) rfl lp_ty93 (fun j a b => by rw [wa_ev1] at b; have q := I.2.2.1.2 j a b; exact ⟨q.1, by show _ ≤ (-1 : Int) + (1 * wk_R h 151 0 + 0); omega⟩), trivial⟩
  refine sv_G_mono (fun r hr => ?_) (svC_205_ok (wa_x (fun _ => 0) 0 [114, x1, x2, 151, wk_R h 151 0, 155, wk_R h 155 0, 152, 156, m]) _ h I.1 hPre)
  obtain ⟨P, hPm, ρ', hag, hPk, hT, -⟩ := hr
  have hPm : P ∈ [(0, [(0, 255), ((-2147483648), 2147483647), ((-2147483648), 2147483647), (0, 2147483647), (0, 6), (0, 2147483647), (0, 8), (0, 2147483647), (0, 2147483647), (0, 740), ((-2147483648), 2147483647), (0, 740), (0, 255), (0, 6), (0, 255), (0, 8), (0, 255), (0, 255)], [(0, [(9, (-1)), (11, 1)]), (0, [(9, 1), (11, (-1))])], [(1000, (0, 0, (0, [(10, 1)])))], [((0, 12, 2), (0, 0, (0, [(11, 1)]))), ((0, 12, 62), (1, 88, (0, [(12, 1)]))), ((0, 12, 63), (1, 89, (0, [(16, 1)]))), ((0, 12, 66), (1, 92, (0, [(14, 1)]))), ((0, 12, 67), (1, 93, (0, [(17, 1)])))], [(12, 88, (0, []), (0, [(13, 1)])), (14, 92, (0, []), (0, [(15, 1)]))], [(0, (16, 89), (16, 89), 1, (0, []), (0, [(13, 1)]), (1, []), (20, [])), (0, (17, 93), (17, 93), 1, (0, []), (0, [(15, 1)]), ((-1), []), ((-1), [(13, 1)]))])] := hPm
  cases List.mem_singleton.mp hPm
  obtain ⟨lr, ir⟩ := wa_loc0 hPk (i := 1000) (s := 10) rfl
  have er := lp_rl lr
  obtain ⟨a3, d1, d2, d3, d4⟩ := wa_fld0 (r := 0) (t := 12) (j := 2) (s := 11) hPk (List.mem_cons_self)
  rw [tU_12 d2 lp_tyR] at d3
  have e1 : ρ' 11 = ρ' 9 := lp_e1 (hPk.2.1 _ (List.mem_cons_self)).1 (hPk.2.1 _ (List.mem_cons_of_mem _ (List.mem_cons_self))).1
  have e2 : ρ' 9 = m := hag 9 (by decide)
  rw [e1, e2] at d3 d4
  exact ⟨⟨_, er⟩, lw_r I hT (by decide +kernel) (lw_frR (by decide +kernel) I.1 hT.2 I.2.2.1) d3 d4⟩
/-- Ref.same -/
theorem lr_271 {h : ae_H} {n m : Int} (I : lw_T h n m) {x1 : Int} (h1 : sv_I x1) {x2 : Int} (h2 : sv_I x2) : sv_G (fun r => (∃ x, r.1 = some (wk_i x)) ∧ lw_T r.2 n m) 271 0 (ae_args [wk_r 114, wk_i x1, wk_i x2] 0) [] h := by
  have bn := I.2.2.2.1
  have bm := I.2.2.2.2
  obtain ⟨k62, fr62, ty62⟩ := wk_ref (j := 62) I.1 lp_tyR tT_12 rfl
  rw [tU_88 ty62 lp_ty88] at fr62
  obtain ⟨k63, fr63, ty63⟩ := wk_ref (j := 63) I.1 lp_tyR tT_12 rfl
  rw [tU_89 ty63 lp_ty89] at fr63
  obtain ⟨k66, fr66, ty66⟩ := wk_ref (j := 66) I.1 lp_tyR tT_12 rfl
  rw [tU_92 ty66 lp_ty92] at fr66
  obtain ⟨k67, fr67, ty67⟩ := wk_ref (j := 67) I.1 lp_tyR tT_12 rfl
  rw [tU_93 ty67 lp_ty93] at fr67
  have hPre : sv_Pk sv_ty sv_op (wa_x (fun _ => 0) 0 [114, x1, x2, 151, wk_R h 151 0, 155, wk_R h 155 0, 152, 156, m]) svC_207.2.2.1 (ae_args [wk_r 114, wk_i x1, wk_i x2] 0) h := lp_Pi ⟨by show (0 : Int) ≤ 114 ∧ (114 : Int) ≤ 255; omega, lp_bI h1, lp_bI h2, by show (0 : Int) ≤ 151 ∧ (151 : Int) ≤ 255; omega, lp_row I.1 lp_ty88 tT_88 (by omega) (by decide), by show (0 : Int) ≤ 155 ∧ (155 : Int) ≤ 255; omega, lp_row I.1 lp_ty92 tT_92 (by omega) (by decide), by show (0 : Int) ≤ 152 ∧ (152 : Int) ≤ 255; omega, by show (0 : Int) ≤ 156 ∧ (156 : Int) ≤ 255; omega, bm.2, trivial⟩ rfl ⟨lp_l1 (k := 114) (by decide) rfl rfl lp_tyR, lp_l0 (by decide) rfl h1, lp_l0 (by decide) rfl h2, trivial⟩ ⟨wa_F0 (k := 114) (by decide) (by decide) rfl lp_tyR bm.1 (lp_n bm.2), wa_F1 (k := 114) (k2 := 151) (by decide) (by decide) rfl lp_tyR rfl lp_ty88 fr62, wa_F1 (k := 114) (k2 := 152) (by decide) (by decide) rfl lp_tyR rfl lp_ty89 fr63, wa_F1 (k := 114) (k2 := 155) (by decide) (by decide) rfl lp_tyR rfl lp_ty92 fr66, wa_F1 (k := 114) (k2 := 156) (by decide) (by decide) rfl lp_tyR rfl lp_ty93 fr67, trivial⟩ ⟨wa_M (k := 151) (i := 0) I.1 (by decide) (by decide) (sv_wf0 _ _) rfl lp_ty88 tT_88 (sv_ev0 _ _) ⟨by omega, by decide⟩ rfl, wa_M (k := 155) (i := 0) I.1 (by decide) (by decide) (sv_wf0 _ _) rfl lp_ty92 tT_92 (sv_ev0 _ _) ⟨by omega, by decide⟩ rfl, trivial⟩ ⟨lp_q (k := 152) (by decide) (fun q hq => by cases List.mem_singleton.mp hq; decide) (sv_wf0 _ _) (sv_wf0 _ _) rfl lp_ty89 (fun j a b => by rw [wa_ev1] at b; exact I.2.2.1.1 j a b), lp_q (k := 156) (by decide) (fun q hq => by cases List.mem_singleton.mp hq; decide) (sv_wf0 _ _) (fun q hq => by cases List.mem_singleton.mp hq; decide) rfl lp_ty93 (fun j a b => by rw [wa_ev1] at b; have q := I.2.2.1.2 j a b; exact ⟨q.1, by show _ ≤ (-1 : Int) + (1 * wk_R h 151 0 + 0); omega⟩), trivial⟩
  refine sv_G_mono (fun r hr => ?_) (svC_207_ok (wa_x (fun _ => 0) 0 [114, x1, x2, 151, wk_R h 151 0, 155, wk_R h 155 0, 152, 156, m]) _ h I.1 hPre)
  obtain ⟨P, hPm, ρ', hag, hPk, hT, -⟩ := hr
  have hPm : P ∈ [(0, [(0, 255), ((-2147483648), 2147483647), ((-2147483648), 2147483647), (0, 2147483647), (0, 6), (0, 2147483647), (0, 8), (0, 2147483647), (0, 2147483647), (0, 740), ((-2147483648), 2147483647), (0, 740), (0, 255), (0, 6), (0, 255), (0, 8), (0, 255), (0, 255)], [(0, [(9, (-1)), (11, 1)]), (0, [(9, 1), (11, (-1))])], [(1000, (0, 0, (0, [(10, 1)])))], [((0, 12, 2), (0, 0, (0, [(11, 1)]))), ((0, 12, 62), (1, 88, (0, [(12, 1)]))), ((0, 12, 63), (1, 89, (0, [(16, 1)]))), ((0, 12, 66), (1, 92, (0, [(14, 1)]))), ((0, 12, 67), (1, 93, (0, [(17, 1)])))], [(12, 88, (0, []), (0, [(13, 1)])), (14, 92, (0, []), (0, [(15, 1)]))], [(0, (16, 89), (16, 89), 1, (0, []), (0, [(13, 1)]), (1, []), (20, [])), (0, (17, 93), (17, 93), 1, (0, []), (0, [(15, 1)]), ((-1), []), ((-1), [(13, 1)]))])] := hPm
  cases List.mem_singleton.mp hPm
  obtain ⟨lr, ir⟩ := wa_loc0 hPk (i := 1000) (s := 10) rfl
  have er := lp_rl lr
  obtain ⟨a3, d1, d2, d3, d4⟩ := wa_fld0 (r := 0) (t := 12) (j := 2) (s := 11) hPk (List.mem_cons_self)
  rw [tU_12 d2 lp_tyR] at d3
  have e1 : ρ' 11 = ρ' 9 := lp_e1 (hPk.2.1 _ (List.mem_cons_self)).1 (hPk.2.1 _ (List.mem_cons_of_mem _ (List.mem_cons_self))).1
  have e2 : ρ' 9 = m := hag 9 (by decide)
  rw [e1, e2] at d3 d4
  exact ⟨⟨_, er⟩, lw_r I hT (by decide +kernel) (lw_frR (by decide +kernel) I.1 hT.2 I.2.2.1) d3 d4⟩
/-- Ref.needed -/
theorem lr_233 {h : ae_H} {n m : Int} (I : lw_T h n m) {x1 : Int} (h1 : sv_I x1) : sv_G (fun r => (∃ x, r.1 = some (wk_i x)) ∧ lw_T r.2 n 0) 233 0 (ae_args [wk_r 114, wk_i x1] 0) [] h := by
  have bn := I.2.2.2.1
  have bm := I.2.2.2.2
  have hPre : sv_Pk sv_ty sv_op (wa_x (fun _ => 0) 0 [114, x1]) svC_225.2.2.1 (ae_args [wk_r 114, wk_i x1] 0) h := lp_Pi ⟨by show (0 : Int) ≤ 114 ∧ (114 : Int) ≤ 255; omega, lp_bI h1, trivial⟩ rfl ⟨lp_l1 (k := 114) (by decide) rfl rfl lp_tyR, lp_l0 (by decide) rfl h1, trivial⟩ trivial trivial trivial
  refine sv_G_mono (fun r hr => ?_) (svC_225_ok (wa_x (fun _ => 0) 0 [114, x1]) _ h I.1 hPre)
  obtain ⟨P, hPm, ρ', hag, hPk, hT, -⟩ := hr
  have hPm : P ∈ [(0, [(0, 255), ((-2147483648), 2147483647), ((-2147483648), 2147483647), (0, 0)], [], [(1000, (0, 0, (0, [(2, 1)])))], [((0, 12, 2), (0, 0, (0, [(3, 1)])))], [], [])] := hPm
  cases List.mem_singleton.mp hPm
  obtain ⟨lr, ir⟩ := wa_loc0 hPk (i := 1000) (s := 2) rfl
  have er := lp_rl lr
  obtain ⟨a3, d1, d2, d3, d4⟩ := wa_fld0 (r := 0) (t := 12) (j := 2) (s := 3) hPk (List.mem_cons_self)
  rw [tU_12 d2 lp_tyR] at d3
  have e1 : 0 ≤ ρ' 3 ∧ ρ' 3 ≤ 0 := hPk.1 3 (0, 0) rfl
  have e2 : ρ' 3 = 0 := by omega
  rw [e2] at d3 d4
  exact ⟨⟨_, er⟩, lw_r I hT (by decide +kernel) (lw_frR (by decide +kernel) I.1 hT.2 I.2.2.1) d3 d4⟩
/-- Ref.neededSet -/
theorem lr_234 {h : ae_H} {n m : Int} (I : lw_T h n m)  : sv_G (fun r => (∃ x, r.1 = some (wk_i x)) ∧ lw_T r.2 n m) 234 0 (ae_args [wk_r 114] 0) [] h := by
  have bn := I.2.2.2.1
  have bm := I.2.2.2.2
  have hPre : sv_Pk sv_ty sv_op (wa_x (fun _ => 0) 0 [114, m]) svC_208.2.2.1 (ae_args [wk_r 114] 0) h := lp_Pi ⟨by show (0 : Int) ≤ 114 ∧ (114 : Int) ≤ 255; omega, bm.2, trivial⟩ rfl ⟨lp_l1 (k := 114) (by decide) rfl rfl lp_tyR, trivial⟩ ⟨wa_F0 (k := 114) (by decide) (by decide) rfl lp_tyR bm.1 (lp_n bm.2), trivial⟩ trivial trivial
  refine sv_G_mono (fun r hr => ?_) (svC_208_ok (wa_x (fun _ => 0) 0 [114, m]) _ h I.1 hPre)
  obtain ⟨P, hPm, ρ', hag, hPk, hT, -⟩ := hr
  have hPm : P ∈ [(0, [(0, 255), (0, 740), ((-2147483648), 2147483647), (0, 740)], [(0, [(1, (-1)), (3, 1)]), (0, [(1, 1), (3, (-1))])], [(1000, (0, 0, (0, [(2, 1)])))], [((0, 12, 2), (0, 0, (0, [(3, 1)])))], [], [])] := hPm
  cases List.mem_singleton.mp hPm
  obtain ⟨lr, ir⟩ := wa_loc0 hPk (i := 1000) (s := 2) rfl
  have er := lp_rl lr
  obtain ⟨a3, d1, d2, d3, d4⟩ := wa_fld0 (r := 0) (t := 12) (j := 2) (s := 3) hPk (List.mem_cons_self)
  rw [tU_12 d2 lp_tyR] at d3
  have e1 : ρ' 3 = ρ' 1 := lp_e1 (hPk.2.1 _ (List.mem_cons_self)).1 (hPk.2.1 _ (List.mem_cons_of_mem _ (List.mem_cons_self))).1
  have e2 : ρ' 1 = m := hag 1 (by decide)
  rw [e1, e2] at d3 d4
  exact ⟨⟨_, er⟩, lw_r I hT (by decide +kernel) (lw_frR (by decide +kernel) I.1 hT.2 I.2.2.1) d3 d4⟩
/-- Ref.unseen -/
theorem lr_243 {h : ae_H} {n m : Int} (I : lw_T h n m) {x1 : Int} (h1 : sv_I x1) : sv_G (fun r => (∃ x, r.1 = some (wk_i x)) ∧ lw_T r.2 n m) 243 0 (ae_args [wk_r 114, wk_i x1] 0) [] h := by
  have bn := I.2.2.2.1
  have bm := I.2.2.2.2
  have hPre : sv_Pk sv_ty sv_op (wa_x (fun _ => 0) 0 [114, x1, m]) svC_209.2.2.1 (ae_args [wk_r 114, wk_i x1] 0) h := lp_Pi ⟨by show (0 : Int) ≤ 114 ∧ (114 : Int) ≤ 255; omega, lp_bI h1, bm.2, trivial⟩ rfl ⟨lp_l1 (k := 114) (by decide) rfl rfl lp_tyR, lp_l0 (by decide) rfl h1, trivial⟩ ⟨wa_F0 (k := 114) (by decide) (by decide) rfl lp_tyR bm.1 (lp_n bm.2), trivial⟩ trivial trivial
  refine sv_G_mono (fun r hr => ?_) (svC_209_ok (wa_x (fun _ => 0) 0 [114, x1, m]) _ h I.1 hPre)
  obtain ⟨P, hPm, ρ', hag, hPk, hT, -⟩ := hr
  have hPm : P ∈ [(0, [(0, 255), ((-2147483648), 2147483647), (0, 740), ((-2147483648), 2147483647), (0, 740)], [(0, [(2, (-1)), (4, 1)]), (0, [(2, 1), (4, (-1))])], [(1000, (0, 0, (0, [(3, 1)])))], [((0, 12, 2), (0, 0, (0, [(4, 1)])))], [], [])] := hPm
  cases List.mem_singleton.mp hPm
  obtain ⟨lr, ir⟩ := wa_loc0 hPk (i := 1000) (s := 3) rfl
  have er := lp_rl lr
  obtain ⟨a3, d1, d2, d3, d4⟩ := wa_fld0 (r := 0) (t := 12) (j := 2) (s := 4) hPk (List.mem_cons_self)
  rw [tU_12 d2 lp_tyR] at d3
  have e1 : ρ' 4 = ρ' 2 := lp_e1 (hPk.2.1 _ (List.mem_cons_self)).1 (hPk.2.1 _ (List.mem_cons_of_mem _ (List.mem_cons_self))).1
  have e2 : ρ' 2 = m := hag 2 (by decide)
  rw [e1, e2] at d3 d4
  exact ⟨⟨_, er⟩, lw_r I hT (by decide +kernel) (lw_frR (by decide +kernel) I.1 hT.2 I.2.2.1) d3 d4⟩
/-- Ref.unseenAt -/
theorem lr_244 {h : ae_H} {n m : Int} (I : lw_T h n m) {x1 : Int} (h1 : sv_I x1) : sv_G (fun r => (∃ x, r.1 = some (wk_i x)) ∧ lw_T r.2 n m) 244 0 (ae_args [wk_r 114, wk_i x1] 0) [] h := by
  have bn := I.2.2.2.1
  have bm := I.2.2.2.2
  have hPre : sv_Pk sv_ty sv_op (wa_x (fun _ => 0) 0 [114, x1, m]) svC_210.2.2.1 (ae_args [wk_r 114, wk_i x1] 0) h := lp_Pi ⟨by show (0 : Int) ≤ 114 ∧ (114 : Int) ≤ 255; omega, lp_bI h1, bm.2, trivial⟩ rfl ⟨lp_l1 (k := 114) (by decide) rfl rfl lp_tyR, lp_l0 (by decide) rfl h1, trivial⟩ ⟨wa_F0 (k := 114) (by decide) (by decide) rfl lp_tyR bm.1 (lp_n bm.2), trivial⟩ trivial trivial
  refine sv_G_mono (fun r hr => ?_) (svC_210_ok (wa_x (fun _ => 0) 0 [114, x1, m]) _ h I.1 hPre)
  obtain ⟨P, hPm, ρ', hag, hPk, hT, -⟩ := hr
  have hPm : P ∈ [(0, [(0, 255), ((-2147483648), 2147483647), (0, 740), ((-2147483648), 2147483647), (0, 740)], [(0, [(2, (-1)), (4, 1)]), (0, [(2, 1), (4, (-1))])], [(1000, (0, 0, (0, [(3, 1)])))], [((0, 12, 2), (0, 0, (0, [(4, 1)])))], [], [])] := hPm
  cases List.mem_singleton.mp hPm
  obtain ⟨lr, ir⟩ := wa_loc0 hPk (i := 1000) (s := 3) rfl
  have er := lp_rl lr
  obtain ⟨a3, d1, d2, d3, d4⟩ := wa_fld0 (r := 0) (t := 12) (j := 2) (s := 4) hPk (List.mem_cons_self)
  rw [tU_12 d2 lp_tyR] at d3
  have e1 : ρ' 4 = ρ' 2 := lp_e1 (hPk.2.1 _ (List.mem_cons_self)).1 (hPk.2.1 _ (List.mem_cons_of_mem _ (List.mem_cons_self))).1
  have e2 : ρ' 2 = m := hag 2 (by decide)
  rw [e1, e2] at d3 d4
  exact ⟨⟨_, er⟩, lw_r I hT (by decide +kernel) (lw_frR (by decide +kernel) I.1 hT.2 I.2.2.1) d3 d4⟩
/-- Ref.moves -/
theorem lr_246 {h : ae_H} {n m : Int} (I : lw_T h n m) {x1 : Int} (h1 : sv_I x1) : sv_G (fun r => (∃ x, r.1 = some (wk_i x)) ∧ lw_T r.2 n 0) 246 0 (ae_args [wk_r 114, wk_i x1] 0) [] h := by
  have bn := I.2.2.2.1
  have bm := I.2.2.2.2
  have hPre : sv_Pk sv_ty sv_op (wa_x (fun _ => 0) 0 [114, x1]) svC_226.2.2.1 (ae_args [wk_r 114, wk_i x1] 0) h := lp_Pi ⟨by show (0 : Int) ≤ 114 ∧ (114 : Int) ≤ 255; omega, lp_bI h1, trivial⟩ rfl ⟨lp_l1 (k := 114) (by decide) rfl rfl lp_tyR, lp_l0 (by decide) rfl h1, trivial⟩ trivial trivial trivial
  refine sv_G_mono (fun r hr => ?_) (svC_226_ok (wa_x (fun _ => 0) 0 [114, x1]) _ h I.1 hPre)
  obtain ⟨P, hPm, ρ', hag, hPk, hT, -⟩ := hr
  have hPm : P ∈ [(0, [(0, 255), ((-2147483648), 2147483647), ((-2147483648), 2147483647), (0, 0)], [], [(1000, (0, 0, (0, [(2, 1)])))], [((0, 12, 2), (0, 0, (0, [(3, 1)])))], [], [])] := hPm
  cases List.mem_singleton.mp hPm
  obtain ⟨lr, ir⟩ := wa_loc0 hPk (i := 1000) (s := 2) rfl
  have er := lp_rl lr
  obtain ⟨a3, d1, d2, d3, d4⟩ := wa_fld0 (r := 0) (t := 12) (j := 2) (s := 3) hPk (List.mem_cons_self)
  rw [tU_12 d2 lp_tyR] at d3
  have e1 : 0 ≤ ρ' 3 ∧ ρ' 3 ≤ 0 := hPk.1 3 (0, 0) rfl
  have e2 : ρ' 3 = 0 := by omega
  rw [e2] at d3 d4
  exact ⟨⟨_, er⟩, lw_r I hT (by decide +kernel) (lw_frR (by decide +kernel) I.1 hT.2 I.2.2.1) d3 d4⟩
/-- Ref.move -/
theorem lr_248 {h : ae_H} {n m : Int} (I : lw_T h n m) {x1 : Int} (h1 : sv_I x1) {x2 : Int} (h2 : sv_I x2) : sv_G (fun r => (∃ x, r.1 = some (wk_i x)) ∧ lw_T r.2 n m) 248 0 (ae_args [wk_r 114, wk_i x1, wk_i x2] 0) [] h := by
  have bn := I.2.2.2.1
  have bm := I.2.2.2.2
  have hPre : sv_Pk sv_ty sv_op (wa_x (fun _ => 0) 0 [114, x1, x2, m]) svC_211.2.2.1 (ae_args [wk_r 114, wk_i x1, wk_i x2] 0) h := lp_Pi ⟨by show (0 : Int) ≤ 114 ∧ (114 : Int) ≤ 255; omega, lp_bI h1, lp_bI h2, bm.2, trivial⟩ rfl ⟨lp_l1 (k := 114) (by decide) rfl rfl lp_tyR, lp_l0 (by decide) rfl h1, lp_l0 (by decide) rfl h2, trivial⟩ ⟨wa_F0 (k := 114) (by decide) (by decide) rfl lp_tyR bm.1 (lp_n bm.2), trivial⟩ trivial trivial
  refine sv_G_mono (fun r hr => ?_) (svC_211_ok (wa_x (fun _ => 0) 0 [114, x1, x2, m]) _ h I.1 hPre)
  obtain ⟨P, hPm, ρ', hag, hPk, hT, -⟩ := hr
  have hPm : P ∈ [(0, [(0, 255), ((-2147483648), 2147483647), ((-2147483648), 2147483647), (0, 740), ((-2147483648), 2147483647), (0, 740)], [(0, [(3, (-1)), (5, 1)]), (0, [(3, 1), (5, (-1))])], [(1000, (0, 0, (0, [(4, 1)])))], [((0, 12, 2), (0, 0, (0, [(5, 1)])))], [], [])] := hPm
  cases List.mem_singleton.mp hPm
  obtain ⟨lr, ir⟩ := wa_loc0 hPk (i := 1000) (s := 4) rfl
  have er := lp_rl lr
  obtain ⟨a3, d1, d2, d3, d4⟩ := wa_fld0 (r := 0) (t := 12) (j := 2) (s := 5) hPk (List.mem_cons_self)
  rw [tU_12 d2 lp_tyR] at d3
  have e1 : ρ' 5 = ρ' 3 := lp_e1 (hPk.2.1 _ (List.mem_cons_self)).1 (hPk.2.1 _ (List.mem_cons_of_mem _ (List.mem_cons_self))).1
  have e2 : ρ' 3 = m := hag 3 (by decide)
  rw [e1, e2] at d3 d4
  exact ⟨⟨_, er⟩, lw_r I hT (by decide +kernel) (lw_frR (by decide +kernel) I.1 hT.2 I.2.2.1) d3 d4⟩
/-- Ref.keep -/
theorem lr_272 {h : ae_H} {n m : Int} (I : lw_T h n m) {x1 : Int} (h1 : sv_I x1) : sv_G (fun r => (∃ x, r.1 = some (wk_i x)) ∧ lw_T r.2 n m) 272 0 (ae_args [wk_r 114, wk_i x1] 0) [] h := by
  have bn := I.2.2.2.1
  have bm := I.2.2.2.2
  have hPre : sv_Pk sv_ty sv_op (wa_x (fun _ => 0) 0 [114, x1, m]) svC_212.2.2.1 (ae_args [wk_r 114, wk_i x1] 0) h := lp_Pi ⟨by show (0 : Int) ≤ 114 ∧ (114 : Int) ≤ 255; omega, lp_bI h1, bm.2, trivial⟩ rfl ⟨lp_l1 (k := 114) (by decide) rfl rfl lp_tyR, lp_l0 (by decide) rfl h1, trivial⟩ ⟨wa_F0 (k := 114) (by decide) (by decide) rfl lp_tyR bm.1 (lp_n bm.2), trivial⟩ trivial trivial
  refine sv_G_mono (fun r hr => ?_) (svC_212_ok (wa_x (fun _ => 0) 0 [114, x1, m]) _ h I.1 hPre)
  obtain ⟨P, hPm, ρ', hag, hPk, hT, -⟩ := hr
  have hPm : P ∈ [(0, [(0, 255), ((-2147483648), 2147483647), (0, 740), (0, 1), (0, 740)], [(0, [(2, (-1)), (4, 1)]), (0, [(2, 1), (4, (-1))])], [(1000, (0, 0, (0, [(3, 1)])))], [((0, 12, 2), (0, 0, (0, [(4, 1)])))], [], [])] := hPm
  cases List.mem_singleton.mp hPm
  obtain ⟨lr, ir⟩ := wa_loc0 hPk (i := 1000) (s := 3) rfl
  have er := lp_rl lr
  obtain ⟨a3, d1, d2, d3, d4⟩ := wa_fld0 (r := 0) (t := 12) (j := 2) (s := 4) hPk (List.mem_cons_self)
  rw [tU_12 d2 lp_tyR] at d3
  have e1 : ρ' 4 = ρ' 2 := lp_e1 (hPk.2.1 _ (List.mem_cons_self)).1 (hPk.2.1 _ (List.mem_cons_of_mem _ (List.mem_cons_self))).1
  have e2 : ρ' 2 = m := hag 2 (by decide)
  rw [e1, e2] at d3 d4
  exact ⟨⟨_, er⟩, lw_r I hT (by decide +kernel) (lw_frR (by decide +kernel) I.1 hT.2 I.2.2.1) d3 d4⟩
/-- Ref.use -/
theorem lr_274 {h : ae_H} {n m : Int} (I : lw_T h n m) {x1 : Int} (h1 : sv_I x1) : sv_G (fun r => (∃ x, r.1 = some (wk_i x)) ∧ lw_T r.2 n m) 274 0 (ae_args [wk_r 114, wk_i x1] 0) [] h := by
  have bn := I.2.2.2.1
  have bm := I.2.2.2.2
  have hPre : sv_Pk sv_ty sv_op (wa_x (fun _ => 0) 0 [114, x1, m]) svC_213.2.2.1 (ae_args [wk_r 114, wk_i x1] 0) h := lp_Pi ⟨by show (0 : Int) ≤ 114 ∧ (114 : Int) ≤ 255; omega, lp_bI h1, bm.2, trivial⟩ rfl ⟨lp_l1 (k := 114) (by decide) rfl rfl lp_tyR, lp_l0 (by decide) rfl h1, trivial⟩ ⟨wa_F0 (k := 114) (by decide) (by decide) rfl lp_tyR bm.1 (lp_n bm.2), trivial⟩ trivial trivial
  refine sv_G_mono (fun r hr => ?_) (svC_213_ok (wa_x (fun _ => 0) 0 [114, x1, m]) _ h I.1 hPre)
  obtain ⟨P, hPm, ρ', hag, hPk, hT, -⟩ := hr
  have hPm : P ∈ [(0, [(0, 255), ((-2147483648), 2147483647), (0, 740), ((-2147483648), 2147483647), (0, 740)], [(0, [(2, (-1)), (4, 1)]), (0, [(2, 1), (4, (-1))])], [(1000, (0, 0, (0, [(3, 1)])))], [((0, 12, 2), (0, 0, (0, [(4, 1)])))], [], [])] := hPm
  cases List.mem_singleton.mp hPm
  obtain ⟨lr, ir⟩ := wa_loc0 hPk (i := 1000) (s := 3) rfl
  have er := lp_rl lr
  obtain ⟨a3, d1, d2, d3, d4⟩ := wa_fld0 (r := 0) (t := 12) (j := 2) (s := 4) hPk (List.mem_cons_self)
  rw [tU_12 d2 lp_tyR] at d3
  have e1 : ρ' 4 = ρ' 2 := lp_e1 (hPk.2.1 _ (List.mem_cons_self)).1 (hPk.2.1 _ (List.mem_cons_of_mem _ (List.mem_cons_self))).1
  have e2 : ρ' 2 = m := hag 2 (by decide)
  rw [e1, e2] at d3 d4
  exact ⟨⟨_, er⟩, lw_r I hT (by decide +kernel) (lw_frR (by decide +kernel) I.1 hT.2 I.2.2.1) d3 d4⟩
/-- Ref.apart -/
theorem lr_277 {h : ae_H} {n m : Int} (I : lw_T h n m) {x1 : Int} (h1 : sv_I x1) {x2 : Int} (h2 : sv_I x2) : sv_G (fun r => (∃ x, r.1 = some (wk_i x)) ∧ lw_T r.2 n m) 277 0 (ae_args [wk_r 114, wk_i x1, wk_i x2] 0) [] h := by
  have bn := I.2.2.2.1
  have bm := I.2.2.2.2
  have hPre : sv_Pk sv_ty sv_op (wa_x (fun _ => 0) 0 [114, x1, x2, m]) svC_214.2.2.1 (ae_args [wk_r 114, wk_i x1, wk_i x2] 0) h := lp_Pi ⟨by show (0 : Int) ≤ 114 ∧ (114 : Int) ≤ 255; omega, lp_bI h1, lp_bI h2, bm.2, trivial⟩ rfl ⟨lp_l1 (k := 114) (by decide) rfl rfl lp_tyR, lp_l0 (by decide) rfl h1, lp_l0 (by decide) rfl h2, trivial⟩ ⟨wa_F0 (k := 114) (by decide) (by decide) rfl lp_tyR bm.1 (lp_n bm.2), trivial⟩ trivial trivial
  refine sv_G_mono (fun r hr => ?_) (svC_214_ok (wa_x (fun _ => 0) 0 [114, x1, x2, m]) _ h I.1 hPre)
  obtain ⟨P, hPm, ρ', hag, hPk, hT, -⟩ := hr
  have hPm : P ∈ [(0, [(0, 255), ((-2147483648), 2147483647), ((-2147483648), 2147483647), (0, 740), ((-2147483648), 2147483647), (0, 740)], [(0, [(3, (-1)), (5, 1)]), (0, [(3, 1), (5, (-1))])], [(1000, (0, 0, (0, [(4, 1)])))], [((0, 12, 2), (0, 0, (0, [(5, 1)])))], [], [])] := hPm
  cases List.mem_singleton.mp hPm
  obtain ⟨lr, ir⟩ := wa_loc0 hPk (i := 1000) (s := 4) rfl
  have er := lp_rl lr
  obtain ⟨a3, d1, d2, d3, d4⟩ := wa_fld0 (r := 0) (t := 12) (j := 2) (s := 5) hPk (List.mem_cons_self)
  rw [tU_12 d2 lp_tyR] at d3
  have e1 : ρ' 5 = ρ' 3 := lp_e1 (hPk.2.1 _ (List.mem_cons_self)).1 (hPk.2.1 _ (List.mem_cons_of_mem _ (List.mem_cons_self))).1
  have e2 : ρ' 3 = m := hag 3 (by decide)
  rw [e1, e2] at d3 d4
  exact ⟨⟨_, er⟩, lw_r I hT (by decide +kernel) (lw_frR (by decide +kernel) I.1 hT.2 I.2.2.1) d3 d4⟩
/-- Ref.friday -/
theorem lr_278 {h : ae_H} {n m : Int} (I : lw_T h n m)  : sv_G (fun r => (∃ x, r.1 = some (wk_i x)) ∧ lw_T r.2 n 0) 278 0 (ae_args [wk_r 114] 0) [] h := by
  have bn := I.2.2.2.1
  have bm := I.2.2.2.2
  have hPre : sv_Pk sv_ty sv_op (wa_x (fun _ => 0) 0 [114]) svC_234.2.2.1 (ae_args [wk_r 114] 0) h := lp_Pi ⟨by show (0 : Int) ≤ 114 ∧ (114 : Int) ≤ 255; omega, trivial⟩ rfl ⟨lp_l1 (k := 114) (by decide) rfl rfl lp_tyR, trivial⟩ trivial trivial trivial
  refine sv_G_mono (fun r hr => ?_) (svC_234_ok (wa_x (fun _ => 0) 0 [114]) _ h I.1 hPre)
  obtain ⟨P, hPm, ρ', hag, hPk, hT, -⟩ := hr
  have hPm : P ∈ [(0, [(0, 255), ((-2147483648), 2147483647), (0, 0)], [], [(1000, (0, 0, (0, [(1, 1)])))], [((0, 12, 2), (0, 0, (0, [(2, 1)])))], [], [])] := hPm
  cases List.mem_singleton.mp hPm
  obtain ⟨lr, ir⟩ := wa_loc0 hPk (i := 1000) (s := 1) rfl
  have er := lp_rl lr
  obtain ⟨a3, d1, d2, d3, d4⟩ := wa_fld0 (r := 0) (t := 12) (j := 2) (s := 2) hPk (List.mem_cons_self)
  rw [tU_12 d2 lp_tyR] at d3
  have e1 : 0 ≤ ρ' 2 ∧ ρ' 2 ≤ 0 := hPk.1 2 (0, 0) rfl
  have e2 : ρ' 2 = 0 := by omega
  rw [e2] at d3 d4
  exact ⟨⟨_, er⟩, lw_r I hT (by decide +kernel) (lw_frR (by decide +kernel) I.1 hT.2 I.2.2.1) d3 d4⟩
/-- Ref.fridayAt -/
theorem lr_281 {h : ae_H} {n m : Int} (I : lw_T h n m) {x1 : Int} (h1 : sv_I x1) : sv_G (fun r => (∃ x, r.1 = some (wk_i x)) ∧ lw_T r.2 n m) 281 0 (ae_args [wk_r 114, wk_i x1] 0) [] h := by
  have bn := I.2.2.2.1
  have bm := I.2.2.2.2
  have hPre : sv_Pk sv_ty sv_op (wa_x (fun _ => 0) 0 [114, x1, m]) svC_215.2.2.1 (ae_args [wk_r 114, wk_i x1] 0) h := lp_Pi ⟨by show (0 : Int) ≤ 114 ∧ (114 : Int) ≤ 255; omega, lp_bI h1, bm.2, trivial⟩ rfl ⟨lp_l1 (k := 114) (by decide) rfl rfl lp_tyR, lp_l0 (by decide) rfl h1, trivial⟩ ⟨wa_F0 (k := 114) (by decide) (by decide) rfl lp_tyR bm.1 (lp_n bm.2), trivial⟩ trivial trivial
  refine sv_G_mono (fun r hr => ?_) (svC_215_ok (wa_x (fun _ => 0) 0 [114, x1, m]) _ h I.1 hPre)
  obtain ⟨P, hPm, ρ', hag, hPk, hT, -⟩ := hr
  have hPm : P ∈ [(0, [(0, 255), ((-2147483648), 2147483647), (0, 740), ((-2147483648), 2147483647), (0, 740)], [(0, [(2, (-1)), (4, 1)]), (0, [(2, 1), (4, (-1))])], [(1000, (0, 0, (0, [(3, 1)])))], [((0, 12, 2), (0, 0, (0, [(4, 1)])))], [], [])] := hPm
  cases List.mem_singleton.mp hPm
  obtain ⟨lr, ir⟩ := wa_loc0 hPk (i := 1000) (s := 3) rfl
  have er := lp_rl lr
  obtain ⟨a3, d1, d2, d3, d4⟩ := wa_fld0 (r := 0) (t := 12) (j := 2) (s := 4) hPk (List.mem_cons_self)
  rw [tU_12 d2 lp_tyR] at d3
  have e1 : ρ' 4 = ρ' 2 := lp_e1 (hPk.2.1 _ (List.mem_cons_self)).1 (hPk.2.1 _ (List.mem_cons_of_mem _ (List.mem_cons_self))).1
  have e2 : ρ' 2 = m := hag 2 (by decide)
  rw [e1, e2] at d3 d4
  exact ⟨⟨_, er⟩, lw_r I hT (by decide +kernel) (lw_frR (by decide +kernel) I.1 hT.2 I.2.2.1) d3 d4⟩
/-- Ref.count -/
theorem lr_282 {h : ae_H} {n m : Int} (I : lw_T h n m) {x1 : Int} (h1 : sv_I x1) : sv_G (fun r => (∃ x, r.1 = some (wk_i x)) ∧ lw_T r.2 n m) 282 0 (ae_args [wk_r 114, wk_i x1] 0) [] h := by
  have bn := I.2.2.2.1
  have bm := I.2.2.2.2
  have hPre : sv_Pk sv_ty sv_op (wa_x (fun _ => 0) 0 [114, x1, m]) svC_216.2.2.1 (ae_args [wk_r 114, wk_i x1] 0) h := lp_Pi ⟨by show (0 : Int) ≤ 114 ∧ (114 : Int) ≤ 255; omega, lp_bI h1, bm.2, trivial⟩ rfl ⟨lp_l1 (k := 114) (by decide) rfl rfl lp_tyR, lp_l0 (by decide) rfl h1, trivial⟩ ⟨wa_F0 (k := 114) (by decide) (by decide) rfl lp_tyR bm.1 (lp_n bm.2), trivial⟩ trivial trivial
  refine sv_G_mono (fun r hr => ?_) (svC_216_ok (wa_x (fun _ => 0) 0 [114, x1, m]) _ h I.1 hPre)
  obtain ⟨P, hPm, ρ', hag, hPk, hT, -⟩ := hr
  have hPm : P ∈ [(0, [(0, 255), ((-2147483648), 2147483647), (0, 740), ((-2147483648), 2147483647), (0, 740)], [(0, [(2, (-1)), (4, 1)]), (0, [(2, 1), (4, (-1))])], [(1000, (0, 0, (0, [(3, 1)])))], [((0, 12, 2), (0, 0, (0, [(4, 1)])))], [], [])] := hPm
  cases List.mem_singleton.mp hPm
  obtain ⟨lr, ir⟩ := wa_loc0 hPk (i := 1000) (s := 3) rfl
  have er := lp_rl lr
  obtain ⟨a3, d1, d2, d3, d4⟩ := wa_fld0 (r := 0) (t := 12) (j := 2) (s := 4) hPk (List.mem_cons_self)
  rw [tU_12 d2 lp_tyR] at d3
  have e1 : ρ' 4 = ρ' 2 := lp_e1 (hPk.2.1 _ (List.mem_cons_self)).1 (hPk.2.1 _ (List.mem_cons_of_mem _ (List.mem_cons_self))).1
  have e2 : ρ' 2 = m := hag 2 (by decide)
  rw [e1, e2] at d3 d4
  exact ⟨⟨_, er⟩, lw_r I hT (by decide +kernel) (lw_frR (by decide +kernel) I.1 hT.2 I.2.2.1) d3 d4⟩
/-- Ref.column -/
theorem lr_193 {h : ae_H} {n m : Int} (I : lw_T h n m) {x1 : Int} (h1 : sv_I x1) {x2 : Int} (h2 : sv_I x2) {x3 : Int} (h3 : sv_I x3) : sv_G (fun r => (∃ x, r.1 = some (wk_i x)) ∧ lw_T r.2 n m) 193 0 (ae_args [wk_r 114, wk_i x1, wk_i x2, wk_i x3] 0) [] h := by
  have bn := I.2.2.2.1
  have bm := I.2.2.2.2
  have hPre : sv_Pk sv_ty sv_op (wa_x (fun _ => 0) 0 [114, x1, x2, x3, m]) svC_183.2.2.1 (ae_args [wk_r 114, wk_i x1, wk_i x2, wk_i x3] 0) h := lp_Pi ⟨by show (0 : Int) ≤ 114 ∧ (114 : Int) ≤ 255; omega, lp_bI h1, lp_bI h2, lp_bI h3, bm.2, trivial⟩ rfl ⟨lp_l1 (k := 114) (by decide) rfl rfl lp_tyR, lp_l0 (by decide) rfl h1, lp_l0 (by decide) rfl h2, lp_l0 (by decide) rfl h3, trivial⟩ ⟨wa_F0 (k := 114) (by decide) (by decide) rfl lp_tyR bm.1 (lp_n bm.2), trivial⟩ trivial trivial
  refine sv_G_mono (fun r hr => ?_) (svC_183_ok (wa_x (fun _ => 0) 0 [114, x1, x2, x3, m]) _ h I.1 hPre)
  obtain ⟨P, hPm, ρ', hag, hPk, hT, -⟩ := hr
  have hPm : P ∈ [(0, [(0, 255), ((-2147483648), 2147483647), ((-2147483648), 2147483647), ((-2147483648), 2147483647), (0, 740), ((-2147483648), 2147483647), (0, 740)], [(0, [(4, (-1)), (6, 1)]), (0, [(4, 1), (6, (-1))])], [(1000, (0, 0, (0, [(5, 1)])))], [((0, 12, 2), (0, 0, (0, [(6, 1)])))], [], [])] := hPm
  cases List.mem_singleton.mp hPm
  obtain ⟨lr, ir⟩ := wa_loc0 hPk (i := 1000) (s := 5) rfl
  have er := lp_rl lr
  obtain ⟨a3, d1, d2, d3, d4⟩ := wa_fld0 (r := 0) (t := 12) (j := 2) (s := 6) hPk (List.mem_cons_self)
  rw [tU_12 d2 lp_tyR] at d3
  have e1 : ρ' 6 = ρ' 4 := lp_e1 (hPk.2.1 _ (List.mem_cons_self)).1 (hPk.2.1 _ (List.mem_cons_of_mem _ (List.mem_cons_self))).1
  have e2 : ρ' 4 = m := hag 4 (by decide)
  rw [e1, e2] at d3 d4
  exact ⟨⟨_, er⟩, lw_r I hT (by decide +kernel) (lw_frR (by decide +kernel) I.1 hT.2 I.2.2.1) d3 d4⟩
/-- Ref.bar -/
theorem lr_227 {h : ae_H} {n m : Int} (I : lw_T h n m) {x1 : Int} (h1 : sv_I x1) {x2 : Int} (h2 : sv_I x2) : sv_G (fun r => (∃ x, r.1 = some (wk_i x)) ∧ lw_T r.2 n m) 227 0 (ae_args [wk_r 114, wk_i x1, wk_i x2] 0) [] h := by
  have bn := I.2.2.2.1
  have bm := I.2.2.2.2
  have hPre : sv_Pk sv_ty sv_op (wa_x (fun _ => 0) 0 [114, x1, x2, m]) svC_188.2.2.1 (ae_args [wk_r 114, wk_i x1, wk_i x2] 0) h := lp_Pi ⟨by show (0 : Int) ≤ 114 ∧ (114 : Int) ≤ 255; omega, lp_bI h1, lp_bI h2, bm.2, trivial⟩ rfl ⟨lp_l1 (k := 114) (by decide) rfl rfl lp_tyR, lp_l0 (by decide) rfl h1, lp_l0 (by decide) rfl h2, trivial⟩ ⟨wa_F0 (k := 114) (by decide) (by decide) rfl lp_tyR bm.1 (lp_n bm.2), trivial⟩ trivial trivial
  refine sv_G_mono (fun r hr => ?_) (svC_188_ok (wa_x (fun _ => 0) 0 [114, x1, x2, m]) _ h I.1 hPre)
  obtain ⟨P, hPm, ρ', hag, hPk, hT, -⟩ := hr
  have hPm : P ∈ [(0, [(0, 255), ((-2147483648), 2147483647), ((-2147483648), 2147483647), (0, 740), ((-2147483648), 2147483647), (0, 740)], [(0, [(3, (-1)), (5, 1)]), (0, [(3, 1), (5, (-1))])], [(1000, (0, 0, (0, [(4, 1)])))], [((0, 12, 2), (0, 0, (0, [(5, 1)])))], [], [])] := hPm
  cases List.mem_singleton.mp hPm
  obtain ⟨lr, ir⟩ := wa_loc0 hPk (i := 1000) (s := 4) rfl
  have er := lp_rl lr
  obtain ⟨a3, d1, d2, d3, d4⟩ := wa_fld0 (r := 0) (t := 12) (j := 2) (s := 5) hPk (List.mem_cons_self)
  rw [tU_12 d2 lp_tyR] at d3
  have e1 : ρ' 5 = ρ' 3 := lp_e1 (hPk.2.1 _ (List.mem_cons_self)).1 (hPk.2.1 _ (List.mem_cons_of_mem _ (List.mem_cons_self))).1
  have e2 : ρ' 3 = m := hag 3 (by decide)
  rw [e1, e2] at d3 d4
  exact ⟨⟨_, er⟩, lw_r I hT (by decide +kernel) (lw_frR (by decide +kernel) I.1 hT.2 I.2.2.1) d3 d4⟩
/-- Ref.wheel -/
theorem lr_228 {h : ae_H} {n m : Int} (I : lw_T h n m) {x1 : Int} (h1 : sv_I x1) : sv_G (fun r => (∃ x, r.1 = some (wk_i x)) ∧ lw_T r.2 n m) 228 0 (ae_args [wk_r 114, wk_i x1] 0) [] h := by
  have bn := I.2.2.2.1
  have bm := I.2.2.2.2
  have hPre : sv_Pk sv_ty sv_op (wa_x (fun _ => 0) 0 [114, x1, m]) svC_189.2.2.1 (ae_args [wk_r 114, wk_i x1] 0) h := lp_Pi ⟨by show (0 : Int) ≤ 114 ∧ (114 : Int) ≤ 255; omega, lp_bI h1, bm.2, trivial⟩ rfl ⟨lp_l1 (k := 114) (by decide) rfl rfl lp_tyR, lp_l0 (by decide) rfl h1, trivial⟩ ⟨wa_F0 (k := 114) (by decide) (by decide) rfl lp_tyR bm.1 (lp_n bm.2), trivial⟩ trivial trivial
  refine sv_G_mono (fun r hr => ?_) (svC_189_ok (wa_x (fun _ => 0) 0 [114, x1, m]) _ h I.1 hPre)
  obtain ⟨P, hPm, ρ', hag, hPk, hT, -⟩ := hr
  have hPm : P ∈ [(0, [(0, 255), ((-2147483648), 2147483647), (0, 740), ((-2147483648), 2147483647), (0, 740)], [(0, [(2, (-1)), (4, 1)]), (0, [(2, 1), (4, (-1))])], [(1000, (0, 0, (0, [(3, 1)])))], [((0, 12, 2), (0, 0, (0, [(4, 1)])))], [], [])] := hPm
  cases List.mem_singleton.mp hPm
  obtain ⟨lr, ir⟩ := wa_loc0 hPk (i := 1000) (s := 3) rfl
  have er := lp_rl lr
  obtain ⟨a3, d1, d2, d3, d4⟩ := wa_fld0 (r := 0) (t := 12) (j := 2) (s := 4) hPk (List.mem_cons_self)
  rw [tU_12 d2 lp_tyR] at d3
  have e1 : ρ' 4 = ρ' 2 := lp_e1 (hPk.2.1 _ (List.mem_cons_self)).1 (hPk.2.1 _ (List.mem_cons_of_mem _ (List.mem_cons_self))).1
  have e2 : ρ' 2 = m := hag 2 (by decide)
  rw [e1, e2] at d3 d4
  exact ⟨⟨_, er⟩, lw_r I hT (by decide +kernel) (lw_frR (by decide +kernel) I.1 hT.2 I.2.2.1) d3 d4⟩
/-- Ref.wantedAt -/
theorem lr_270 {h : ae_H} {n m : Int} (I : lw_T h n m) {x1 : Int} (h1 : sv_I x1) {x2 : Int} (h2 : sv_I x2) : sv_G (fun r => (∃ x, r.1 = some (wk_i x)) ∧ lw_T r.2 n m) 270 0 (ae_args [wk_r 114, wk_i x1, wk_i x2] 0) [] h := by
  have bn := I.2.2.2.1
  have bm := I.2.2.2.2
  have hPre : sv_Pk sv_ty sv_op (wa_x (fun _ => 0) 0 [114, x1, x2, m]) svC_206.2.2.1 (ae_args [wk_r 114, wk_i x1, wk_i x2] 0) h := lp_Pi ⟨by show (0 : Int) ≤ 114 ∧ (114 : Int) ≤ 255; omega, lp_bI h1, lp_bI h2, bm.2, trivial⟩ rfl ⟨lp_l1 (k := 114) (by decide) rfl rfl lp_tyR, lp_l0 (by decide) rfl h1, lp_l0 (by decide) rfl h2, trivial⟩ ⟨wa_F0 (k := 114) (by decide) (by decide) rfl lp_tyR bm.1 (lp_n bm.2), trivial⟩ trivial trivial
  refine sv_G_mono (fun r hr => ?_) (svC_206_ok (wa_x (fun _ => 0) 0 [114, x1, x2, m]) _ h I.1 hPre)
  obtain ⟨P, hPm, ρ', hag, hPk, hT, -⟩ := hr
  have hPm : P ∈ [(0, [(0, 255), ((-2147483648), 2147483647), ((-2147483648), 2147483647), (0, 740), ((-2147483648), 2147483647), (0, 740)], [(0, [(3, (-1)), (5, 1)]), (0, [(3, 1), (5, (-1))])], [(1000, (0, 0, (0, [(4, 1)])))], [((0, 12, 2), (0, 0, (0, [(5, 1)])))], [], [])] := hPm
  cases List.mem_singleton.mp hPm
  obtain ⟨lr, ir⟩ := wa_loc0 hPk (i := 1000) (s := 4) rfl
  have er := lp_rl lr
  obtain ⟨a3, d1, d2, d3, d4⟩ := wa_fld0 (r := 0) (t := 12) (j := 2) (s := 5) hPk (List.mem_cons_self)
  rw [tU_12 d2 lp_tyR] at d3
  have e1 : ρ' 5 = ρ' 3 := lp_e1 (hPk.2.1 _ (List.mem_cons_self)).1 (hPk.2.1 _ (List.mem_cons_of_mem _ (List.mem_cons_self))).1
  have e2 : ρ' 3 = m := hag 3 (by decide)
  rw [e1, e2] at d3 d4
  exact ⟨⟨_, er⟩, lw_r I hT (by decide +kernel) (lw_frR (by decide +kernel) I.1 hT.2 I.2.2.1) d3 d4⟩
/-- Ref.job -/
theorem lr_256 {h : ae_H} {n m : Int} (I : lw_T h n m)  : sv_G (fun r => (∃ x, r.1 = some (wk_i x)) ∧ lw_T r.2 n 0) 256 0 (ae_args [wk_r 114] 0) [] h := by
  have bn := I.2.2.2.1
  have bm := I.2.2.2.2
  obtain ⟨k62, fr62, ty62⟩ := wk_ref (j := 62) I.1 lp_tyR tT_12 rfl
  rw [tU_88 ty62 lp_ty88] at fr62
  obtain ⟨k63, fr63, ty63⟩ := wk_ref (j := 63) I.1 lp_tyR tT_12 rfl
  rw [tU_89 ty63 lp_ty89] at fr63
  obtain ⟨k66, fr66, ty66⟩ := wk_ref (j := 66) I.1 lp_tyR tT_12 rfl
  rw [tU_92 ty66 lp_ty92] at fr66
  obtain ⟨k67, fr67, ty67⟩ := wk_ref (j := 67) I.1 lp_tyR tT_12 rfl
  rw [tU_93 ty67 lp_ty93] at fr67
  have hPre : sv_Pk sv_ty sv_op (wa_x (fun _ => 0) 0 [114, 151, wk_R h 151 0, 155, wk_R h 155 0, 152, 156]) svC_224.2.2.1 (ae_args [wk_r 114] 0) h := lp_Pi ⟨by show (0 : Int) ≤ 114 ∧ (114 : Int) ≤ 255; omega, by show (0 : Int) ≤ 151 ∧ (151 : Int) ≤ 255; omega, lp_row I.1 lp_ty88 tT_88 (by omega) (by decide), by show (0 : Int) ≤ 155 ∧ (155 : Int) ≤ 255; omega, lp_row I.1 lp_ty92 tT_92 (by omega) (by decide), by show (0 : Int) ≤ 152 ∧ (152 : Int) ≤ 255; omega, by show (0 : Int) ≤ 156 ∧ (156 : Int) ≤ 255; omega, trivial⟩ rfl ⟨lp_l1 (k := 114) (by decide) rfl rfl lp_tyR, trivial⟩ ⟨wa_F1 (k := 114) (k2 := 151) (by decide) (by decide) rfl lp_tyR rfl lp_ty88 fr62, wa_F1 (k := 114) (k2 := 152) (by decide) (by decide) rfl lp_tyR rfl lp_ty89 fr63, wa_F1 (k := 114) (k2 := 155) (by decide) (by decide) rfl lp_tyR rfl lp_ty92 fr66, wa_F1 (k := 114) (k2 := 156) (by decide) (by decide) rfl lp_tyR rfl lp_ty93 fr67, trivial⟩ ⟨wa_M (k := 151) (i := 0) I.1 (by decide) (by decide) (sv_wf0 _ _) rfl lp_ty88 tT_88 (sv_ev0 _ _) ⟨by omega, by decide⟩ rfl, wa_M (k := 155) (i := 0) I.1 (by decide) (by decide) (sv_wf0 _ _) rfl lp_ty92 tT_92 (sv_ev0 _ _) ⟨by omega, by decide⟩ rfl, trivial⟩ ⟨lp_q (k := 152) (by decide) (fun q hq => by cases List.mem_singleton.mp hq; decide) (sv_wf0 _ _) (sv_wf0 _ _) rfl lp_ty89 (fun j a b => by rw [wa_ev1] at b; exact I.2.2.1.1 j a b), lp_q (k := 156) (by decide) (fun q hq => by cases List.mem_singleton.mp hq; decide) (sv_wf0 _ _) (fun q hq => by cases List.mem_singleton.mp hq; decide) rfl lp_ty93 (fun j a b => by rw [wa_ev1] at b; have q := I.2.2.1.2 j a b; exact ⟨q.1, by show _ ≤ (-1 : Int) + (1 * wk_R h 151 0 + 0); omega⟩), trivial⟩
  refine sv_G_mono (fun r hr => ?_) (svC_224_ok (wa_x (fun _ => 0) 0 [114, 151, wk_R h 151 0, 155, wk_R h 155 0, 152, 156]) _ h I.1 hPre)
  obtain ⟨P, hPm, ρ', hag, hPk, hT, -⟩ := hr
  have hPm : P ∈ [(0, [(0, 255), (0, 2147483647), (0, 6), (0, 2147483647), (0, 8), (0, 2147483647), (0, 2147483647), ((-2147483648), 2147483647), (0, 0), (0, 255), (0, 6), (0, 255), (0, 8), (0, 255), (0, 255)], [], [(1000, (0, 0, (0, [(7, 1)])))], [((0, 12, 2), (0, 0, (0, [(8, 1)]))), ((0, 12, 62), (1, 88, (0, [(9, 1)]))), ((0, 12, 63), (1, 89, (0, [(13, 1)]))), ((0, 12, 66), (1, 92, (0, [(11, 1)]))), ((0, 12, 67), (1, 93, (0, [(14, 1)])))], [(9, 88, (0, []), (0, [(10, 1)])), (11, 92, (0, []), (0, [(12, 1)]))], [(0, (13, 89), (13, 89), 1, (0, []), (0, [(10, 1)]), (1, []), (20, [])), (0, (14, 93), (14, 93), 1, (0, []), (0, [(12, 1)]), ((-1), []), ((-1), [(10, 1)]))])] := hPm
  cases List.mem_singleton.mp hPm
  obtain ⟨lr, ir⟩ := wa_loc0 hPk (i := 1000) (s := 7) rfl
  have er := lp_rl lr
  obtain ⟨a3, d1, d2, d3, d4⟩ := wa_fld0 (r := 0) (t := 12) (j := 2) (s := 8) hPk (List.mem_cons_self)
  rw [tU_12 d2 lp_tyR] at d3
  obtain ⟨u62, v62, w62, y62, z62⟩ := wa_mem (r := 9) (t := 88) hPk (List.mem_cons_self)
  rw [tU_88 w62 lp_ty88, wa_ev1, sv_ev0] at z62
  obtain ⟨u66, v66, w66, y66, z66⟩ := wa_mem (r := 11) (t := 92) hPk (List.mem_cons_of_mem _ (List.mem_cons_self))
  rw [tU_92 w66 lp_ty92, wa_ev1, sv_ev0] at z66
  obtain ⟨u63, v63, w63, z63⟩ := lp_qx hT.1 tT_89 (hPk.2.2.2.2.2 _ (List.mem_cons_self))
  rw [tU_89 w63 lp_ty89, wa_ev1] at z63
  obtain ⟨u67, v67, w67, z67⟩ := lp_qx hT.1 tT_93 (hPk.2.2.2.2.2 _ (List.mem_cons_of_mem _ (List.mem_cons_self)))
  rw [tU_93 w67 lp_ty93, wa_ev1] at z67
  have l62 := lp_row hT.1 lp_ty88 tT_88 (i := 0) (by omega) (by decide)
  have l66 := lp_row hT.1 lp_ty92 tT_92 (i := 0) (by omega) (by decide)
  have hR : lj_R r.2 := ⟨fun j a b => z63 j a (by omega) (by show j < 12; omega), fun j a b => by
    have q := z67 j a (by omega) (by show j < 16; omega)
    have q2 : wk_R r.2 156 j ≤ -1 + (1 * ρ' 10 + 0) := q.2
    exact ⟨q.1, by omega⟩⟩
  have e1 : 0 ≤ ρ' 8 ∧ ρ' 8 ≤ 0 := hPk.1 8 (0, 0) rfl
  have e2 : ρ' 8 = 0 := by omega
  rw [e2] at d3 d4
  exact ⟨⟨_, er⟩, lw_r I hT (by decide +kernel) hR d3 d4⟩
/-- PlugHall.job -/
theorem lc_163 {h : ae_H} {n m : Int} (I : lw_T h n m) : sv_G (fun r => (∃ x, r.1 = some (wk_i x)) ∧ lw_T r.2 0 m) 163 0 (ae_args [wk_r 0] 0) [] h :=
  wz_job I.1 I.2.1 rfl (fun h2 x hx T J e => by
    obtain ⟨y, f, hy, c1, c2⟩ := wk_int (j := 1) T.1 wz_ty1 tT_9 rfl
    exact ⟨⟨x, rfl⟩, T.1, J, lw_frR (by decide +kernel) I.1 T.2 I.2.2.1, ⟨e, by omega, by omega⟩, (wk_fr_F I.1 T.2 lp_tyR tT_12 rfl (by decide)).trans I.2.2.2.2.1, I.2.2.2.2.2⟩)
