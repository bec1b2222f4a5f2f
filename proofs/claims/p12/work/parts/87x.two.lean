/-! THE CALLS IN PAIRS over the heap: lw_T (typed) and lx_P t (what is looked at) -/
def lw_I (t : Int) (h : ae_H) (n m : Int) : Prop := lw_T h n m ∧ dc_ok h ∧ lx_P t (dc_m h)
theorem lx_run {Q : ae_R → Prop} {mi pc : Nat} {lv : ae_L} {st : List ae_V} {h : ae_H} (g : sv_G Q mi pc lv st h) : sv_G (fun r => Q r ∧ ∃ n, ae_exe n mi pc 0 0 lv st h = some r) mi pc lv st h := by
  obtain ⟨r, hr, N, hN⟩ := g
  exact ⟨r, ⟨hr, N, hN N (Nat.le_refl N)⟩, N, hN⟩
theorem lx_Fv {h : ae_H} {k j : Nat} {v : ae_V} (e : wk_F h k j = some v) : dc_m h k (j : Int) = dc_v v := by
  unfold wk_F at e
  unfold dc_m
  rw [if_neg (by omega), Int.toNat_natCast]
  cases hg : ae_hg h k with
  | none => rw [hg] at e; cases e
  | some c =>
    rw [hg] at e
    match c, e with
    | .inr (ci, fs), e =>
      have e : fs[j]? = some v := e
      show (match fs[j]? with
        | some v => dc_v v
        | none => 0) = dc_v v
      rw [e]
    | .inl q, e => cases e
theorem lx_F {h : ae_H} {k j : Nat} {n : Int} (e : wk_F h k j = some (wk_i n)) (hI : sv_I n) : dc_m h k (j : Int) = n := by
  rw [lx_Fv e]
  show sv_g (sv_u n) = n
  exact sv_g_u hI
theorem lw_n1 {h : ae_H} {n : Int} (q : lw_n h 1 1 n) : dc_m h 1 1 = n := lx_F (j := 1) q.1 (lp_n q.2)
theorem lw_n2 {h : ae_H} {n : Int} (q : lw_n h 114 2 n) : dc_m h 114 2 = n := lx_F (j := 2) q.1 (lp_n q.2)
/-- what a thrower leaves: all but one cell of the reference's -/
theorem lx_thr {h h2 : ae_H} (hk : sv_hk sv_ty sv_tt h) (f : sv_fr sv_ty [(12, 0)] h h2) {k : Nat} {i : Int} (hl : k < 174) (hn : ¬ (k = 114 ∧ i = 0)) : dc_m h2 k i = dc_m h k i := by
  by_cases i0 : i < 0
  · unfold dc_m
    rw [if_pos i0, if_pos i0]
  obtain ⟨t, ht⟩ : ∃ t, sv_ty k = some t := ⟨_, List.getElem?_eq_getElem (l := sv_tys) (show k < 174 from hl)⟩
  have key : ∀ k t : Nat, sv_ty k = some t → t = 12 → k = 114 := fun k t e e2 => by
    subst e2
    exact tU_12 e lp_tyR
  have hz : k = 114 → i.toNat ≠ 0 := fun e z => hn ⟨e, by omega⟩
  unfold dc_m
  rw [if_neg i0, if_neg i0]
  cases hg : ae_hg h k with
  | none =>
    exfalso
    obtain ⟨T, -, ho⟩ := hk k t ht
    obtain ⟨t0, t1, t2, t3, t4, t5, t6⟩ := T
    match t0, ho with
    | 0, ho =>
      obtain ⟨fs, e, -⟩ := ho
      rw [hg] at e
      cases e
    | 1, ho =>
      obtain ⟨A, e, -⟩ := ho
      rw [hg] at e
      cases e
    | 2, ho =>
      obtain ⟨A, e⟩ := ho
      rw [hg] at e
      cases e
    | 3, ho =>
      obtain ⟨l, e, -⟩ := ho
      rw [hg] at e
      cases e
    | t0 + 4, ho => exact ho.elim
  | some c =>
    have q := f k t ht c hg
    match c, q with
    | .inl c, q =>
      have q : (t, 0) ∉ [(12, 0)] → ae_hg h2 k = some (.inl c) := q
      by_cases e : t = 12
      · exfalso
        have e2 := key k t ht e
        subst e2
        obtain ⟨T, hT, ho⟩ := hk 114 12 lp_tyR
        rw [tT_12] at hT
        cases hT
        obtain ⟨fs, e5, -⟩ := ho
        rw [hg] at e5
        cases e5
      · rw [q (by simp [e])]
    | .inr (ci, fs), q =>
      obtain ⟨fs', q1, q2⟩ : ∃ fs', ae_hg h2 k = some (.inr (ci, fs')) ∧ ∀ j, (t, j) ∉ [(12, 0)] → fs'[j]? = fs[j]? := q
      rw [q1]
      show (match fs'[i.toNat]? with
        | some v => dc_v v
        | none => 0) = (match fs[i.toNat]? with
        | some v => dc_v v
        | none => 0)
      rw [q2 i.toNat (fun z => by
        have z := List.mem_singleton.mp z
        have e1 : t = 12 := congrArg Prod.fst z
        have e2 : i.toNat = 0 := congrArg Prod.snd z
        exact hz (key k t ht e1) e2)]
theorem lg_all_k {k : Nat} {i : Int} (z : lg_all k i) : k < 174 := by
  rcases z with z | z
  · exact z.el (fun z => by unfold lg_tc at z; omega) (fun z => by unfold lg_j at z; omega) (fun z => by unfold lg_bc at z; omega) (fun z => by unfold lg_xc at z; omega) (fun z => by unfold lg_uc mr_s at z; omega) (fun z => by unfold lg_nc at z; omega)
  · unfold lg_sc at z
    omega
theorem sv_fr_12 {h h2 : ae_H} (f : sv_fr sv_ty [] h h2) : sv_fr sv_ty [(12, 0)] h h2 := fun k t ht c hc => by
  have q := f k t ht c hc
  match c, q with
  | .inl c, q => exact fun _ => q List.not_mem_nil
  | .inr (ci, fs), q =>
    obtain ⟨fs', q1, q2⟩ : ∃ fs', ae_hg h2 k = some (.inr (ci, fs')) ∧ ∀ j, (t, j) ∉ [] → fs'[j]? = fs[j]? := q
    exact ⟨fs', q1, fun j _ => q2 j List.not_mem_nil⟩
theorem lx_P.up {t : Int} {m : dc_M} (P : lx_P t m) : lx_P (t + 1) m := P.qu (fun _ _ _ => rfl)
/-- a step of the class's thrower: nothing changes -/
theorem lw_t {t : Int} {h h2 : ae_H} {n m : Int} (I : lw_I t h n m) (T : sv_Tk sv_ty sv_tt [] h h2) : lw_I t h2 n m := by
  refine ⟨lw_c I.1 T rfl ((wk_fr_F I.1.1 T.2 wz_ty1 tT_9 rfl (by decide)).trans I.1.2.2.2.1.1) (lp_n I.1.2.2.2.1.2), dc_ok_fr T.1 T.2 rfl I.2.1, ?_⟩
  have f : lg_e lg_all (dc_m h) (dc_m h2) := fun k i z => lx_thr I.1.1 (sv_fr_12 T.2) (lg_all_k z) (dj_lg_all_lz_0 z)
  have P := I.2.2
  obtain ⟨T0, J, B, X, U, S, N⟩ := P
  exact ⟨T0.go (fun k i z => f k i (Or.inl (Or.inl z))), J.go (fun k i z => f k i (Or.inl (Or.inr (Or.inl z)))), B.go (fun k i z => f k i (Or.inl (Or.inr (Or.inr (Or.inl z))))), X.go (fun k i z => f k i (Or.inl (Or.inr (Or.inr (Or.inr (Or.inl z)))))), U.go (fun k i z => f k i (Or.inl (Or.inr (Or.inr (Or.inr (Or.inr (Or.inl z))))))), lg_e.s S (Int.le_refl _) (fun k i z => f k i (Or.inr z)), N.go (fun k i z => f k i (Or.inl (Or.inr (Or.inr (Or.inr (Or.inr (Or.inr z)))))))⟩
/-- two calls one behind the other, the first's answer and the second's alike -/
theorem lw_pp {A : ae_R → Prop} {a b9 : Nat} {as bs : ae_L} {h : ae_H} (g : sv_G (fun r => ∃ y, r.1 = some (wk_i y) ∧ sv_hk sv_ty sv_tt r.2 ∧ sv_G (fun r2 => r2.1 = some (wk_i y) ∧ A r2) b9 0 bs [] r.2) a 0 as [] h) : sv_G (fun r => (∃ x, r.1 = some (wk_i x)) ∧ sv_hk sv_ty sv_tt r.2 ∧ sv_G (fun r2 => (∃ x, r2.1 = some (wk_i x)) ∧ A r2) b9 0 bs [] r.2) a 0 as [] h := sv_G_mono (fun r hr => by
  obtain ⟨y, e, k, g⟩ := hr
  exact ⟨⟨y, e⟩, k, sv_G_mono (fun r2 hr2 => ⟨⟨y, hr2.1⟩, hr2.2⟩) g⟩) g
theorem lcf_144 {h : ae_H} {n m : Int} (I : lw_T h n m) {x1 : Int} (h1 : sv_I x1) {x2 : Int} (h2 : sv_I x2) {x3 : Int} (h3 : sv_I x3) {x4 : Int} (h4 : sv_I x4) {x5 : Int} (h5 : sv_I x5) : sv_G (fun r => (∃ x, r.1 = some (wk_i x)) ∧ lw_T r.2 (if n ≤ 720 then n + 20 else n) m) 144 0 (ae_args [wk_r 0, wk_i x1, wk_i x2, wk_i x3, wk_i x4, wk_i x5] 0) [] h := sv_G_mono (fun r hr => by
  rcases hr with ⟨q1, q2, q3⟩ | ⟨q1, q2, q3⟩
  · exact ⟨⟨_, q2⟩, by rw [if_pos q1]; exact q3⟩
  · exact ⟨⟨_, q2⟩, by rw [if_neg (by omega)]; exact q3⟩) (lc_144 I h1 h2 h3 h4 h5)
theorem lrf_184 {h : ae_H} {n m : Int} (I : lw_T h n m) {x1 : Int} (h1 : sv_I x1) {x2 : Int} (h2 : sv_I x2) {x3 : Int} (h3 : sv_I x3) {x4 : Int} (h4 : sv_I x4) {x5 : Int} (h5 : sv_I x5) : sv_G (fun r => (∃ x, r.1 = some (wk_i x)) ∧ lw_T r.2 n (if m ≤ 720 then m + 20 else m)) 184 0 (ae_args [wk_r 114, wk_i x1, wk_i x2, wk_i x3, wk_i x4, wk_i x5] 0) [] h := sv_G_mono (fun r hr => by
  rcases hr with ⟨q1, q2, q3⟩ | ⟨q1, q2, q3⟩
  · exact ⟨⟨_, q2⟩, by rw [if_pos q1]; exact q3⟩
  · exact ⟨⟨_, q2⟩, by rw [if_neg (by omega)]; exact q3⟩) (lr_184 I h1 h2 h3 h4 h5)
theorem lcf_145 {h : ae_H} {n m : Int} (I : lw_T h n m) {x1 : Int} (h1 : sv_I x1) : sv_G (fun r => (∃ x, r.1 = some (wk_i x)) ∧ lw_T r.2 (if 0 ≤ x1 ∧ x1 ≤ n then x1 else n) m) 145 0 (ae_args [wk_r 0, wk_i x1] 0) [] h := sv_G_mono (fun r hr => by
  rcases hr with ⟨q1, q2, q3, q4⟩ | ⟨q1, q3, q4⟩
  · exact ⟨⟨_, q3⟩, by rw [if_pos ⟨q1, q2⟩]; exact q4⟩
  · exact ⟨⟨_, q3⟩, by rw [if_neg q1]; exact q4⟩) (lc_145 I h1)
theorem lrf_186 {h : ae_H} {n m : Int} (I : lw_T h n m) {x1 : Int} (h1 : sv_I x1) : sv_G (fun r => (∃ x, r.1 = some (wk_i x)) ∧ lw_T r.2 n (if 0 ≤ x1 ∧ x1 ≤ m then x1 else m)) 186 0 (ae_args [wk_r 114, wk_i x1] 0) [] h := sv_G_mono (fun r hr => by
  rcases hr with ⟨q1, q2, q3, q4⟩ | ⟨q1, q3, q4⟩
  · exact ⟨⟨_, q3⟩, by rw [if_pos ⟨q1, q2⟩]; exact q4⟩
  · exact ⟨⟨_, q3⟩, by rw [if_neg q1]; exact q4⟩) (lr_186 I h1)
theorem lq_144 {t : Int} {h : ae_H} {n : Int} (I : lw_I t h n n) (ht : 0 ≤ t ∧ t ≤ 600) {x1 : Int} (h1 : sv_I x1) {x2 : Int} (h2 : sv_I x2) {x3 : Int} (h3 : sv_I x3) {x4 : Int} (h4 : sv_I x4) {x5 : Int} (h5 : sv_I x5) : sv_G (fun r => (∃ x, r.1 = some (wk_i x)) ∧ sv_hk sv_ty sv_tt r.2 ∧ sv_G (fun r2 => (∃ x, r2.1 = some (wk_i x)) ∧ ∃ n2, lw_I (t + 1) r2.2 n2 n2) 184 0 (ae_args [wk_r 114, wk_i x1, wk_i x2, wk_i x3, wk_i x4, wk_i x5] 0) [] r.2) 144 0 (ae_args [wk_r 0, wk_i x1, wk_i x2, wk_i x3, wk_i x4, wk_i x5] 0) [] h := by
  refine sv_G_mono (fun r hr => ?_) (lx_run (lcf_144 I.1 h1 h2 h3 h4 h5))
  obtain ⟨⟨-, T1⟩, nn, hrun⟩ := hr
  obtain ⟨v, hD, ev, -, ok⟩ := ds_144 nn x1 x2 x3 x4 x5 I.2.1 h1 h2 h3 h4 h5 hrun
  refine ⟨⟨v, ev⟩, T1.1, sv_G_mono (fun r2 hr2 => ?_) (lx_run (lrf_184 T1 h1 h2 h3 h4 h5))⟩
  obtain ⟨⟨-, T2⟩, nn2, hrun2⟩ := hr2
  obtain ⟨v2, hD2, ev2, -, ok2⟩ := ds_184 nn2 x1 x2 x3 x4 x5 ok h1 h2 h3 h4 h5 hrun2
  have P := pp_144 I.2.2 ht I.1.2.2.2.1.2 (lw_n1 I.1.2.2.2.1) (lw_n2 I.1.2.2.2.2) hD hD2
  exact ⟨⟨v2, ev2⟩, _, T2, ok2, P⟩
theorem lq_145 {t : Int} {h : ae_H} {n : Int} (I : lw_I t h n n) (ht : 0 ≤ t ∧ t ≤ 600) {x1 : Int} (h1 : sv_I x1) : sv_G (fun r => ∃ y, r.1 = some (wk_i y) ∧ sv_hk sv_ty sv_tt r.2 ∧ sv_G (fun r2 => r2.1 = some (wk_i y) ∧ ∃ n2, lw_I (t + 1) r2.2 n2 n2) 186 0 (ae_args [wk_r 114, wk_i x1] 0) [] r.2) 145 0 (ae_args [wk_r 0, wk_i x1] 0) [] h := by
  refine sv_G_mono (fun r hr => ?_) (lx_run (lcf_145 I.1 h1))
  obtain ⟨⟨-, T1⟩, nn, hrun⟩ := hr
  obtain ⟨v, hD, ev, -, ok⟩ := ds_145 nn x1 I.2.1 h1 hrun
  refine ⟨v, ev, T1.1, sv_G_mono (fun r2 hr2 => ?_) (lx_run (lrf_186 T1 h1))⟩
  obtain ⟨⟨-, T2⟩, nn2, hrun2⟩ := hr2
  obtain ⟨v2, hD2, ev2, -, ok2⟩ := ds_186 nn2 x1 ok h1 hrun2
  obtain ⟨e, P⟩ := pp_145 I.2.2 ht I.1.2.2.2.1.2 (lw_n1 I.1.2.2.2.1) (lw_n2 I.1.2.2.2.2) hD hD2
  exact ⟨by rw [← e]; exact ev2, _, T2, ok2, P⟩
theorem lq_146 {t : Int} {h : ae_H} {n : Int} (I : lw_I t h n n) (ht : 0 ≤ t ∧ t ≤ 600) {x1 : Int} (h1 : sv_I x1) : sv_G (fun r => ∃ y, r.1 = some (wk_i y) ∧ sv_hk sv_ty sv_tt r.2 ∧ sv_G (fun r2 => r2.1 = some (wk_i y) ∧ ∃ n2, lw_I (t + 1) r2.2 n2 n2) 191 0 (ae_args [wk_r 114, wk_i x1] 0) [] r.2) 146 0 (ae_args [wk_r 0, wk_i x1] 0) [] h := by
  refine sv_G_mono (fun r hr => ?_) (lx_run (lc_146 I.1 h1))
  obtain ⟨⟨-, T1⟩, nn, hrun⟩ := hr
  obtain ⟨v, hD, ev, -, ok⟩ := ds_146 nn x1 I.2.1 h1 hrun
  refine ⟨v, ev, T1.1, sv_G_mono (fun r2 hr2 => ?_) (lx_run (lr_191 T1 h1))⟩
  obtain ⟨⟨-, T2⟩, nn2, hrun2⟩ := hr2
  obtain ⟨v2, hD2, ev2, -, ok2⟩ := ds_191 nn2 x1 ok h1 hrun2
  obtain ⟨e, P⟩ := pp_146 I.2.2 ht I.1.2.2.2.1.2 (lw_n1 I.1.2.2.2.1) (lw_n2 I.1.2.2.2.2) hD hD2
  exact ⟨by rw [← e]; exact ev2, _, T2, ok2, P⟩
theorem lq_147 {t : Int} {h : ae_H} {n : Int} (I : lw_I t h n n) (ht : 0 ≤ t ∧ t ≤ 600) {x1 : Int} (h1 : sv_I x1) : sv_G (fun r => ∃ y, r.1 = some (wk_i y) ∧ sv_hk sv_ty sv_tt r.2 ∧ sv_G (fun r2 => r2.1 = some (wk_i y) ∧ ∃ n2, lw_I (t + 1) r2.2 n2 n2) 192 0 (ae_args [wk_r 114, wk_i x1] 0) [] r.2) 147 0 (ae_args [wk_r 0, wk_i x1] 0) [] h := by
  refine sv_G_mono (fun r hr => ?_) (lx_run (lc_147 I.1 h1))
  obtain ⟨⟨-, T1⟩, nn, hrun⟩ := hr
  obtain ⟨v, hD, ev, -, ok⟩ := ds_147 nn x1 I.2.1 h1 hrun
  refine ⟨v, ev, T1.1, sv_G_mono (fun r2 hr2 => ?_) (lx_run (lr_192 T1 h1))⟩
  obtain ⟨⟨-, T2⟩, nn2, hrun2⟩ := hr2
  obtain ⟨v2, hD2, ev2, -, ok2⟩ := ds_192 nn2 x1 ok h1 hrun2
  obtain ⟨e, P⟩ := pp_147 I.2.2 ht I.1.2.2.2.1.2 (lw_n1 I.1.2.2.2.1) (lw_n2 I.1.2.2.2.2) hD hD2
  exact ⟨by rw [← e]; exact ev2, _, T2, ok2, P⟩
theorem lq_149 {t : Int} {h : ae_H} {n : Int} (I : lw_I t h n n) (ht : 0 ≤ t ∧ t ≤ 600) {x1 : Int} (h1 : sv_I x1) : sv_G (fun r => ∃ y, r.1 = some (wk_i y) ∧ sv_hk sv_ty sv_tt r.2 ∧ sv_G (fun r2 => r2.1 = some (wk_i y) ∧ ∃ n2, lw_I (t + 1) r2.2 n2 n2) 194 0 (ae_args [wk_r 114, wk_i x1] 0) [] r.2) 149 0 (ae_args [wk_r 0, wk_i x1] 0) [] h := by
  refine sv_G_mono (fun r hr => ?_) (lx_run (lc_149 I.1 h1))
  obtain ⟨⟨-, T1⟩, nn, hrun⟩ := hr
  obtain ⟨v, hD, ev, -, ok⟩ := ds_149 nn x1 I.2.1 h1 hrun
  refine ⟨v, ev, T1.1, sv_G_mono (fun r2 hr2 => ?_) (lx_run (lr_194 T1 h1))⟩
  obtain ⟨⟨-, T2⟩, nn2, hrun2⟩ := hr2
  obtain ⟨v2, hD2, ev2, -, ok2⟩ := ds_194 nn2 x1 ok h1 hrun2
  obtain ⟨e, P⟩ := pp_149 I.2.2 ht I.1.2.2.2.1.2 (lw_n1 I.1.2.2.2.1) (lw_n2 I.1.2.2.2.2) hD hD2
  exact ⟨by rw [← e]; exact ev2, _, T2, ok2, P⟩
theorem lq_150 {t : Int} {h : ae_H} {n : Int} (I : lw_I t h n n) (ht : 0 ≤ t ∧ t ≤ 600) : sv_G (fun r => ∃ y, r.1 = some (wk_i y) ∧ sv_hk sv_ty sv_tt r.2 ∧ sv_G (fun r2 => r2.1 = some (wk_i y) ∧ ∃ n2, lw_I (t + 1) r2.2 n2 n2) 209 0 (ae_args [wk_r 114] 0) [] r.2) 150 0 (ae_args [wk_r 0] 0) [] h := by
  refine sv_G_mono (fun r hr => ?_) (lx_run (lc_150 I.1))
  obtain ⟨⟨-, T1⟩, nn, hrun⟩ := hr
  obtain ⟨v, hD, ev, -, ok⟩ := ds_150 nn I.2.1 hrun
  refine ⟨v, ev, T1.1, sv_G_mono (fun r2 hr2 => ?_) (lx_run (lr_209 T1))⟩
  obtain ⟨⟨-, T2⟩, nn2, hrun2⟩ := hr2
  obtain ⟨v2, hD2, ev2, -, ok2⟩ := ds_209 nn2 ok hrun2
  obtain ⟨e, P⟩ := pp_150 I.2.2 ht I.1.2.2.2.1.2 (lw_n1 I.1.2.2.2.1) (lw_n2 I.1.2.2.2.2) hD hD2
  exact ⟨by rw [← e]; exact ev2, _, T2, ok2, P⟩
theorem lq_151 {t : Int} {h : ae_H} {n : Int} (I : lw_I t h n n) (ht : 0 ≤ t ∧ t ≤ 600) : sv_G (fun r => ∃ y, r.1 = some (wk_i y) ∧ sv_hk sv_ty sv_tt r.2 ∧ sv_G (fun r2 => r2.1 = some (wk_i y) ∧ ∃ n2, lw_I (t + 1) r2.2 n2 n2) 202 0 (ae_args [wk_r 114] 0) [] r.2) 151 0 (ae_args [wk_r 0] 0) [] h := by
  refine sv_G_mono (fun r hr => ?_) (lx_run (lc_151 I.1))
  obtain ⟨⟨-, T1⟩, nn, hrun⟩ := hr
  obtain ⟨v, hD, ev, -, ok⟩ := ds_151 nn I.2.1 hrun
  refine ⟨v, ev, T1.1, sv_G_mono (fun r2 hr2 => ?_) (lx_run (lr_202 T1))⟩
  obtain ⟨⟨-, T2⟩, nn2, hrun2⟩ := hr2
  obtain ⟨v2, hD2, ev2, -, ok2⟩ := ds_202 nn2 ok hrun2
  obtain ⟨e, P⟩ := pp_151 I.2.2 ht I.1.2.2.2.1.2 (lw_n1 I.1.2.2.2.1) (lw_n2 I.1.2.2.2.2) hD hD2
  exact ⟨by rw [← e]; exact ev2, _, T2, ok2, P⟩
theorem lq_152 {t : Int} {h : ae_H} {n : Int} (I : lw_I t h n n) (ht : 0 ≤ t ∧ t ≤ 600) {x1 : Int} (h1 : sv_I x1) {x2 : Int} (h2 : sv_I x2) : sv_G (fun r => ∃ y, r.1 = some (wk_i y) ∧ sv_hk sv_ty sv_tt r.2 ∧ sv_G (fun r2 => r2.1 = some (wk_i y) ∧ ∃ n2, lw_I (t + 1) r2.2 n2 n2) 225 0 (ae_args [wk_r 114, wk_i x1, wk_i x2] 0) [] r.2) 152 0 (ae_args [wk_r 0, wk_i x1, wk_i x2] 0) [] h := by
  refine sv_G_mono (fun r hr => ?_) (lx_run (lc_152 I.1 h1 h2))
  obtain ⟨⟨-, T1⟩, nn, hrun⟩ := hr
  obtain ⟨v, hD, ev, -, ok⟩ := ds_152 nn x1 x2 I.2.1 h1 h2 hrun
  refine ⟨v, ev, T1.1, sv_G_mono (fun r2 hr2 => ?_) (lx_run (lr_225 T1 h1 h2))⟩
  obtain ⟨⟨-, T2⟩, nn2, hrun2⟩ := hr2
  obtain ⟨v2, hD2, ev2, -, ok2⟩ := ds_225 nn2 x1 x2 ok h1 h2 hrun2
  obtain ⟨e, P⟩ := pp_152 I.2.2 ht I.1.2.2.2.1.2 (lw_n1 I.1.2.2.2.1) (lw_n2 I.1.2.2.2.2) hD hD2
  exact ⟨by rw [← e]; exact ev2, _, T2, ok2, P⟩
theorem lq_153 {t : Int} {h : ae_H} {n : Int} (I : lw_I t h n n) (ht : 0 ≤ t ∧ t ≤ 600) {x1 : Int} (h1 : sv_I x1) : sv_G (fun r => ∃ y, r.1 = some (wk_i y) ∧ sv_hk sv_ty sv_tt r.2 ∧ sv_G (fun r2 => r2.1 = some (wk_i y) ∧ ∃ n2, lw_I (t + 1) r2.2 n2 n2) 226 0 (ae_args [wk_r 114, wk_i x1] 0) [] r.2) 153 0 (ae_args [wk_r 0, wk_i x1] 0) [] h := by
  refine sv_G_mono (fun r hr => ?_) (lx_run (lc_153 I.1 h1))
  obtain ⟨⟨-, T1⟩, nn, hrun⟩ := hr
  obtain ⟨v, hD, ev, -, ok⟩ := ds_153 nn x1 I.2.1 h1 hrun
  refine ⟨v, ev, T1.1, sv_G_mono (fun r2 hr2 => ?_) (lx_run (lr_226 T1 h1))⟩
  obtain ⟨⟨-, T2⟩, nn2, hrun2⟩ := hr2
  obtain ⟨v2, hD2, ev2, -, ok2⟩ := ds_226 nn2 x1 ok h1 hrun2
  obtain ⟨e, P⟩ := pp_153 I.2.2 ht I.1.2.2.2.1.2 (lw_n1 I.1.2.2.2.1) (lw_n2 I.1.2.2.2.2) hD hD2
  exact ⟨by rw [← e]; exact ev2, _, T2, ok2, P⟩
theorem lq_156 {t : Int} {h : ae_H} {n : Int} (I : lw_I t h n n) (ht : 0 ≤ t ∧ t ≤ 600) {x1 : Int} (h1 : sv_I x1) {x2 : Int} (h2 : sv_I x2) : sv_G (fun r => ∃ y, r.1 = some (wk_i y) ∧ sv_hk sv_ty sv_tt r.2 ∧ sv_G (fun r2 => r2.1 = some (wk_i y) ∧ ∃ n2, lw_I (t + 1) r2.2 n2 n2) 230 0 (ae_args [wk_r 114, wk_i x1, wk_i x2] 0) [] r.2) 156 0 (ae_args [wk_r 0, wk_i x1, wk_i x2] 0) [] h := by
  refine sv_G_mono (fun r hr => ?_) (lx_run (lc_156 I.1 h1 h2))
  obtain ⟨⟨-, T1⟩, nn, hrun⟩ := hr
  obtain ⟨v, hD, ev, -, ok⟩ := ds_156 nn x1 x2 I.2.1 h1 h2 hrun
  refine ⟨v, ev, T1.1, sv_G_mono (fun r2 hr2 => ?_) (lx_run (lr_230 T1 h1 h2))⟩
  obtain ⟨⟨-, T2⟩, nn2, hrun2⟩ := hr2
  obtain ⟨v2, hD2, ev2, -, ok2⟩ := ds_230 nn2 x1 x2 ok h1 h2 hrun2
  obtain ⟨e, P⟩ := pp_156 I.2.2 ht I.1.2.2.2.1.2 (lw_n1 I.1.2.2.2.1) (lw_n2 I.1.2.2.2.2) hD hD2
  exact ⟨by rw [← e]; exact ev2, _, T2, ok2, P⟩
theorem lq_157 {t : Int} {h : ae_H} {n : Int} (I : lw_I t h n n) (ht : 0 ≤ t ∧ t ≤ 600) {x1 : Int} (h1 : sv_I x1) : sv_G (fun r => ∃ y, r.1 = some (wk_i y) ∧ sv_hk sv_ty sv_tt r.2 ∧ sv_G (fun r2 => r2.1 = some (wk_i y) ∧ ∃ n2, lw_I (t + 1) r2.2 n2 n2) 235 0 (ae_args [wk_r 114, wk_i x1] 0) [] r.2) 157 0 (ae_args [wk_r 0, wk_i x1] 0) [] h := by
  refine sv_G_mono (fun r hr => ?_) (lx_run (lc_157 I.1 h1))
  obtain ⟨⟨-, T1⟩, nn, hrun⟩ := hr
  obtain ⟨v, hD, ev, -, ok⟩ := ds_157 nn x1 I.2.1 h1 hrun
  refine ⟨v, ev, T1.1, sv_G_mono (fun r2 hr2 => ?_) (lx_run (lr_235 T1 h1))⟩
  obtain ⟨⟨-, T2⟩, nn2, hrun2⟩ := hr2
  obtain ⟨v2, hD2, ev2, -, ok2⟩ := ds_235 nn2 x1 ok h1 hrun2
  obtain ⟨e, P⟩ := pp_157 I.2.2 ht I.1.2.2.2.1.2 (lw_n1 I.1.2.2.2.1) (lw_n2 I.1.2.2.2.2) hD hD2
  exact ⟨by rw [← e]; exact ev2, _, T2, ok2, P⟩
theorem lq_158 {t : Int} {h : ae_H} {n : Int} (I : lw_I t h n n) (ht : 0 ≤ t ∧ t ≤ 600) {x1 : Int} (h1 : sv_I x1) : sv_G (fun r => (∃ x, r.1 = some (wk_i x)) ∧ sv_hk sv_ty sv_tt r.2 ∧ sv_G (fun r2 => (∃ x, r2.1 = some (wk_i x)) ∧ ∃ n2, lw_I (t + 1) r2.2 n2 n2) 238 0 (ae_args [wk_r 114, wk_i x1] 0) [] r.2) 158 0 (ae_args [wk_r 0, wk_i x1] 0) [] h := by
  refine sv_G_mono (fun r hr => ?_) (lx_run (lc_158 I.1 h1))
  obtain ⟨⟨-, T1⟩, nn, hrun⟩ := hr
  obtain ⟨v, hD, ev, -, ok⟩ := ds_158 nn x1 I.2.1 h1 hrun
  refine ⟨⟨v, ev⟩, T1.1, sv_G_mono (fun r2 hr2 => ?_) (lx_run (lr_238 T1 h1))⟩
  obtain ⟨⟨-, T2⟩, nn2, hrun2⟩ := hr2
  obtain ⟨v2, hD2, ev2, -, ok2⟩ := ds_238 nn2 x1 ok h1 hrun2
  have P := pp_158 I.2.2 ht I.1.2.2.2.1.2 (lw_n1 I.1.2.2.2.1) (lw_n2 I.1.2.2.2.2) hD hD2
  exact ⟨⟨v2, ev2⟩, _, T2, ok2, P⟩
theorem lq_159 {t : Int} {h : ae_H} {n : Int} (I : lw_I t h n n) (ht : 0 ≤ t ∧ t ≤ 600) {x1 : Int} (h1 : sv_I x1) : sv_G (fun r => (∃ x, r.1 = some (wk_i x)) ∧ sv_hk sv_ty sv_tt r.2 ∧ sv_G (fun r2 => (∃ x, r2.1 = some (wk_i x)) ∧ ∃ n2, lw_I (t + 1) r2.2 n2 n2) 239 0 (ae_args [wk_r 114, wk_i x1] 0) [] r.2) 159 0 (ae_args [wk_r 0, wk_i x1] 0) [] h := by
  refine sv_G_mono (fun r hr => ?_) (lx_run (lc_159 I.1 h1))
  obtain ⟨⟨-, T1⟩, nn, hrun⟩ := hr
  obtain ⟨v, hD, ev, -, ok⟩ := ds_159 nn x1 I.2.1 h1 hrun
  refine ⟨⟨v, ev⟩, T1.1, sv_G_mono (fun r2 hr2 => ?_) (lx_run (lr_239 T1 h1))⟩
  obtain ⟨⟨-, T2⟩, nn2, hrun2⟩ := hr2
  obtain ⟨v2, hD2, ev2, -, ok2⟩ := ds_239 nn2 x1 ok h1 hrun2
  have P := pp_159 I.2.2 ht I.1.2.2.2.1.2 (lw_n1 I.1.2.2.2.1) (lw_n2 I.1.2.2.2.2) hD hD2
  exact ⟨⟨v2, ev2⟩, _, T2, ok2, P⟩
theorem lq_160 {t : Int} {h : ae_H} {n : Int} (I : lw_I t h n n) (ht : 0 ≤ t ∧ t ≤ 600) {x1 : Int} (h1 : sv_I x1) : sv_G (fun r => ∃ y, r.1 = some (wk_i y) ∧ sv_hk sv_ty sv_tt r.2 ∧ sv_G (fun r2 => r2.1 = some (wk_i y) ∧ ∃ n2, lw_I (t + 1) r2.2 n2 n2) 240 0 (ae_args [wk_r 114, wk_i x1] 0) [] r.2) 160 0 (ae_args [wk_r 0, wk_i x1] 0) [] h := by
  refine sv_G_mono (fun r hr => ?_) (lx_run (lc_160 I.1 h1))
  obtain ⟨⟨-, T1⟩, nn, hrun⟩ := hr
  obtain ⟨v, hD, ev, -, ok⟩ := ds_160 nn x1 I.2.1 h1 hrun
  refine ⟨v, ev, T1.1, sv_G_mono (fun r2 hr2 => ?_) (lx_run (lr_240 T1 h1))⟩
  obtain ⟨⟨-, T2⟩, nn2, hrun2⟩ := hr2
  obtain ⟨v2, hD2, ev2, -, ok2⟩ := ds_240 nn2 x1 ok h1 hrun2
  obtain ⟨e, P⟩ := pp_160 I.2.2 ht I.1.2.2.2.1.2 (lw_n1 I.1.2.2.2.1) (lw_n2 I.1.2.2.2.2) hD hD2
  exact ⟨by rw [← e]; exact ev2, _, T2, ok2, P⟩
theorem lq_161 {t : Int} {h : ae_H} {n : Int} (I : lw_I t h n n) (ht : 0 ≤ t ∧ t ≤ 600) : sv_G (fun r => ∃ y, r.1 = some (wk_i y) ∧ sv_hk sv_ty sv_tt r.2 ∧ sv_G (fun r2 => r2.1 = some (wk_i y) ∧ ∃ n2, lw_I (t + 1) r2.2 n2 n2) 241 0 (ae_args [wk_r 114] 0) [] r.2) 161 0 (ae_args [wk_r 0] 0) [] h := by
  refine sv_G_mono (fun r hr => ?_) (lx_run (lc_161 I.1))
  obtain ⟨⟨-, T1⟩, nn, hrun⟩ := hr
  obtain ⟨v, hD, ev, -, ok⟩ := ds_161 nn I.2.1 hrun
  refine ⟨v, ev, T1.1, sv_G_mono (fun r2 hr2 => ?_) (lx_run (lr_241 T1))⟩
  obtain ⟨⟨-, T2⟩, nn2, hrun2⟩ := hr2
  obtain ⟨v2, hD2, ev2, -, ok2⟩ := ds_241 nn2 ok hrun2
  obtain ⟨e, P⟩ := pp_161 I.2.2 ht I.1.2.2.2.1.2 (lw_n1 I.1.2.2.2.1) (lw_n2 I.1.2.2.2.2) hD hD2
  exact ⟨by rw [← e]; exact ev2, _, T2, ok2, P⟩
theorem lq_162 {t : Int} {h : ae_H} {n : Int} (I : lw_I t h n n) (ht : 0 ≤ t ∧ t ≤ 600) : sv_G (fun r => ∃ y, r.1 = some (wk_i y) ∧ sv_hk sv_ty sv_tt r.2 ∧ sv_G (fun r2 => r2.1 = some (wk_i y) ∧ ∃ n2, lw_I (t + 1) r2.2 n2 n2) 242 0 (ae_args [wk_r 114] 0) [] r.2) 162 0 (ae_args [wk_r 0] 0) [] h := by
  refine sv_G_mono (fun r hr => ?_) (lx_run (lc_162 I.1))
  obtain ⟨⟨-, T1⟩, nn, hrun⟩ := hr
  obtain ⟨v, hD, ev, -, ok⟩ := ds_162 nn I.2.1 hrun
  refine ⟨v, ev, T1.1, sv_G_mono (fun r2 hr2 => ?_) (lx_run (lr_242 T1))⟩
  obtain ⟨⟨-, T2⟩, nn2, hrun2⟩ := hr2
  obtain ⟨v2, hD2, ev2, -, ok2⟩ := ds_242 nn2 ok hrun2
  obtain ⟨e, P⟩ := pp_162 I.2.2 ht I.1.2.2.2.1.2 (lw_n1 I.1.2.2.2.1) (lw_n2 I.1.2.2.2.2) hD hD2
  exact ⟨by rw [← e]; exact ev2, _, T2, ok2, P⟩
theorem lq_163 {t : Int} {h : ae_H} {n : Int} (I : lw_I t h n n) (ht : 0 ≤ t ∧ t ≤ 600) : sv_G (fun r => ∃ y, r.1 = some (wk_i y) ∧ sv_hk sv_ty sv_tt r.2 ∧ sv_G (fun r2 => r2.1 = some (wk_i y) ∧ ∃ n2, lw_I (t + 1) r2.2 n2 n2) 256 0 (ae_args [wk_r 114] 0) [] r.2) 163 0 (ae_args [wk_r 0] 0) [] h := by
  refine sv_G_mono (fun r hr => ?_) (lx_run (lc_163 I.1))
  obtain ⟨⟨-, T1⟩, nn, hrun⟩ := hr
  obtain ⟨v, hD, ev, -, ok⟩ := ds_163 nn I.2.1 hrun
  refine ⟨v, ev, T1.1, sv_G_mono (fun r2 hr2 => ?_) (lx_run (lr_256 T1))⟩
  obtain ⟨⟨-, T2⟩, nn2, hrun2⟩ := hr2
  obtain ⟨v2, hD2, ev2, -, ok2⟩ := ds_256 nn2 ok hrun2
  obtain ⟨e, P⟩ := pp_163 I.2.2 ht I.1.2.2.2.1.2 (lw_n1 I.1.2.2.2.1) (lw_n2 I.1.2.2.2.2) hD hD2
  exact ⟨by rw [← e]; exact ev2, _, T2, ok2, P⟩
theorem lq_164 {t : Int} {h : ae_H} {n : Int} (I : lw_I t h n n) (ht : 0 ≤ t ∧ t ≤ 600) : sv_G (fun r => ∃ y, r.1 = some (wk_i y) ∧ sv_hk sv_ty sv_tt r.2 ∧ sv_G (fun r2 => r2.1 = some (wk_i y) ∧ ∃ n2, lw_I (t + 1) r2.2 n2 n2) 262 0 (ae_args [wk_r 114] 0) [] r.2) 164 0 (ae_args [wk_r 0] 0) [] h := by
  refine sv_G_mono (fun r hr => ?_) (lx_run (lc_164 I.1))
  obtain ⟨⟨-, T1⟩, nn, hrun⟩ := hr
  obtain ⟨v, hD, ev, -, ok⟩ := ds_164 nn I.2.1 hrun
  refine ⟨v, ev, T1.1, sv_G_mono (fun r2 hr2 => ?_) (lx_run (lr_262 T1))⟩
  obtain ⟨⟨-, T2⟩, nn2, hrun2⟩ := hr2
  obtain ⟨v2, hD2, ev2, -, ok2⟩ := ds_262 nn2 ok hrun2
  obtain ⟨e, P⟩ := pp_164 I.2.2 ht I.1.2.2.2.1.2 (lw_n1 I.1.2.2.2.1) (lw_n2 I.1.2.2.2.2) hD hD2
  exact ⟨by rw [← e]; exact ev2, _, T2, ok2, P⟩
theorem lq_165 {t : Int} {h : ae_H} {n : Int} (I : lw_I t h n n) (ht : 0 ≤ t ∧ t ≤ 600) {x1 : Int} (h1 : sv_I x1) : sv_G (fun r => ∃ y, r.1 = some (wk_i y) ∧ sv_hk sv_ty sv_tt r.2 ∧ sv_G (fun r2 => r2.1 = some (wk_i y) ∧ ∃ n2, lw_I (t + 1) r2.2 n2 n2) 264 0 (ae_args [wk_r 114, wk_i x1] 0) [] r.2) 165 0 (ae_args [wk_r 0, wk_i x1] 0) [] h := by
  refine sv_G_mono (fun r hr => ?_) (lx_run (lc_165 I.1 h1))
  obtain ⟨⟨-, T1⟩, nn, hrun⟩ := hr
  obtain ⟨v, hD, ev, -, ok⟩ := ds_165 nn x1 I.2.1 h1 hrun
  refine ⟨v, ev, T1.1, sv_G_mono (fun r2 hr2 => ?_) (lx_run (lr_264 T1 h1))⟩
  obtain ⟨⟨-, T2⟩, nn2, hrun2⟩ := hr2
  obtain ⟨v2, hD2, ev2, -, ok2⟩ := ds_264 nn2 x1 ok h1 hrun2
  obtain ⟨e, P⟩ := pp_165 I.2.2 ht I.1.2.2.2.1.2 (lw_n1 I.1.2.2.2.1) (lw_n2 I.1.2.2.2.2) hD hD2
  exact ⟨by rw [← e]; exact ev2, _, T2, ok2, P⟩
theorem lq_166 {t : Int} {h : ae_H} {n : Int} (I : lw_I t h n n) (ht : 0 ≤ t ∧ t ≤ 600) {x1 : Int} (h1 : sv_I x1) : sv_G (fun r => ∃ y, r.1 = some (wk_i y) ∧ sv_hk sv_ty sv_tt r.2 ∧ sv_G (fun r2 => r2.1 = some (wk_i y) ∧ ∃ n2, lw_I (t + 1) r2.2 n2 n2) 265 0 (ae_args [wk_r 114, wk_i x1] 0) [] r.2) 166 0 (ae_args [wk_r 0, wk_i x1] 0) [] h := by
  refine sv_G_mono (fun r hr => ?_) (lx_run (lc_166 I.1 h1))
  obtain ⟨⟨-, T1⟩, nn, hrun⟩ := hr
  obtain ⟨v, hD, ev, -, ok⟩ := ds_166 nn x1 I.2.1 h1 hrun
  refine ⟨v, ev, T1.1, sv_G_mono (fun r2 hr2 => ?_) (lx_run (lr_265 T1 h1))⟩
  obtain ⟨⟨-, T2⟩, nn2, hrun2⟩ := hr2
  obtain ⟨v2, hD2, ev2, -, ok2⟩ := ds_265 nn2 x1 ok h1 hrun2
  obtain ⟨e, P⟩ := pp_166 I.2.2 ht I.1.2.2.2.1.2 (lw_n1 I.1.2.2.2.1) (lw_n2 I.1.2.2.2.2) hD hD2
  exact ⟨by rw [← e]; exact ev2, _, T2, ok2, P⟩
theorem lq_167 {t : Int} {h : ae_H} {n : Int} (I : lw_I t h n n) (ht : 0 ≤ t ∧ t ≤ 600) {x1 : Int} (h1 : sv_I x1) {x2 : Int} (h2 : sv_I x2) : sv_G (fun r => (∃ x, r.1 = some (wk_i x)) ∧ sv_hk sv_ty sv_tt r.2 ∧ sv_G (fun r2 => (∃ x, r2.1 = some (wk_i x)) ∧ ∃ n2, lw_I (t + 1) r2.2 n2 n2) 269 0 (ae_args [wk_r 114, wk_i x1, wk_i x2] 0) [] r.2) 167 0 (ae_args [wk_r 0, wk_i x1, wk_i x2] 0) [] h := by
  refine sv_G_mono (fun r hr => ?_) (lx_run (lc_167 I.1 h1 h2))
  obtain ⟨⟨-, T1⟩, nn, hrun⟩ := hr
  obtain ⟨v, hD, ev, -, ok⟩ := ds_167 nn x1 x2 I.2.1 h1 h2 hrun
  refine ⟨⟨v, ev⟩, T1.1, sv_G_mono (fun r2 hr2 => ?_) (lx_run (lr_269 T1 h1 h2))⟩
  obtain ⟨⟨-, T2⟩, nn2, hrun2⟩ := hr2
  obtain ⟨v2, hD2, ev2, -, ok2⟩ := ds_269 nn2 x1 x2 ok h1 h2 hrun2
  have P := pp_167 I.2.2 ht I.1.2.2.2.1.2 (lw_n1 I.1.2.2.2.1) (lw_n2 I.1.2.2.2.2) hD hD2
  exact ⟨⟨v2, ev2⟩, _, T2, ok2, P⟩
theorem lq_169 {t : Int} {h : ae_H} {n : Int} (I : lw_I t h n n) (ht : 0 ≤ t ∧ t ≤ 600) {x1 : Int} (h1 : sv_I x1) {x2 : Int} (h2 : sv_I x2) : sv_G (fun r => (∃ x, r.1 = some (wk_i x)) ∧ sv_hk sv_ty sv_tt r.2 ∧ sv_G (fun r2 => (∃ x, r2.1 = some (wk_i x)) ∧ ∃ n2, lw_I (t + 1) r2.2 n2 n2) 271 0 (ae_args [wk_r 114, wk_i x1, wk_i x2] 0) [] r.2) 169 0 (ae_args [wk_r 0, wk_i x1, wk_i x2] 0) [] h := by
  refine sv_G_mono (fun r hr => ?_) (lx_run (lc_169 I.1 h1 h2))
  obtain ⟨⟨-, T1⟩, nn, hrun⟩ := hr
  obtain ⟨v, hD, ev, -, ok⟩ := ds_169 nn x1 x2 I.2.1 h1 h2 hrun
  refine ⟨⟨v, ev⟩, T1.1, sv_G_mono (fun r2 hr2 => ?_) (lx_run (lr_271 T1 h1 h2))⟩
  obtain ⟨⟨-, T2⟩, nn2, hrun2⟩ := hr2
  obtain ⟨v2, hD2, ev2, -, ok2⟩ := ds_271 nn2 x1 x2 ok h1 h2 hrun2
  have P := pp_169 I.2.2 ht I.1.2.2.2.1.2 (lw_n1 I.1.2.2.2.1) (lw_n2 I.1.2.2.2.2) hD hD2
  exact ⟨⟨v2, ev2⟩, _, T2, ok2, P⟩
theorem lq_170 {t : Int} {h : ae_H} {n : Int} (I : lw_I t h n n) (ht : 0 ≤ t ∧ t ≤ 600) {x1 : Int} (h1 : sv_I x1) : sv_G (fun r => ∃ y, r.1 = some (wk_i y) ∧ sv_hk sv_ty sv_tt r.2 ∧ sv_G (fun r2 => r2.1 = some (wk_i y) ∧ ∃ n2, lw_I (t + 1) r2.2 n2 n2) 233 0 (ae_args [wk_r 114, wk_i x1] 0) [] r.2) 170 0 (ae_args [wk_r 0, wk_i x1] 0) [] h := by
  refine sv_G_mono (fun r hr => ?_) (lx_run (lc_170 I.1 h1))
  obtain ⟨⟨-, T1⟩, nn, hrun⟩ := hr
  obtain ⟨v, hD, ev, -, ok⟩ := ds_170 nn x1 I.2.1 h1 hrun
  refine ⟨v, ev, T1.1, sv_G_mono (fun r2 hr2 => ?_) (lx_run (lr_233 T1 h1))⟩
  obtain ⟨⟨-, T2⟩, nn2, hrun2⟩ := hr2
  obtain ⟨v2, hD2, ev2, -, ok2⟩ := ds_233 nn2 x1 ok h1 hrun2
  obtain ⟨e, P⟩ := pp_170 I.2.2 ht I.1.2.2.2.1.2 (lw_n1 I.1.2.2.2.1) (lw_n2 I.1.2.2.2.2) hD hD2
  exact ⟨by rw [← e]; exact ev2, _, T2, ok2, P⟩
theorem lq_171 {t : Int} {h : ae_H} {n : Int} (I : lw_I t h n n) (ht : 0 ≤ t ∧ t ≤ 600) : sv_G (fun r => ∃ y, r.1 = some (wk_i y) ∧ sv_hk sv_ty sv_tt r.2 ∧ sv_G (fun r2 => r2.1 = some (wk_i y) ∧ ∃ n2, lw_I (t + 1) r2.2 n2 n2) 234 0 (ae_args [wk_r 114] 0) [] r.2) 171 0 (ae_args [wk_r 0] 0) [] h := by
  refine sv_G_mono (fun r hr => ?_) (lx_run (lc_171 I.1))
  obtain ⟨⟨-, T1⟩, nn, hrun⟩ := hr
  obtain ⟨v, hD, ev, -, ok⟩ := ds_171 nn I.2.1 hrun
  refine ⟨v, ev, T1.1, sv_G_mono (fun r2 hr2 => ?_) (lx_run (lr_234 T1))⟩
  obtain ⟨⟨-, T2⟩, nn2, hrun2⟩ := hr2
  obtain ⟨v2, hD2, ev2, -, ok2⟩ := ds_234 nn2 ok hrun2
  obtain ⟨e, P⟩ := pp_171 I.2.2 ht I.1.2.2.2.1.2 (lw_n1 I.1.2.2.2.1) (lw_n2 I.1.2.2.2.2) hD hD2
  exact ⟨by rw [← e]; exact ev2, _, T2, ok2, P⟩
theorem lq_172 {t : Int} {h : ae_H} {n : Int} (I : lw_I t h n n) (ht : 0 ≤ t ∧ t ≤ 600) {x1 : Int} (h1 : sv_I x1) : sv_G (fun r => ∃ y, r.1 = some (wk_i y) ∧ sv_hk sv_ty sv_tt r.2 ∧ sv_G (fun r2 => r2.1 = some (wk_i y) ∧ ∃ n2, lw_I (t + 1) r2.2 n2 n2) 243 0 (ae_args [wk_r 114, wk_i x1] 0) [] r.2) 172 0 (ae_args [wk_r 0, wk_i x1] 0) [] h := by
  refine sv_G_mono (fun r hr => ?_) (lx_run (lc_172 I.1 h1))
  obtain ⟨⟨-, T1⟩, nn, hrun⟩ := hr
  obtain ⟨v, hD, ev, -, ok⟩ := ds_172 nn x1 I.2.1 h1 hrun
  refine ⟨v, ev, T1.1, sv_G_mono (fun r2 hr2 => ?_) (lx_run (lr_243 T1 h1))⟩
  obtain ⟨⟨-, T2⟩, nn2, hrun2⟩ := hr2
  obtain ⟨v2, hD2, ev2, -, ok2⟩ := ds_243 nn2 x1 ok h1 hrun2
  obtain ⟨e, P⟩ := pp_172 I.2.2 ht I.1.2.2.2.1.2 (lw_n1 I.1.2.2.2.1) (lw_n2 I.1.2.2.2.2) hD hD2
  exact ⟨by rw [← e]; exact ev2, _, T2, ok2, P⟩
theorem lq_173 {t : Int} {h : ae_H} {n : Int} (I : lw_I t h n n) (ht : 0 ≤ t ∧ t ≤ 600) {x1 : Int} (h1 : sv_I x1) : sv_G (fun r => ∃ y, r.1 = some (wk_i y) ∧ sv_hk sv_ty sv_tt r.2 ∧ sv_G (fun r2 => r2.1 = some (wk_i y) ∧ ∃ n2, lw_I (t + 1) r2.2 n2 n2) 244 0 (ae_args [wk_r 114, wk_i x1] 0) [] r.2) 173 0 (ae_args [wk_r 0, wk_i x1] 0) [] h := by
  refine sv_G_mono (fun r hr => ?_) (lx_run (lc_173 I.1 h1))
  obtain ⟨⟨-, T1⟩, nn, hrun⟩ := hr
  obtain ⟨v, hD, ev, -, ok⟩ := ds_173 nn x1 I.2.1 h1 hrun
  refine ⟨v, ev, T1.1, sv_G_mono (fun r2 hr2 => ?_) (lx_run (lr_244 T1 h1))⟩
  obtain ⟨⟨-, T2⟩, nn2, hrun2⟩ := hr2
  obtain ⟨v2, hD2, ev2, -, ok2⟩ := ds_244 nn2 x1 ok h1 hrun2
  obtain ⟨e, P⟩ := pp_173 I.2.2 ht I.1.2.2.2.1.2 (lw_n1 I.1.2.2.2.1) (lw_n2 I.1.2.2.2.2) hD hD2
  exact ⟨by rw [← e]; exact ev2, _, T2, ok2, P⟩
theorem lq_174 {t : Int} {h : ae_H} {n : Int} (I : lw_I t h n n) (ht : 0 ≤ t ∧ t ≤ 600) {x1 : Int} (h1 : sv_I x1) : sv_G (fun r => (∃ x, r.1 = some (wk_i x)) ∧ sv_hk sv_ty sv_tt r.2 ∧ sv_G (fun r2 => (∃ x, r2.1 = some (wk_i x)) ∧ ∃ n2, lw_I (t + 1) r2.2 n2 n2) 246 0 (ae_args [wk_r 114, wk_i x1] 0) [] r.2) 174 0 (ae_args [wk_r 0, wk_i x1] 0) [] h := by
  refine sv_G_mono (fun r hr => ?_) (lx_run (lc_174 I.1 h1))
  obtain ⟨⟨-, T1⟩, nn, hrun⟩ := hr
  obtain ⟨v, hD, ev, -, ok⟩ := ds_174 nn x1 I.2.1 h1 hrun
  refine ⟨⟨v, ev⟩, T1.1, sv_G_mono (fun r2 hr2 => ?_) (lx_run (lr_246 T1 h1))⟩
  obtain ⟨⟨-, T2⟩, nn2, hrun2⟩ := hr2
  obtain ⟨v2, hD2, ev2, -, ok2⟩ := ds_246 nn2 x1 ok h1 hrun2
  have P := pp_174 I.2.2 ht I.1.2.2.2.1.2 (lw_n1 I.1.2.2.2.1) (lw_n2 I.1.2.2.2.2) hD hD2
  exact ⟨⟨v2, ev2⟩, _, T2, ok2, P⟩
theorem lq_175 {t : Int} {h : ae_H} {n : Int} (I : lw_I t h n n) (ht : 0 ≤ t ∧ t ≤ 600) {x1 : Int} (h1 : sv_I x1) {x2 : Int} (h2 : sv_I x2) : sv_G (fun r => (∃ x, r.1 = some (wk_i x)) ∧ sv_hk sv_ty sv_tt r.2 ∧ sv_G (fun r2 => (∃ x, r2.1 = some (wk_i x)) ∧ ∃ n2, lw_I (t + 1) r2.2 n2 n2) 248 0 (ae_args [wk_r 114, wk_i x1, wk_i x2] 0) [] r.2) 175 0 (ae_args [wk_r 0, wk_i x1, wk_i x2] 0) [] h := by
  refine sv_G_mono (fun r hr => ?_) (lx_run (lc_175 I.1 h1 h2))
  obtain ⟨⟨-, T1⟩, nn, hrun⟩ := hr
  obtain ⟨v, hD, ev, -, ok⟩ := ds_175 nn x1 x2 I.2.1 h1 h2 hrun
  refine ⟨⟨v, ev⟩, T1.1, sv_G_mono (fun r2 hr2 => ?_) (lx_run (lr_248 T1 h1 h2))⟩
  obtain ⟨⟨-, T2⟩, nn2, hrun2⟩ := hr2
  obtain ⟨v2, hD2, ev2, -, ok2⟩ := ds_248 nn2 x1 x2 ok h1 h2 hrun2
  have P := pp_175 I.2.2 ht I.1.2.2.2.1.2 (lw_n1 I.1.2.2.2.1) (lw_n2 I.1.2.2.2.2) hD hD2
  exact ⟨⟨v2, ev2⟩, _, T2, ok2, P⟩
theorem lq_176 {t : Int} {h : ae_H} {n : Int} (I : lw_I t h n n) (ht : 0 ≤ t ∧ t ≤ 600) {x1 : Int} (h1 : sv_I x1) : sv_G (fun r => ∃ y, r.1 = some (wk_i y) ∧ sv_hk sv_ty sv_tt r.2 ∧ sv_G (fun r2 => r2.1 = some (wk_i y) ∧ ∃ n2, lw_I (t + 1) r2.2 n2 n2) 272 0 (ae_args [wk_r 114, wk_i x1] 0) [] r.2) 176 0 (ae_args [wk_r 0, wk_i x1] 0) [] h := by
  refine sv_G_mono (fun r hr => ?_) (lx_run (lc_176 I.1 h1))
  obtain ⟨⟨-, T1⟩, nn, hrun⟩ := hr
  obtain ⟨v, hD, ev, -, ok⟩ := ds_176 nn x1 I.2.1 h1 hrun
  refine ⟨v, ev, T1.1, sv_G_mono (fun r2 hr2 => ?_) (lx_run (lr_272 T1 h1))⟩
  obtain ⟨⟨-, T2⟩, nn2, hrun2⟩ := hr2
  obtain ⟨v2, hD2, ev2, -, ok2⟩ := ds_272 nn2 x1 ok h1 hrun2
  obtain ⟨e, P⟩ := pp_176 I.2.2 ht I.1.2.2.2.1.2 (lw_n1 I.1.2.2.2.1) (lw_n2 I.1.2.2.2.2) hD hD2
  exact ⟨by rw [← e]; exact ev2, _, T2, ok2, P⟩
theorem lq_177 {t : Int} {h : ae_H} {n : Int} (I : lw_I t h n n) (ht : 0 ≤ t ∧ t ≤ 600) {x1 : Int} (h1 : sv_I x1) : sv_G (fun r => ∃ y, r.1 = some (wk_i y) ∧ sv_hk sv_ty sv_tt r.2 ∧ sv_G (fun r2 => r2.1 = some (wk_i y) ∧ ∃ n2, lw_I (t + 1) r2.2 n2 n2) 274 0 (ae_args [wk_r 114, wk_i x1] 0) [] r.2) 177 0 (ae_args [wk_r 0, wk_i x1] 0) [] h := by
  refine sv_G_mono (fun r hr => ?_) (lx_run (lc_177 I.1 h1))
  obtain ⟨⟨-, T1⟩, nn, hrun⟩ := hr
  obtain ⟨v, hD, ev, -, ok⟩ := ds_177 nn x1 I.2.1 h1 hrun
  refine ⟨v, ev, T1.1, sv_G_mono (fun r2 hr2 => ?_) (lx_run (lr_274 T1 h1))⟩
  obtain ⟨⟨-, T2⟩, nn2, hrun2⟩ := hr2
  obtain ⟨v2, hD2, ev2, -, ok2⟩ := ds_274 nn2 x1 ok h1 hrun2
  obtain ⟨e, P⟩ := pp_177 I.2.2 ht I.1.2.2.2.1.2 (lw_n1 I.1.2.2.2.1) (lw_n2 I.1.2.2.2.2) hD hD2
  exact ⟨by rw [← e]; exact ev2, _, T2, ok2, P⟩
theorem lq_178 {t : Int} {h : ae_H} {n : Int} (I : lw_I t h n n) (ht : 0 ≤ t ∧ t ≤ 600) {x1 : Int} (h1 : sv_I x1) {x2 : Int} (h2 : sv_I x2) : sv_G (fun r => (∃ x, r.1 = some (wk_i x)) ∧ sv_hk sv_ty sv_tt r.2 ∧ sv_G (fun r2 => (∃ x, r2.1 = some (wk_i x)) ∧ ∃ n2, lw_I (t + 1) r2.2 n2 n2) 277 0 (ae_args [wk_r 114, wk_i x1, wk_i x2] 0) [] r.2) 178 0 (ae_args [wk_r 0, wk_i x1, wk_i x2] 0) [] h := by
  refine sv_G_mono (fun r hr => ?_) (lx_run (lc_178 I.1 h1 h2))
  obtain ⟨⟨-, T1⟩, nn, hrun⟩ := hr
  obtain ⟨v, hD, ev, -, ok⟩ := ds_178 nn x1 x2 I.2.1 h1 h2 hrun
  refine ⟨⟨v, ev⟩, T1.1, sv_G_mono (fun r2 hr2 => ?_) (lx_run (lr_277 T1 h1 h2))⟩
  obtain ⟨⟨-, T2⟩, nn2, hrun2⟩ := hr2
  obtain ⟨v2, hD2, ev2, -, ok2⟩ := ds_277 nn2 x1 x2 ok h1 h2 hrun2
  have P := pp_178 I.2.2 ht I.1.2.2.2.1.2 (lw_n1 I.1.2.2.2.1) (lw_n2 I.1.2.2.2.2) hD hD2
  exact ⟨⟨v2, ev2⟩, _, T2, ok2, P⟩
theorem lq_179 {t : Int} {h : ae_H} {n : Int} (I : lw_I t h n n) (ht : 0 ≤ t ∧ t ≤ 600) : sv_G (fun r => (∃ x, r.1 = some (wk_i x)) ∧ sv_hk sv_ty sv_tt r.2 ∧ sv_G (fun r2 => (∃ x, r2.1 = some (wk_i x)) ∧ ∃ n2, lw_I (t + 1) r2.2 n2 n2) 278 0 (ae_args [wk_r 114] 0) [] r.2) 179 0 (ae_args [wk_r 0] 0) [] h := by
  refine sv_G_mono (fun r hr => ?_) (lx_run (lc_179 I.1))
  obtain ⟨⟨-, T1⟩, nn, hrun⟩ := hr
  obtain ⟨v, hD, ev, -, ok⟩ := ds_179 nn I.2.1 hrun
  refine ⟨⟨v, ev⟩, T1.1, sv_G_mono (fun r2 hr2 => ?_) (lx_run (lr_278 T1))⟩
  obtain ⟨⟨-, T2⟩, nn2, hrun2⟩ := hr2
  obtain ⟨v2, hD2, ev2, -, ok2⟩ := ds_278 nn2 ok hrun2
  have P := pp_179 I.2.2 ht I.1.2.2.2.1.2 (lw_n1 I.1.2.2.2.1) (lw_n2 I.1.2.2.2.2) hD hD2
  exact ⟨⟨v2, ev2⟩, _, T2, ok2, P⟩
theorem lq_180 {t : Int} {h : ae_H} {n : Int} (I : lw_I t h n n) (ht : 0 ≤ t ∧ t ≤ 600) {x1 : Int} (h1 : sv_I x1) : sv_G (fun r => (∃ x, r.1 = some (wk_i x)) ∧ sv_hk sv_ty sv_tt r.2 ∧ sv_G (fun r2 => (∃ x, r2.1 = some (wk_i x)) ∧ ∃ n2, lw_I (t + 1) r2.2 n2 n2) 281 0 (ae_args [wk_r 114, wk_i x1] 0) [] r.2) 180 0 (ae_args [wk_r 0, wk_i x1] 0) [] h := by
  refine sv_G_mono (fun r hr => ?_) (lx_run (lc_180 I.1 h1))
  obtain ⟨⟨-, T1⟩, nn, hrun⟩ := hr
  obtain ⟨v, hD, ev, -, ok⟩ := ds_180 nn x1 I.2.1 h1 hrun
  refine ⟨⟨v, ev⟩, T1.1, sv_G_mono (fun r2 hr2 => ?_) (lx_run (lr_281 T1 h1))⟩
  obtain ⟨⟨-, T2⟩, nn2, hrun2⟩ := hr2
  obtain ⟨v2, hD2, ev2, -, ok2⟩ := ds_281 nn2 x1 ok h1 hrun2
  have P := pp_180 I.2.2 ht I.1.2.2.2.1.2 (lw_n1 I.1.2.2.2.1) (lw_n2 I.1.2.2.2.2) hD hD2
  exact ⟨⟨v2, ev2⟩, _, T2, ok2, P⟩
theorem lq_181 {t : Int} {h : ae_H} {n : Int} (I : lw_I t h n n) (ht : 0 ≤ t ∧ t ≤ 600) {x1 : Int} (h1 : sv_I x1) : sv_G (fun r => ∃ y, r.1 = some (wk_i y) ∧ sv_hk sv_ty sv_tt r.2 ∧ sv_G (fun r2 => r2.1 = some (wk_i y) ∧ ∃ n2, lw_I (t + 1) r2.2 n2 n2) 282 0 (ae_args [wk_r 114, wk_i x1] 0) [] r.2) 181 0 (ae_args [wk_r 0, wk_i x1] 0) [] h := by
  refine sv_G_mono (fun r hr => ?_) (lx_run (lc_181 I.1 h1))
  obtain ⟨⟨-, T1⟩, nn, hrun⟩ := hr
  obtain ⟨v, hD, ev, -, ok⟩ := ds_181 nn x1 I.2.1 h1 hrun
  refine ⟨v, ev, T1.1, sv_G_mono (fun r2 hr2 => ?_) (lx_run (lr_282 T1 h1))⟩
  obtain ⟨⟨-, T2⟩, nn2, hrun2⟩ := hr2
  obtain ⟨v2, hD2, ev2, -, ok2⟩ := ds_282 nn2 x1 ok h1 hrun2
  obtain ⟨e, P⟩ := pp_181 I.2.2 ht I.1.2.2.2.1.2 (lw_n1 I.1.2.2.2.1) (lw_n2 I.1.2.2.2.2) hD hD2
  exact ⟨by rw [← e]; exact ev2, _, T2, ok2, P⟩
theorem lt_193 {t : Int} {h : ae_H} {n m : Int} (I : lw_I t h n m) {x1 : Int} (h1 : sv_I x1) {x2 : Int} (h2 : sv_I x2) {x3 : Int} (h3 : sv_I x3) : sv_G (fun r => (∃ x, r.1 = some (wk_i x)) ∧ lw_I (t + 1) r.2 n m) 193 0 (ae_args [wk_r 114, wk_i x1, wk_i x2, wk_i x3] 0) [] h := by
  refine sv_G_mono (fun r hr => ?_) (lx_run (lr_193 I.1 h1 h2 h3))
  obtain ⟨⟨hx, T2⟩, nn, hrun⟩ := hr
  obtain ⟨v2, hD2, ev2, -, ok2⟩ := ds_193 nn x1 x2 x3 I.2.1 h1 h2 h3 hrun
  have g := fq_193 hD2
  exact ⟨hx, T2, ok2, I.2.2.qu (fun k i z => g k i (dj_lg_all_fq_t z))⟩
theorem lt_227 {t : Int} {h : ae_H} {n m : Int} (I : lw_I t h n m) {x1 : Int} (h1 : sv_I x1) {x2 : Int} (h2 : sv_I x2) : sv_G (fun r => (∃ x, r.1 = some (wk_i x)) ∧ lw_I (t + 1) r.2 n m) 227 0 (ae_args [wk_r 114, wk_i x1, wk_i x2] 0) [] h := by
  refine sv_G_mono (fun r hr => ?_) (lx_run (lr_227 I.1 h1 h2))
  obtain ⟨⟨hx, T2⟩, nn, hrun⟩ := hr
  obtain ⟨v2, hD2, ev2, -, ok2⟩ := ds_227 nn x1 x2 I.2.1 h1 h2 hrun
  have g := fq_227 hD2
  exact ⟨hx, T2, ok2, I.2.2.qu (fun k i z => g k i (dj_lg_all_fq_t z))⟩
theorem lt_228 {t : Int} {h : ae_H} {n m : Int} (I : lw_I t h n m) {x1 : Int} (h1 : sv_I x1) : sv_G (fun r => (∃ x, r.1 = some (wk_i x)) ∧ lw_I (t + 1) r.2 n m) 228 0 (ae_args [wk_r 114, wk_i x1] 0) [] h := by
  refine sv_G_mono (fun r hr => ?_) (lx_run (lr_228 I.1 h1))
  obtain ⟨⟨hx, T2⟩, nn, hrun⟩ := hr
  obtain ⟨v2, hD2, ev2, -, ok2⟩ := ds_228 nn x1 I.2.1 h1 hrun
  have g := fq_228 hD2
  exact ⟨hx, T2, ok2, I.2.2.qu (fun k i z => g k i (dj_lg_all_fq_t z))⟩
theorem lt_270 {t : Int} {h : ae_H} {n m : Int} (I : lw_I t h n m) {x1 : Int} (h1 : sv_I x1) {x2 : Int} (h2 : sv_I x2) : sv_G (fun r => (∃ x, r.1 = some (wk_i x)) ∧ lw_I (t + 1) r.2 n m) 270 0 (ae_args [wk_r 114, wk_i x1, wk_i x2] 0) [] h := by
  refine sv_G_mono (fun r hr => ?_) (lx_run (lr_270 I.1 h1 h2))
  obtain ⟨⟨hx, T2⟩, nn, hrun⟩ := hr
  obtain ⟨v2, hD2, ev2, -, ok2⟩ := ds_270 nn x1 x2 I.2.1 h1 h2 hrun
  have g := fq_270 hD2
  exact ⟨hx, T2, ok2, I.2.2.qu (fun k i z => g k i (dj_lg_all_fq_t z))⟩
