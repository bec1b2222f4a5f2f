/-! WHAT MORE STANDS BETWEEN TWO CALLS: the shape, that both tapes hold the same bytes, that both tell the same fault -/
def lx_P (m : dc_M) : Prop := m 2 = rz_t m ∧ m 1 8 = m 114 10
def lx_XF (K : dc_M → Prop) (h : ae_H) : Prop := dc_ok h ∧ K (dc_m h)
def lx_X (h : ae_H) : Prop := lx_XF lx_P h
/-- behind the class's call: what stood ahead of it, and what the call did -/
def lx_K (n : Int) (R : dc_M → dc_M → Prop) (m1 : dc_M) : Prop := ∃ h0, dc_ok h0 ∧ lx_P (dc_m h0) ∧ dc_m h0 1 1 = n ∧ dc_m h0 114 2 = n ∧ R (dc_m h0) m1
def lx_bad : List (Nat × Nat) := [(13, 0), (60, 0), (9, 8), (12, 10)]
def lx_av (l : List (Nat × Nat)) (r : Nat × Nat) : Bool := l.all (fun q => !(Nat.beq q.1 r.1 && Nat.beq q.2 r.2))
def lx_nl (l ms : List (Nat × Nat)) : Bool := ms.all (lx_av l)
theorem lx_nl_ok {l ms : List (Nat × Nat)} (h : lx_nl l ms = true) : ∀ q ∈ l, q ∉ ms := fun q hq z => by
  have h1 := List.all_eq_true.mp (List.all_eq_true.mp h q z) q hq
  rw [Nat.beq_refl, Nat.beq_refl] at h1
  cases h1
def lx_no (ms : List (Nat × Nat)) : Bool := and (dc_no ms) (lx_nl lx_bad ms)
theorem lx_cell {ms : List (Nat × Nat)} {h h2 : ae_H} {k t tag len : Nat} {x : List (Nat × Nat)} (ok : dc_ok h) (hf : sv_fr sv_ty ms h h2) (ht : sv_ty k = some t) (hT : dc_tt[t]? = some (1, tag, len, x)) (hm : (t, 0) ∉ ms) : dc_m h2 k = dc_m h k := by
  obtain ⟨A, g1⟩ := dc_a ok ht hT
  have g2 := hf k t ht _ g1 hm
  funext i
  unfold dc_m
  rw [g1, g2]
theorem lx_Fv {h : ae_H} {k j : Nat} {v : ae_V} (e : wk_F h k j = some v) : dc_m h k (j : Int) = dc_v v := by
  unfold wk_F at e
  unfold dc_m
  rw [if_neg (by omega), Int.toNat_natCast]
  cases hg : ae_hg h k with
  | none => rw [hg] at e; cases e
  | some c =>
    rw [hg] at e
    match c, e with
    | .inr (ci, fs), e =>
      have e : fs[j]? = some v := e
      show (match fs[j]? with
        | some v => dc_v v
        | none => 0) = dc_v v
      rw [e]
    | .inl q, e => cases e
theorem lx_F {h : ae_H} {k j : Nat} {n : Int} (e : wk_F h k j = some (wk_i n)) (hI : sv_I n) : dc_m h k (j : Int) = n := by
  rw [lx_Fv e]
  show sv_g (sv_u n) = n
  exact sv_g_u hI
theorem lx_n {n : Int} (b : 0 ≤ n ∧ n ≤ 740) : sv_I n := by unfold sv_I; omega
/-- a field that stays -/
theorem lx_fld {h h2 : ae_H} {k j t ci z0 : Nat} {fl : List (Nat × Nat)} {f : Nat × Nat} (ok : dc_ok h) (ht : sv_ty k = some t) (hT : dc_tt[t]? = some (0, ci, z0, fl)) (hf : fl[j]? = some f) (e : wk_F h2 k j = wk_F h k j) : dc_m h2 k (j : Int) = dc_m h k (j : Int) := by
  obtain ⟨v, e1, -, e3⟩ := dc_f ok ht hT hf
  rw [e3]
  exact lx_Fv (e.trans e1)
theorem lx_t {ms : List (Nat × Nat)} {h h2 : ae_H} (hm : (60, 0) ∉ ms) (T : sv_Tk sv_ty sv_tt ms h h2) (ok : dc_ok h) : rz_t (dc_m h2) = rz_t (dc_m h) := by
  have e := lx_cell ok T.2 (k := 115) rfl rfl hm
  funext i
  unfold rz_t
  rw [e]
theorem lx_18 {ms : List (Nat × Nat)} {h h2 : ae_H} (hm : (9, 8) ∉ ms) (hk : sv_hk sv_ty sv_tt h) (T : sv_Tk sv_ty sv_tt ms h h2) (ok : dc_ok h) : dc_m h2 1 8 = dc_m h 1 8 := lx_fld (j := 8) ok wz_ty1 dt_9 rfl (wk_fr_F hk T.2 wz_ty1 tT_9 rfl hm)
theorem lx_rf {ms : List (Nat × Nat)} {h h2 : ae_H} (hm : (12, 10) ∉ ms) (hk : sv_hk sv_ty sv_tt h) (T : sv_Tk sv_ty sv_tt ms h h2) (ok : dc_ok h) : dc_m h2 114 10 = dc_m h 114 10 := lx_fld (j := 10) ok (rfl : sv_ty 114 = some 12) dt_12 rfl (wk_fr_F hk T.2 (rfl : sv_ty 114 = some 12) tT_12 rfl hm)
theorem lx_rn {ms : List (Nat × Nat)} {h h2 : ae_H} (hm : (12, 2) ∉ ms) (hk : sv_hk sv_ty sv_tt h) (T : sv_Tk sv_ty sv_tt ms h h2) (ok : dc_ok h) : dc_m h2 114 2 = dc_m h 114 2 := lx_fld (j := 2) ok (rfl : sv_ty 114 = some 12) dt_12 rfl (wk_fr_F hk T.2 (rfl : sv_ty 114 = some 12) tT_12 rfl hm)
theorem lx_fr {ms : List (Nat × Nat)} {h h2 : ae_H} (hm : lx_no ms = true) (hk : sv_hk sv_ty sv_tt h) (T : sv_Tk sv_ty sv_tt ms h h2) (X : lx_X h) : lx_X h2 := by
  obtain ⟨m1, m2⟩ := ae_band hm
  have q := lx_nl_ok m2
  refine ⟨dc_ok_fr T.1 T.2 m1 X.1, ?_, ?_⟩
  · rw [lx_cell X.1 T.2 (k := 2) rfl rfl (q _ (by decide)), lx_t (q _ (by decide)) T X.1]
    exact X.2.1
  · rw [lx_18 (q _ (by decide)) hk T X.1, lx_rf (q _ (by decide)) hk T X.1]
    exact X.2.2
/-- what a call of the class leaves of the reference's, and of its own tape -/
def lx_C (a b : dc_M) : Prop := b 2 = a 2 ∧ b 115 = a 115 ∧ b 114 2 = a 114 2 ∧ b 114 10 = a 114 10
def lx_badC : List (Nat × Nat) := [(13, 0), (60, 0), (12, 2), (12, 10)]
theorem lx_Cc {ms : List (Nat × Nat)} {h h2 : ae_H} (hm : lx_nl lx_badC ms = true) (hk : sv_hk sv_ty sv_tt h) (T : sv_Tk sv_ty sv_tt ms h h2) (ok : dc_ok h) : lx_C (dc_m h) (dc_m h2) := by
  have q := lx_nl_ok hm
  exact ⟨lx_cell ok T.2 (k := 2) rfl rfl (q _ (by decide)), lx_cell ok T.2 (k := 115) rfl rfl (q _ (by decide)), lx_rn (q _ (by decide)) hk T ok, lx_rf (q _ (by decide)) hk T ok⟩
/-- what a call of the reference leaves of the class's, and of its own tape -/
def lx_D (a b : dc_M) : Prop := b 2 = a 2 ∧ b 115 = a 115 ∧ b 1 8 = a 1 8
def lx_badD : List (Nat × Nat) := [(13, 0), (60, 0), (9, 8)]
theorem lx_Dd {ms : List (Nat × Nat)} {h h2 : ae_H} (hm : lx_nl lx_badD ms = true) (hk : sv_hk sv_ty sv_tt h) (T : sv_Tk sv_ty sv_tt ms h h2) (ok : dc_ok h) : lx_D (dc_m h) (dc_m h2) := by
  have q := lx_nl_ok hm
  exact ⟨lx_cell ok T.2 (k := 2) rfl rfl (q _ (by decide)), lx_cell ok T.2 (k := 115) rfl rfl (q _ (by decide)), lx_18 (q _ (by decide)) hk T ok⟩
theorem lx_run {Q : ae_R → Prop} {mi pc : Nat} {lv : ae_L} {st : List ae_V} {h : ae_H} (g : sv_G Q mi pc lv st h) : sv_G (fun r => Q r ∧ ∃ n, ae_exe n mi pc 0 0 lv st h = some r) mi pc lv st h := by
  obtain ⟨r, hr, N, hN⟩ := g
  exact ⟨r, ⟨hr, N, hN N (Nat.le_refl N)⟩, N, hN⟩
theorem lx_ty0 {k : Nat} (h : sv_ty k = some 0) : 3 ≤ k := by
  have hl : k < 174 := (List.getElem?_eq_some_iff.mp h).1
  have key : ∀ k, k < 174 → sv_tys[k]? = some 0 → 3 ≤ k := by decide +kernel
  exact key k hl h
theorem rz_t_e {a b : dc_M} (e : b 115 = a 115) : rz_t b = rz_t a := funext fun i => by unfold rz_t; rw [e]
/-! the calls in pairs -/
theorem px_feed {n x1 x2 x3 x4 x5 v v' : Int} {m1 m2 : dc_M} (K : lx_K n (fun a b => D_144 x1 x2 x3 x4 x5 a v b ∧ b 1 8 = a 1 8) m1) (hb : 0 ≤ n ∧ n ≤ 740) (h : D_184 x1 x2 x3 x4 x5 m1 v' m2) (f1 : m2 1 8 = m1 1 8) (f2 : m2 114 10 = m1 114 10) : lx_P m2 := by
  obtain ⟨h0, ok0, P0, e1, e2, hD, f0⟩ := K
  obtain ⟨q1, q2, q3⟩ := cz_feed hD (by rw [e1]; exact hb)
  have g2 : m1 114 2 = n := (q3 114 2 (by decide) (by decide)).trans e2
  obtain ⟨r1, r2, r3⟩ := rz_feed h (by rw [g2]; exact hb)
  have et : rz_t m1 = rz_t (dc_m h0) := rz_t_e (funext fun i => q3 115 i (by decide) (by decide))
  have e22 : m2 2 = m1 2 := funext fun i => r3 2 i (by decide) (by decide)
  refine ⟨?_, ?_⟩
  · rw [e22]
    by_cases z : n ≤ 720
    · rw [q1 (by rw [e1]; exact z), r1 (by rw [g2]; exact z), et, g2, e1, P0.1]
    · rw [q2 (by rw [e1]; omega), r2 (by rw [g2]; omega), et, P0.1]
  · rw [f1, f0, f2, q3 114 10 (by decide) (by decide)]
    exact P0.2
theorem px_board {n v v' : Int} {m1 m2 : dc_M} (K : lx_K n (fun a b => D_150 a v b ∧ lx_C a b) m1) (hb : 0 ≤ n ∧ n ≤ 740) (h : D_209 m1 v' m2) (f : lx_D m1 m2) : v' = v ∧ lx_P m2 := by
  obtain ⟨h0, ok0, P0, e1, e2, hD, c1, c2, c3, c4⟩ := K
  have k3 := lx_ty0 (dc_ft (j := 9) ok0 wz_ty0 dt_11 rfl).2
  have q := cz_board hD k3 (by rw [e1]; exact hb)
  have qF := cz_boardF hD k3 (by rw [e1]; exact hb)
  have r := rz_board h (by rw [c3, e2]; exact hb)
  have rF := rz_boardF h (by rw [c3, e2]; exact hb)
  rw [e1, P0.1] at q qF
  rw [rz_t_e c2, c3, e2] at r rF
  refine ⟨r.trans q.symm, ?_, ?_⟩
  · rw [f.1, rz_t_e f.2.1, c1, rz_t_e c2]; exact P0.1
  · rw [f.2.2, rF]; exact qF
theorem px_job {n v v' : Int} {m1 m2 : dc_M} (K : lx_K n (fun a b => D_163 a v b ∧ lx_C a b) m1) (hb : 0 ≤ n ∧ n ≤ 740) (h : D_256 m1 v' m2) (f : lx_D m1 m2) : v' = v ∧ lx_P m2 := by
  obtain ⟨h0, ok0, P0, e1, e2, hD, c1, c2, c3, c4⟩ := K
  have k2 := cj_ty2 (dc_ft (j := 11) ok0 wz_ty0 dt_11 rfl).2
  obtain ⟨q, qF, -⟩ := cj_job hD k2 (by rw [e1]; exact hb)
  obtain ⟨r, rF, -, -⟩ := rj_job h (by rw [c3, e2]; exact hb)
  rw [e1, P0.1] at q qF
  rw [rz_t_e c2, c3, e2] at r rF
  refine ⟨r.trans q.symm, ?_, ?_⟩
  · rw [f.1, rz_t_e f.2.1, c1, rz_t_e c2]; exact P0.1
  · rw [f.2.2, rF]; exact qF
