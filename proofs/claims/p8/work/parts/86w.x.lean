/-! WHAT MORE STANDS BETWEEN TWO CALLS: the shape, and that both tapes hold the same bytes -/
def lx_XF (F : (Int → Int) → Int → Int) (h : ae_H) : Prop := dc_ok h ∧ dc_m h 2 = F (rz_t (dc_m h))
def lx_X (h : ae_H) : Prop := lx_XF (fun T => T) h
def lx_n1 (r : Nat × Nat) : Bool := and (not (and (Nat.beq r.1 13) (Nat.beq r.2 0))) (not (and (Nat.beq r.1 60) (Nat.beq r.2 0)))
def lx_no (ms : List (Nat × Nat)) : Bool := and (dc_no ms) (ms.all lx_n1)
theorem lx_no_ok {ms : List (Nat × Nat)} (h : lx_no ms = true) : dc_no ms = true ∧ (13, 0) ∉ ms ∧ (60, 0) ∉ ms := by
  obtain ⟨h1, h2⟩ := ae_band h
  refine ⟨h1, fun z => ?_, fun z => ?_⟩
  · have q : lx_n1 (13, 0) = true := List.all_eq_true.mp h2 _ z
    exact absurd q (by decide)
  · have q : lx_n1 (60, 0) = true := List.all_eq_true.mp h2 _ z
    exact absurd q (by decide)
theorem lx_cell {ms : List (Nat × Nat)} {h h2 : ae_H} {k t tag len : Nat} {x : List (Nat × Nat)} (ok : dc_ok h) (hf : sv_fr sv_ty ms h h2) (ht : sv_ty k = some t) (hT : dc_tt[t]? = some (1, tag, len, x)) (hm : (t, 0) ∉ ms) : dc_m h2 k = dc_m h k := by
  obtain ⟨A, g1⟩ := dc_a ok ht hT
  have g2 := hf k t ht _ g1 hm
  funext i
  unfold dc_m
  rw [g1, g2]
theorem lx_t {ms : List (Nat × Nat)} {h h2 : ae_H} (hm : lx_no ms = true) (T : sv_Tk sv_ty sv_tt ms h h2) (ok : dc_ok h) : rz_t (dc_m h2) = rz_t (dc_m h) := by
  have e := lx_cell ok T.2 (k := 115) rfl rfl (lx_no_ok hm).2.2
  funext i
  unfold rz_t
  rw [e]
theorem lx_fr {ms : List (Nat × Nat)} {h h2 : ae_H} (hm : lx_no ms = true) (T : sv_Tk sv_ty sv_tt ms h h2) {F : (Int → Int) → Int → Int} (X : lx_XF F h) : lx_XF F h2 := by
  obtain ⟨m1, m2, m3⟩ := lx_no_ok hm
  refine ⟨dc_ok_fr T.1 T.2 m1 X.1, ?_⟩
  rw [lx_cell X.1 T.2 (k := 2) rfl rfl m2, lx_t hm T X.1]
  exact X.2
theorem lx_run {Q : ae_R → Prop} {mi pc : Nat} {lv : ae_L} {st : List ae_V} {h : ae_H} (g : sv_G Q mi pc lv st h) : sv_G (fun r => Q r ∧ ∃ n, ae_exe n mi pc 0 0 lv st h = some r) mi pc lv st h := by
  obtain ⟨r, hr, N, hN⟩ := g
  exact ⟨r, ⟨hr, N, hN N (Nat.le_refl N)⟩, N, hN⟩
theorem lx_Fv {h : ae_H} {k j : Nat} {v : ae_V} (e : wk_F h k j = some v) : dc_m h k (j : Int) = dc_v v := by
  unfold wk_F at e
  unfold dc_m
  rw [if_neg (by omega), Int.toNat_natCast]
  cases hg : ae_hg h k with
  | none => rw [hg] at e; cases e
  | some c =>
    rw [hg] at e
    match c, e with
    | .inr (ci, fs), e =>
      have e : fs[j]? = some v := e
      show (match fs[j]? with
        | some v => dc_v v
        | none => 0) = dc_v v
      rw [e]
    | .inl q, e => cases e
theorem lx_F {h : ae_H} {k j : Nat} {n : Int} (e : wk_F h k j = some (wk_i n)) (hI : sv_I n) : dc_m h k (j : Int) = n := by
  rw [lx_Fv e]
  show sv_g (sv_u n) = n
  exact sv_g_u hI
theorem lx_n {n : Int} (b : 0 ≤ n ∧ n ≤ 740) : sv_I n := by unfold sv_I; omega
section
variable {h : ae_H} {r : ae_R} {n m x1 x2 x3 x4 x5 : Int} {nn : Nat}
theorem lx_feedC (X : lx_X h) (e : wk_F h 1 1 = some (wk_i n)) (b : 0 ≤ n ∧ n ≤ 740) (h1 : sv_I x1) (h2 : sv_I x2) (h3 : sv_I x3) (h4 : sv_I x4) (h5 : sv_I x5) (hrun : ae_exe nn 144 0 0 0 (ae_args [wk_r 0, wk_i x1, wk_i x2, wk_i x3, wk_i x4, wk_i x5] 0) [] h = some r) : (n ≤ 720 → lx_XF (fun T => pz_u5 T n x1 x2 x3 x4 x5) r.2) ∧ (721 ≤ n → lx_X r.2) := by
  obtain ⟨v, hD, -, -, ok⟩ := ds_144 nn x1 x2 x3 x4 x5 X.1 h1 h2 h3 h4 h5 hrun
  have en : dc_m h 1 1 = n := lx_F (j := 1) e (lx_n b)
  obtain ⟨q1, q2, q3⟩ := cz_feed hD (by rw [en]; exact b)
  have et : rz_t (dc_m r.2) = rz_t (dc_m h) := funext fun i => by unfold rz_t; rw [q3 115 i (by decide) (by decide)]
  have X2 : dc_m h 2 = rz_t (dc_m h) := X.2
  refine ⟨fun z => ⟨ok, ?_⟩, fun z => ⟨ok, ?_⟩⟩
  · show dc_m r.2 2 = pz_u5 (rz_t (dc_m r.2)) n x1 x2 x3 x4 x5
    rw [q1 (by rw [en]; exact z), et, X2, en]
  · show dc_m r.2 2 = rz_t (dc_m r.2)
    rw [q2 (by rw [en]; exact z), et, X2]
theorem lx_feedR1 (X : lx_XF (fun T => pz_u5 T m x1 x2 x3 x4 x5) h) (e : wk_F h 114 2 = some (wk_i m)) (b : 0 ≤ m ∧ m ≤ 740) (z : m ≤ 720) (h1 : sv_I x1) (h2 : sv_I x2) (h3 : sv_I x3) (h4 : sv_I x4) (h5 : sv_I x5) (hrun : ae_exe nn 184 0 0 0 (ae_args [wk_r 114, wk_i x1, wk_i x2, wk_i x3, wk_i x4, wk_i x5] 0) [] h = some r) : lx_X r.2 := by
  obtain ⟨v, hD, -, -, ok⟩ := ds_184 nn x1 x2 x3 x4 x5 X.1 h1 h2 h3 h4 h5 hrun
  have en : dc_m h 114 2 = m := lx_F (j := 2) e (lx_n b)
  obtain ⟨q1, q2, q3⟩ := rz_feed hD (by rw [en]; exact b)
  have X2 : dc_m h 2 = pz_u5 (rz_t (dc_m h)) m x1 x2 x3 x4 x5 := X.2
  refine ⟨ok, ?_⟩
  show dc_m r.2 2 = rz_t (dc_m r.2)
  rw [q1 (by rw [en]; exact z), en, ← X2]
  exact funext fun i => q3 2 i (by decide) (by decide)
theorem lx_feedR2 (X : lx_X h) (e : wk_F h 114 2 = some (wk_i m)) (b : 0 ≤ m ∧ m ≤ 740) (z : 721 ≤ m) (h1 : sv_I x1) (h2 : sv_I x2) (h3 : sv_I x3) (h4 : sv_I x4) (h5 : sv_I x5) (hrun : ae_exe nn 184 0 0 0 (ae_args [wk_r 114, wk_i x1, wk_i x2, wk_i x3, wk_i x4, wk_i x5] 0) [] h = some r) : lx_X r.2 := by
  obtain ⟨v, hD, -, -, ok⟩ := ds_184 nn x1 x2 x3 x4 x5 X.1 h1 h2 h3 h4 h5 hrun
  have en : dc_m h 114 2 = m := lx_F (j := 2) e (lx_n b)
  obtain ⟨q1, q2, q3⟩ := rz_feed hD (by rw [en]; exact b)
  have X2 : dc_m h 2 = rz_t (dc_m h) := X.2
  refine ⟨ok, ?_⟩
  show dc_m r.2 2 = rz_t (dc_m r.2)
  rw [q2 (by rw [en]; exact z), ← X2]
  exact funext fun i => q3 2 i (by decide) (by decide)
theorem lx_ty0 {k : Nat} (h : sv_ty k = some 0) : 3 ≤ k := by
  have hl : k < 174 := (List.getElem?_eq_some_iff.mp h).1
  have key : ∀ k, k < 174 → sv_tys[k]? = some 0 → 3 ≤ k := by decide +kernel
  exact key k hl h
theorem lx_boardC (X : lx_X h) (hk : sv_hk sv_ty sv_tt h) (e : wk_F h 1 1 = some (wk_i n)) (b : 0 ≤ n ∧ n ≤ 740) (hrun : ae_exe nn 150 0 0 0 (ae_args [wk_r 0] 0) [] h = some r) : r.1 = some (wk_i (pz_ans (pz_all (rz_t (dc_m h)) n))) := by
  obtain ⟨v, hD, er, -, -⟩ := ds_150 nn X.1 hrun
  have en : dc_m h 1 1 = n := lx_F (j := 1) e (lx_n b)
  obtain ⟨k2, f2, t2⟩ := wk_ref (j := 9) hk wz_ty0 tT_11 rfl
  have e9 : dc_m h 0 9 = (k2 : Int) := lx_Fv (j := 9) f2
  have q := cz_board hD (by rw [e9, Int.toNat_natCast]; exact lx_ty0 t2) (by rw [en]; exact b)
  have X2 : dc_m h 2 = rz_t (dc_m h) := X.2
  rw [er, q, en, X2]
theorem lx_boardR (X : lx_X h) (e : wk_F h 114 2 = some (wk_i m)) (b : 0 ≤ m ∧ m ≤ 740) (hrun : ae_exe nn 209 0 0 0 (ae_args [wk_r 114] 0) [] h = some r) : r.1 = some (wk_i (pz_ans (pz_all (rz_t (dc_m h)) m))) := by
  obtain ⟨v, hD, er, -, -⟩ := ds_209 nn X.1 hrun
  have en : dc_m h 114 2 = m := lx_F (j := 2) e (lx_n b)
  have q := rz_board hD (by rw [en]; exact b)
  rw [er, q, en]
end
