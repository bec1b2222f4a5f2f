/-! WHAT MORE STANDS BETWEEN TWO CALLS: the shape, that both tapes hold the same bytes, that both tell the same fault, that both hold the same JOB, that the class has its runs -/
/-- the two JOBS -/
def lx_two (m : dc_M) : Prop := ((m 0 10).toNat = 96 ∧ (m 0 11).toNat = 105) ∨ ((m 0 10).toNat = 105 ∧ (m 0 11).toNat = 96)
def lx_JJ (J : pj_J) (m : dc_M) : Prop := pj_ok J ∧ cj_J m (m 0 10).toNat J ∧ r0_J m J ∧ cn_R J m
def lx_J (m : dc_M) : Prop := lx_two m ∧ m 49 0 = 0 ∧ ∃ J, lx_JJ J m
/-- where the JOBS and the runs lie -/
def lx_jr (k : Nat) : Bool := and (Nat.ble 97 k) (Nat.ble k 104) || (and (Nat.ble 106 k) (Nat.ble k 113) || (Nat.beq k 47 || (Nat.beq k 49 || and (Nat.ble 152 k) (Nat.ble k 159))))
def lx_jf : List (Nat × Nat) := [(0, 10), (0, 11), (96, 3), (96, 9), (105, 3), (105, 9), (46, 1)]
def lx_sj (a b : dc_M) : Prop := (∀ k, lx_jr k = true → b k = a k) ∧ ∀ q ∈ lx_jf, b q.1 (q.2 : Int) = a q.1 (q.2 : Int)
theorem lx_sj.rf {a : dc_M} : lx_sj a a := ⟨fun _ _ => rfl, fun _ _ => rfl⟩
theorem lx_sj.tr {a b c : dc_M} (h : lx_sj a b) (g : lx_sj b c) : lx_sj a c := ⟨fun k hk => (g.1 k hk).trans (h.1 k hk), fun q hq => (g.2 q hq).trans (h.2 q hq)⟩
theorem lx_sj.of {a b : dc_M} (h : ∀ (k : Nat) (i : Int), k ≠ 1 → k ≠ 2 → k ≠ 114 → k ≠ 115 → b k i = a k i) : lx_sj a b := by
  refine ⟨fun k hk => funext fun i => h k i ?_ ?_ ?_ ?_, fun q hq => ?_⟩
  · intro e; subst e; revert hk; decide
  · intro e; subst e; revert hk; decide
  · intro e; subst e; revert hk; decide
  · intro e; subst e; revert hk; decide
  · have key : ∀ q ∈ lx_jf, q.1 ≠ 1 ∧ q.1 ≠ 2 ∧ q.1 ≠ 114 ∧ q.1 ≠ 115 := by decide
    obtain ⟨k1, k2, k3, k4⟩ := key q hq
    exact h q.1 _ k1 k2 k3 k4
theorem cn_R.go {J : pj_J} {a b : dc_M} (h : cn_R J a) (e1 : b 46 1 = a 46 1) (e2 : b 47 = a 47) : cn_R J b := by
  obtain ⟨F, P, hT, q⟩ := h
  refine ⟨F, P, hT, ?_⟩
  rw [e1, e2]
  exact q
theorem cj_J.g3 {J : pj_J} {a b : dc_M} {k : Nat} (h : cj_J a k J) (e3 : b k 3 = a k 3) (e9 : b k 9 = a k 9) (g : ∀ q : Nat, 1 ≤ q → q ≤ 8 → b (k + q) = a (k + q)) : cj_J b k J := by
  obtain ⟨⟨a0, a1⟩, b0, w0, w1⟩ := h
  refine ⟨⟨e3.trans a0, fun i hi => ?_⟩, fun o p1 p3 => ?_, e9.trans w0, fun i hi => ?_⟩
  · rw [g 1 (by decide) (by decide), g 2 (by decide) (by decide), g 3 (by decide) (by decide)]; exact a1 i hi
  · rw [g 4 (by decide) (by decide)]; exact b0 o p1 p3
  · rw [g 5 (by decide) (by decide), g 6 (by decide) (by decide), g 7 (by decide) (by decide), g 8 (by decide) (by decide)]; exact w1 i hi
theorem lx_jr96 : ∀ q : Nat, 1 ≤ q → q ≤ 8 → lx_jr (96 + q) = true ∧ lx_jr (105 + q) = true := by
  have key : ∀ q : Nat, q < 9 → 1 ≤ q → lx_jr (96 + q) = true ∧ lx_jr (105 + q) = true := by decide
  exact fun q h1 h8 => key q (by omega) h1
theorem lx_jr152 : ∀ k : Nat, 152 ≤ k → k ≤ 159 → lx_jr k = true := by
  have key : ∀ k : Nat, k < 160 → 152 ≤ k → lx_jr k = true := by decide
  exact fun k h1 h2 => key k (by omega) h1
theorem lx_J.go {a b : dc_M} (h : lx_J a) (f : lx_sj a b) : lx_J b := by
  obtain ⟨t, z, J, ok, c, r, n⟩ := h
  have e10 : b 0 10 = a 0 10 := f.2 (0, 10) (by decide)
  have e11 : b 0 11 = a 0 11 := f.2 (0, 11) (by decide)
  have e49 : b 49 = a 49 := f.1 49 (by decide)
  refine ⟨?_, by rw [e49]; exact z, J, ok, ?_, r.go (fun k i k1 k2 => by rw [f.1 k (lx_jr152 k k1 k2)]), n.go (f.2 (46, 1) (by decide)) (f.1 47 (by decide))⟩
  · unfold lx_two; rw [e10, e11]; exact t
  · rw [e10]
    rcases t with ⟨t, -⟩ | ⟨t, -⟩
    · rw [t] at c ⊢
      exact c.g3 (f.2 (96, 3) (by decide)) (f.2 (96, 9) (by decide)) (fun q h1 h8 => f.1 _ (lx_jr96 q h1 h8).1)
    · rw [t] at c ⊢
      exact c.g3 (f.2 (105, 3) (by decide)) (f.2 (105, 9) (by decide)) (fun q h1 h8 => f.1 _ (lx_jr96 q h1 h8).2)
/-- how many wires each board has, which places are kept -/
def lb_N (m : dc_M) : Prop := lx_twoB m ∧ m (m 0 8).toNat 2 = m 120 0 ∧ (∀ k : Nat, k < 8 → m (64 + 3 * k) 2 = m 120 (2 + (k : Int))) ∧ ∃ s : Nat, s < 256 ∧ m 56 1 = (s : Int) ∧ ∀ k : Nat, k < 8 → (lb_b s k = 0 ↔ m 122 (k : Int) = 0)
/-- the cells that it speaks of -/
def lx_nc (k : Nat) (i : Int) : Prop := (k = 0 ∧ (i = 8 ∨ i = 9)) ∨ (k = 56 ∧ i = 1) ∨ (64 ≤ k ∧ k ≤ 93 ∧ (k = 90 ∨ k = 93 ∨ (k ≤ 85 ∧ k % 3 = 1)) ∧ i = 2) ∨ k = 120 ∨ k = 122
def lx_sn (a b : dc_M) : Prop := ∀ (k : Nat) (i : Int), lx_nc k i → b k i = a k i
theorem lx_sn.tr {a b c : dc_M} (h : lx_sn a b) (g : lx_sn b c) : lx_sn a c := fun k i z => (g k i z).trans (h k i z)
theorem lx_sn.of {a b : dc_M} (h : ∀ (k : Nat) (i : Int), k ≠ 1 → k ≠ 2 → k ≠ 114 → k ≠ 115 → b k i = a k i) : lx_sn a b := fun k i z => by
  unfold lx_nc at z
  exact h k i (by omega) (by omega) (by omega) (by omega)
theorem lb_N.mk2 {a b : dc_M} (N : lb_N a) (two : lx_twoB b) (h0 : b (b 0 8).toNat 2 = b 120 0) (hs : ∀ k : Nat, k < 8 → b (64 + 3 * k) 2 = a (64 + 3 * k) 2) (h56 : b 56 1 = a 56 1) (hr : ∀ i : Int, 2 ≤ i → b 120 i = a 120 i) (h122 : ∀ i : Int, b 122 i = a 122 i) : lb_N b := by
  obtain ⟨-, -, n3, s, s1, s2, s3⟩ := N
  exact ⟨two, h0, fun k hk => by rw [hs k hk, hr _ (by omega)]; exact n3 k hk, s, s1, h56.trans s2, fun k hk => by rw [h122]; exact s3 k hk⟩
theorem lb_N.go {a b : dc_M} (N : lb_N a) (f : lx_sn a b) : lb_N b := by
  have e8 : b 0 8 = a 0 8 := f 0 8 (Or.inl ⟨rfl, Or.inl rfl⟩)
  have e9 : b 0 9 = a 0 9 := f 0 9 (Or.inl ⟨rfl, Or.inr rfl⟩)
  have two := N.1
  have two2 : lx_twoB b := by unfold lx_twoB; rw [e8, e9]; exact two
  refine N.mk2 two2 ?_ (fun k hk => f _ 2 (Or.inr (Or.inr (Or.inl ⟨by omega, by omega, Or.inr (Or.inr ⟨by omega, by omega⟩), rfl⟩)))) (f 56 1 (Or.inr (Or.inl ⟨rfl, rfl⟩))) (fun i _ => f 120 i (Or.inr (Or.inr (Or.inr (Or.inl rfl))))) (fun i => f 122 i (Or.inr (Or.inr (Or.inr (Or.inr rfl)))))
  rw [e8, f 120 0 (Or.inr (Or.inr (Or.inr (Or.inl rfl)))), f _ 2 (Or.inr (Or.inr (Or.inl ⟨by rcases two with ⟨t, -⟩ | ⟨t, -⟩ <;> omega, by rcases two with ⟨t, -⟩ | ⟨t, -⟩ <;> omega, by rcases two with ⟨t, -⟩ | ⟨t, -⟩ <;> omega, rfl⟩)))]
  exact N.2.1
def lx_P (m : dc_M) : Prop := m 2 = rz_t m ∧ m 1 8 = m 114 10 ∧ lx_J m ∧ lb_N m
def lx_XF (K : dc_M → Prop) (h : ae_H) : Prop := dc_ok h ∧ K (dc_m h)
def lx_X (h : ae_H) : Prop := lx_XF lx_P h
/-- behind the class's call: what stood ahead of it, and what the call did -/
def lx_K (n : Int) (R : dc_M → dc_M → Prop) (m1 : dc_M) : Prop := ∃ h0, dc_ok h0 ∧ lx_P (dc_m h0) ∧ dc_m h0 1 1 = n ∧ dc_m h0 114 2 = n ∧ R (dc_m h0) m1
def lx_badJ : List (Nat × Nat) := [(11, 10), (11, 11), (2, 3), (2, 9), (6, 1), (48, 0), (50, 0), (40, 0), (41, 0), (42, 0), (43, 0), (44, 0), (45, 0), (46, 0), (47, 0), (89, 0), (90, 0), (91, 0), (92, 0), (93, 0), (94, 0), (95, 0), (96, 0)]
def lx_badN : List (Nat × Nat) := [(11, 8), (11, 9), (0, 2), (8, 1), (64, 0), (66, 0)]
def lx_bad : List (Nat × Nat) := [(13, 0), (60, 0), (9, 8), (12, 10)]
def lx_av (l : List (Nat × Nat)) (r : Nat × Nat) : Bool := l.all (fun q => !(Nat.beq q.1 r.1 && Nat.beq q.2 r.2))
def lx_nl (l ms : List (Nat × Nat)) : Bool := ms.all (lx_av l)
theorem lx_nl_ok {l ms : List (Nat × Nat)} (h : lx_nl l ms = true) : ∀ q ∈ l, q ∉ ms := fun q hq z => by
  have h1 := List.all_eq_true.mp (List.all_eq_true.mp h q z) q hq
  rw [Nat.beq_refl, Nat.beq_refl] at h1
  cases h1
def lx_no (ms : List (Nat × Nat)) : Bool := and (dc_no ms) (and (lx_nl lx_bad ms) (and (lx_nl lx_badJ ms) (lx_nl lx_badN ms)))
theorem lx_cell {ms : List (Nat × Nat)} {h h2 : ae_H} {k t tag len : Nat} {x : List (Nat × Nat)} (ok : dc_ok h) (hf : sv_fr sv_ty ms h h2) (ht : sv_ty k = some t) (hT : dc_tt[t]? = some (1, tag, len, x)) (hm : (t, 0) ∉ ms) : dc_m h2 k = dc_m h k := by
  obtain ⟨A, g1⟩ := dc_a ok ht hT
  have g2 := hf k t ht _ g1 hm
  funext i
  unfold dc_m
  rw [g1, g2]
theorem lx_Fv {h : ae_H} {k j : Nat} {v : ae_V} (e : wk_F h k j = some v) : dc_m h k (j : Int) = dc_v v := by
  unfold wk_F at e
  unfold dc_m
  rw [if_neg (by omega), Int.toNat_natCast]
  cases hg : ae_hg h k with
  | none => rw [hg] at e; cases e
  | some c =>
    rw [hg] at e
    match c, e with
    | .inr (ci, fs), e =>
      have e : fs[j]? = some v := e
      show (match fs[j]? with
        | some v => dc_v v
        | none => 0) = dc_v v
      rw [e]
    | .inl q, e => cases e
theorem lx_F {h : ae_H} {k j : Nat} {n : Int} (e : wk_F h k j = some (wk_i n)) (hI : sv_I n) : dc_m h k (j : Int) = n := by
  rw [lx_Fv e]
  show sv_g (sv_u n) = n
  exact sv_g_u hI
theorem lx_n {n : Int} (b : 0 ≤ n ∧ n ≤ 740) : sv_I n := by unfold sv_I; omega
/-- a field that stays -/
theorem lx_fld {h h2 : ae_H} {k j t ci z0 : Nat} {fl : List (Nat × Nat)} {f : Nat × Nat} (ok : dc_ok h) (ht : sv_ty k = some t) (hT : dc_tt[t]? = some (0, ci, z0, fl)) (hf : fl[j]? = some f) (e : wk_F h2 k j = wk_F h k j) : dc_m h2 k (j : Int) = dc_m h k (j : Int) := by
  obtain ⟨v, e1, -, e3⟩ := dc_f ok ht hT hf
  rw [e3]
  exact lx_Fv (e.trans e1)
theorem lx_t {ms : List (Nat × Nat)} {h h2 : ae_H} (hm : (60, 0) ∉ ms) (T : sv_Tk sv_ty sv_tt ms h h2) (ok : dc_ok h) : rz_t (dc_m h2) = rz_t (dc_m h) := by
  have e := lx_cell ok T.2 (k := 115) rfl rfl hm
  funext i
  unfold rz_t
  rw [e]
theorem lx_18 {ms : List (Nat × Nat)} {h h2 : ae_H} (hm : (9, 8) ∉ ms) (hk : sv_hk sv_ty sv_tt h) (T : sv_Tk sv_ty sv_tt ms h h2) (ok : dc_ok h) : dc_m h2 1 8 = dc_m h 1 8 := lx_fld (j := 8) ok wz_ty1 dt_9 rfl (wk_fr_F hk T.2 wz_ty1 tT_9 rfl hm)
theorem lx_rf {ms : List (Nat × Nat)} {h h2 : ae_H} (hm : (12, 10) ∉ ms) (hk : sv_hk sv_ty sv_tt h) (T : sv_Tk sv_ty sv_tt ms h h2) (ok : dc_ok h) : dc_m h2 114 10 = dc_m h 114 10 := lx_fld (j := 10) ok (rfl : sv_ty 114 = some 12) dt_12 rfl (wk_fr_F hk T.2 (rfl : sv_ty 114 = some 12) tT_12 rfl hm)
theorem lx_rn {ms : List (Nat × Nat)} {h h2 : ae_H} (hm : (12, 2) ∉ ms) (hk : sv_hk sv_ty sv_tt h) (T : sv_Tk sv_ty sv_tt ms h h2) (ok : dc_ok h) : dc_m h2 114 2 = dc_m h 114 2 := lx_fld (j := 2) ok (rfl : sv_ty 114 = some 12) dt_12 rfl (wk_fr_F hk T.2 (rfl : sv_ty 114 = some 12) tT_12 rfl hm)
/-- rows of the JOBS and the runs -/
def lx_rk (k : Nat) : Bool := match sv_ty k with
  | some t => and (match dc_tt[t]? with
    | some S => Nat.beq S.1 1
    | none => false) (lx_badJ.any (fun q => and (Nat.beq q.1 t) (Nat.beq q.2 0)))
  | none => false
theorem lx_rk_ok {k : Nat} (h : lx_rk k = true) : ∃ t tag len x, sv_ty k = some t ∧ dc_tt[t]? = some (1, tag, len, x) ∧ (t, 0) ∈ lx_badJ := by
  unfold lx_rk at h
  split at h
  · next t ht =>
    obtain ⟨h1, h2⟩ := ae_band h
    split at h1
    · next S hS =>
      obtain ⟨S1, tag, len, x⟩ := S
      have e : S1 = 1 := ae_beq h1
      subst e
      obtain ⟨q, hq, z⟩ := List.any_eq_true.mp h2
      obtain ⟨z1, z2⟩ := ae_band z
      have e1 := ae_beq z1
      have e2 := ae_beq z2
      refine ⟨t, tag, len, x, ht, hS, ?_⟩
      rw [← e1, ← e2]
      exact hq
    · cases h1
  · cases h
theorem lx_jrk : ∀ k : Nat, lx_jr k = true → lx_rk k = true := by
  have key : ∀ k : Nat, k < 160 → lx_jr k = true → lx_rk k = true := by decide +kernel
  intro k hk
  refine key k ?_ hk
  by_cases z : k < 160
  · exact z
  · exfalso
    unfold lx_jr at hk
    simp only [Bool.or_eq_true] at hk
    rcases hk with y | y | y | y | y
    · have := Nat.le_of_ble_eq_true (ae_band y).2; omega
    · have := Nat.le_of_ble_eq_true (ae_band y).2; omega
    · have := ae_beq y; omega
    · have := ae_beq y; omega
    · have := Nat.le_of_ble_eq_true (ae_band y).2; omega
theorem lx_sJ {ms : List (Nat × Nat)} {h h2 : ae_H} (hm : lx_nl lx_badJ ms = true) (hk : sv_hk sv_ty sv_tt h) (T : sv_Tk sv_ty sv_tt ms h h2) (ok : dc_ok h) : lx_sj (dc_m h) (dc_m h2) := by
  have q := lx_nl_ok hm
  have k96 : sv_ty 96 = some 2 := rfl
  have k105 : sv_ty 105 = some 2 := rfl
  have k46 : sv_ty 46 = some 6 := rfl
  refine ⟨fun k hj => ?_, fun z hz => ?_⟩
  · obtain ⟨t, tag, len, x, ht, hT, hb⟩ := lx_rk_ok (lx_jrk k hj)
    exact lx_cell ok T.2 ht hT (q _ hb)
  · unfold lx_jf at hz
    simp only [List.mem_cons, List.not_mem_nil, or_false] at hz
    rcases hz with e | e | e | e | e | e | e <;> subst e
    · exact lx_fld (j := 10) ok wz_ty0 dt_11 rfl (wk_fr_F hk T.2 wz_ty0 tT_11 rfl (q _ (by decide)))
    · exact lx_fld (j := 11) ok wz_ty0 dt_11 rfl (wk_fr_F hk T.2 wz_ty0 tT_11 rfl (q _ (by decide)))
    · exact lx_fld (j := 3) ok k96 dt_2 rfl (wk_fr_F hk T.2 k96 tT_2 rfl (q _ (by decide)))
    · exact lx_fld (j := 9) ok k96 dt_2 rfl (wk_fr_F hk T.2 k96 tT_2 rfl (q _ (by decide)))
    · exact lx_fld (j := 3) ok k105 dt_2 rfl (wk_fr_F hk T.2 k105 tT_2 rfl (q _ (by decide)))
    · exact lx_fld (j := 9) ok k105 dt_2 rfl (wk_fr_F hk T.2 k105 tT_2 rfl (q _ (by decide)))
    · exact lx_fld (j := 1) ok k46 dt_6 rfl (wk_fr_F hk T.2 k46 tT_6 rfl (q _ (by decide)))
theorem lx_tyN : ∀ k : Nat, 64 ≤ k → k ≤ 93 → (k = 90 ∨ k = 93 ∨ (k ≤ 85 ∧ k % 3 = 1)) → sv_ty k = some 0 := by
  have key : ∀ k : Nat, k < 94 → 64 ≤ k → (k = 90 ∨ k = 93 ∨ (k ≤ 85 ∧ k % 3 = 1)) → sv_ty k = some 0 := by decide +kernel
  exact fun k h1 h2 h3 => key k (by omega) h1 h3
theorem lx_sN {ms : List (Nat × Nat)} {h h2 : ae_H} (hm : lx_nl lx_badN ms = true) (hk : sv_hk sv_ty sv_tt h) (T : sv_Tk sv_ty sv_tt ms h h2) (ok : dc_ok h) : lx_sn (dc_m h) (dc_m h2) := by
  have q := lx_nl_ok hm
  have k56 : sv_ty 56 = some 8 := rfl
  intro k i z
  rcases z with ⟨e, z | z⟩ | ⟨e, z⟩ | ⟨z1, z2, z3, z⟩ | e | e
  · subst e z; exact lx_fld (j := 8) ok wz_ty0 dt_11 rfl (wk_fr_F hk T.2 wz_ty0 tT_11 rfl (q _ (by decide)))
  · subst e z; exact lx_fld (j := 9) ok wz_ty0 dt_11 rfl (wk_fr_F hk T.2 wz_ty0 tT_11 rfl (q _ (by decide)))
  · subst e z; exact lx_fld (j := 1) ok k56 dt_8 rfl (wk_fr_F hk T.2 k56 tT_8 rfl (q _ (by decide)))
  · have ht := lx_tyN k z1 z2 z3
    subst z
    exact lx_fld (j := 2) ok ht dt_0 rfl (wk_fr_F hk T.2 ht tT_0 rfl (q _ (by decide)))
  · subst e; rw [lx_cell ok T.2 (k := 120) rfl rfl (q _ (by decide))]
  · subst e; rw [lx_cell ok T.2 (k := 122) rfl rfl (q _ (by decide))]
theorem lx_fr {ms : List (Nat × Nat)} {h h2 : ae_H} (hm : lx_no ms = true) (hk : sv_hk sv_ty sv_tt h) (T : sv_Tk sv_ty sv_tt ms h h2) (X : lx_X h) : lx_X h2 := by
  obtain ⟨m1, m2⟩ := ae_band hm
  obtain ⟨m2, m3⟩ := ae_band m2
  obtain ⟨m3, m4⟩ := ae_band m3
  have q := lx_nl_ok m2
  refine ⟨dc_ok_fr T.1 T.2 m1 X.1, ?_, ?_, X.2.2.2.1.go (lx_sJ m3 hk T X.1), X.2.2.2.2.go (lx_sN m4 hk T X.1)⟩
  · rw [lx_cell X.1 T.2 (k := 2) rfl rfl (q _ (by decide)), lx_t (q _ (by decide)) T X.1]
    exact X.2.1
  · rw [lx_18 (q _ (by decide)) hk T X.1, lx_rf (q _ (by decide)) hk T X.1]
    exact X.2.2.1
/-- what a call of the class leaves of the reference's, and of its own tape -/
def lx_C (a b : dc_M) : Prop := b 2 = a 2 ∧ b 115 = a 115 ∧ b 114 2 = a 114 2 ∧ b 114 10 = a 114 10
def lx_badC : List (Nat × Nat) := [(13, 0), (60, 0), (12, 2), (12, 10)]
theorem lx_Cc {ms : List (Nat × Nat)} {h h2 : ae_H} (hm : lx_nl lx_badC ms = true) (hk : sv_hk sv_ty sv_tt h) (T : sv_Tk sv_ty sv_tt ms h h2) (ok : dc_ok h) : lx_C (dc_m h) (dc_m h2) := by
  have q := lx_nl_ok hm
  exact ⟨lx_cell ok T.2 (k := 2) rfl rfl (q _ (by decide)), lx_cell ok T.2 (k := 115) rfl rfl (q _ (by decide)), lx_rn (q _ (by decide)) hk T ok, lx_rf (q _ (by decide)) hk T ok⟩
/-- what a call of the reference leaves of the class's, and of its own tape -/
def lx_D (a b : dc_M) : Prop := b 2 = a 2 ∧ b 115 = a 115 ∧ b 1 8 = a 1 8
def lx_badD : List (Nat × Nat) := [(13, 0), (60, 0), (9, 8)]
theorem lx_Dd {ms : List (Nat × Nat)} {h h2 : ae_H} (hm : lx_nl lx_badD ms = true) (hk : sv_hk sv_ty sv_tt h) (T : sv_Tk sv_ty sv_tt ms h h2) (ok : dc_ok h) : lx_D (dc_m h) (dc_m h2) := by
  have q := lx_nl_ok hm
  exact ⟨lx_cell ok T.2 (k := 2) rfl rfl (q _ (by decide)), lx_cell ok T.2 (k := 115) rfl rfl (q _ (by decide)), lx_18 (q _ (by decide)) hk T ok⟩
/-- as lx_C and lx_D, and the JOBS and the runs -/
def lx_CJ (a b : dc_M) : Prop := lx_C a b ∧ lx_sj a b
def lx_DJ (a b : dc_M) : Prop := lx_D a b ∧ lx_sj a b
theorem lx_CJc {ms : List (Nat × Nat)} {h h2 : ae_H} (hm : and (lx_nl lx_badC ms) (lx_nl lx_badJ ms) = true) (hk : sv_hk sv_ty sv_tt h) (T : sv_Tk sv_ty sv_tt ms h h2) (ok : dc_ok h) : lx_CJ (dc_m h) (dc_m h2) := ⟨lx_Cc (ae_band hm).1 hk T ok, lx_sJ (ae_band hm).2 hk T ok⟩
theorem lx_DJd {ms : List (Nat × Nat)} {h h2 : ae_H} (hm : and (lx_nl lx_badD ms) (lx_nl lx_badJ ms) = true) (hk : sv_hk sv_ty sv_tt h) (T : sv_Tk sv_ty sv_tt ms h h2) (ok : dc_ok h) : lx_DJ (dc_m h) (dc_m h2) := ⟨lx_Dd (ae_band hm).1 hk T ok, lx_sJ (ae_band hm).2 hk T ok⟩
/-- the same, of a call that tells no fault -/
def lx_CM (a b : dc_M) : Prop := lx_CJ a b ∧ b 1 8 = a 1 8
def lx_DM (a b : dc_M) : Prop := lx_DJ a b ∧ b 114 10 = a 114 10
theorem lx_CMc {ms : List (Nat × Nat)} {h h2 : ae_H} (hm : and (and (lx_nl lx_badC ms) (lx_nl lx_badJ ms)) (lx_nl [(9, 8)] ms) = true) (hk : sv_hk sv_ty sv_tt h) (T : sv_Tk sv_ty sv_tt ms h h2) (ok : dc_ok h) : lx_CM (dc_m h) (dc_m h2) := ⟨lx_CJc (ae_band hm).1 hk T ok, lx_18 (lx_nl_ok (ae_band hm).2 _ (by decide)) hk T ok⟩
theorem lx_DMd {ms : List (Nat × Nat)} {h h2 : ae_H} (hm : and (and (lx_nl lx_badD ms) (lx_nl lx_badJ ms)) (lx_nl [(12, 10)] ms) = true) (hk : sv_hk sv_ty sv_tt h) (T : sv_Tk sv_ty sv_tt ms h h2) (ok : dc_ok h) : lx_DM (dc_m h) (dc_m h2) := ⟨lx_DJd (ae_band hm).1 hk T ok, lx_rf (lx_nl_ok (ae_band hm).2 _ (by decide)) hk T ok⟩
/-- and that changes no board -/
def lx_CQ (a b : dc_M) : Prop := lx_CM a b ∧ lx_sn a b
def lx_DQ (a b : dc_M) : Prop := lx_DM a b ∧ lx_sn a b
theorem lx_CQc {ms : List (Nat × Nat)} {h h2 : ae_H} (hm : and (and (and (lx_nl lx_badC ms) (lx_nl lx_badJ ms)) (lx_nl [(9, 8)] ms)) (lx_nl lx_badN ms) = true) (hk : sv_hk sv_ty sv_tt h) (T : sv_Tk sv_ty sv_tt ms h h2) (ok : dc_ok h) : lx_CQ (dc_m h) (dc_m h2) := ⟨lx_CMc (ae_band hm).1 hk T ok, lx_sN (ae_band hm).2 hk T ok⟩
theorem lx_DQd {ms : List (Nat × Nat)} {h h2 : ae_H} (hm : and (and (and (lx_nl lx_badD ms) (lx_nl lx_badJ ms)) (lx_nl [(12, 10)] ms)) (lx_nl lx_badN ms) = true) (hk : sv_hk sv_ty sv_tt h) (T : sv_Tk sv_ty sv_tt ms h h2) (ok : dc_ok h) : lx_DQ (dc_m h) (dc_m h2) := ⟨lx_DMd (ae_band hm).1 hk T ok, lx_sN (ae_band hm).2 hk T ok⟩
theorem lx_run {Q : ae_R → Prop} {mi pc : Nat} {lv : ae_L} {st : List ae_V} {h : ae_H} (g : sv_G Q mi pc lv st h) : sv_G (fun r => Q r ∧ ∃ n, ae_exe n mi pc 0 0 lv st h = some r) mi pc lv st h := by
  obtain ⟨r, hr, N, hN⟩ := g
  exact ⟨r, ⟨hr, N, hN N (Nat.le_refl N)⟩, N, hN⟩
theorem lx_ty0 {k : Nat} (h : sv_ty k = some 0) : 3 ≤ k := by
  have hl : k < 174 := (List.getElem?_eq_some_iff.mp h).1
  have key : ∀ k, k < 174 → sv_tys[k]? = some 0 → 3 ≤ k := by decide +kernel
  exact key k hl h
theorem rz_t_e {a b : dc_M} (e : b 115 = a 115) : rz_t b = rz_t a := funext fun i => by unfold rz_t; rw [e]
/-- a pair that tells no fault leaves all but the boards -/
theorem lx_quiet1 {a b c : dc_M} (P : lx_P a) (f : lx_CM a b) (g : lx_DM b c) : c 2 = rz_t c ∧ c 1 8 = c 114 10 ∧ lx_J c := by
  obtain ⟨p1, p2, p3, -⟩ := P
  obtain ⟨⟨⟨c1, c2, -, c4⟩, sj⟩, c5⟩ := f
  obtain ⟨⟨⟨d1, d2, d3⟩, sk⟩, d4⟩ := g
  refine ⟨?_, ?_, p3.go (sj.tr sk)⟩
  · rw [d1, rz_t_e d2, c1, rz_t_e c2]; exact p1
  · rw [d3, c5, d4, c4]; exact p2
theorem lx_quiet {a b c : dc_M} (P : lx_P a) (f : lx_CQ a b) (g : lx_DQ b c) : lx_P c := by
  obtain ⟨q1, q2, q3⟩ := lx_quiet1 P f.1 g.1
  exact ⟨q1, q2, q3, P.2.2.2.go (f.2.tr g.2)⟩
/-! the calls in pairs -/
theorem px_feed {n x1 x2 x3 x4 x5 v v' : Int} {m1 m2 : dc_M} (K : lx_K n (fun a b => D_144 x1 x2 x3 x4 x5 a v b ∧ b 1 8 = a 1 8) m1) (hb : 0 ≤ n ∧ n ≤ 740) (h : D_184 x1 x2 x3 x4 x5 m1 v' m2) (f1 : m2 1 8 = m1 1 8) (f2 : m2 114 10 = m1 114 10) : lx_P m2 := by
  obtain ⟨h0, ok0, P0, e1, e2, hD, f0⟩ := K
  obtain ⟨q1, q2, q3⟩ := cz_feed hD (by rw [e1]; exact hb)
  have g2 : m1 114 2 = n := (q3 114 2 (by decide) (by decide)).trans e2
  obtain ⟨r1, r2, r3⟩ := rz_feed h (by rw [g2]; exact hb)
  have et : rz_t m1 = rz_t (dc_m h0) := rz_t_e (funext fun i => q3 115 i (by decide) (by decide))
  have e22 : m2 2 = m1 2 := funext fun i => r3 2 i (by decide) (by decide)
  refine ⟨?_, ?_, P0.2.2.1.go ((lx_sj.of fun k i k1 k2 _ _ => q3 k i k1 k2).tr (lx_sj.of fun k i _ _ k3 k4 => r3 k i k3 k4)), P0.2.2.2.go ((lx_sn.of fun k i k1 k2 _ _ => q3 k i k1 k2).tr (lx_sn.of fun k i _ _ k3 k4 => r3 k i k3 k4))⟩
  · rw [e22]
    by_cases z : n ≤ 720
    · rw [q1 (by rw [e1]; exact z), r1 (by rw [g2]; exact z), et, g2, e1, P0.1]
    · rw [q2 (by rw [e1]; omega), r2 (by rw [g2]; omega), et, P0.1]
  · rw [f1, f0, f2, q3 114 10 (by decide) (by decide)]
    exact P0.2.1
/-- the boards behind board() -/
theorem lb_board {a m1 m2 : dc_M} (N : lb_N a) {R : pz_E (List (Int × Int))} (c : (∀ (k : Nat) (i : Int), k ≠ 1 → ¬ (k = 0 ∧ (i = 8 ∨ i = 9)) → ¬ (90 ≤ k ∧ k ≤ 95) → m1 k i = a k i) ∧ match R with
    | .inl _ => m1 0 8 = a 0 8 ∧ m1 0 9 = a 0 9 ∧ ∀ (k : Nat) (i : Int), (a 0 8).toNat ≤ k → k ≤ (a 0 8).toNat + 2 → m1 k i = a k i
    | .inr W => m1 0 8 = (((a 0 9).toNat : Nat) : Int) ∧ m1 0 9 = (((a 0 8).toNat : Nat) : Int) ∧ cz_W m1 (a 0 9).toNat W) (r : rd_f m1 m2 ∧ match (generalizing := false) R with
    | .inl _ => rc_f m1 m2
    | .inr W => rz_V m2 0 W) : lb_N m2 := by
  obtain ⟨c1, c2⟩ := c
  obtain ⟨r1, r2⟩ := r
  have two := N.1
  have s2 : ∀ (k : Nat) (i : Int), k < 114 → m2 k i = m1 k i := fun k i hk => r1 k i (by unfold rd_t; omega)
  have hs : ∀ k : Nat, k < 8 → m2 (64 + 3 * k) 2 = a (64 + 3 * k) 2 := fun k hk => (s2 _ 2 (by omega)).trans (c1 _ 2 (by omega) (by omega) (by omega))
  have h56 : m2 56 1 = a 56 1 := (s2 56 1 (by decide)).trans (c1 56 1 (by decide) (by decide) (by decide))
  have hr : ∀ i : Int, 2 ≤ i → m2 120 i = a 120 i := fun i hi => (r1 120 i (by unfold rd_t; omega)).trans (c1 120 i (by decide) (by omega) (by decide))
  have h122 : ∀ i : Int, m2 122 i = a 122 i := fun i => (r1 122 i (by unfold rd_t; omega)).trans (c1 122 i (by decide) (by omega) (by decide))
  cases R with
  | inl f =>
    obtain ⟨d8, d9, d⟩ := c2
    have g8 : m2 0 8 = a 0 8 := (s2 0 8 (by decide)).trans d8
    have g9 : m2 0 9 = a 0 9 := (s2 0 9 (by decide)).trans d9
    refine N.mk2 (by unfold lx_twoB; rw [g8, g9]; exact two) ?_ hs h56 hr h122
    have g0 : m2 120 0 = a 120 0 := (r2 120 0 (by unfold rc_t; omega)).trans (c1 120 0 (by decide) (by omega) (by decide))
    rw [g8, g0, s2 _ 2 (by rcases two with ⟨t, -⟩ | ⟨t, -⟩ <;> omega), d _ 2 (Nat.le_refl _) (by omega)]
    exact N.2.1
  | inr W =>
    obtain ⟨d8, d9, d⟩ := c2
    have g8 : m2 0 8 = (((a 0 9).toNat : Nat) : Int) := (s2 0 8 (by decide)).trans d8
    have g9 : m2 0 9 = (((a 0 8).toNat : Nat) : Int) := (s2 0 9 (by decide)).trans d9
    refine N.mk2 (by unfold lx_twoB; rw [g8, g9, Int.toNat_natCast, Int.toNat_natCast]; rcases two with ⟨t1, t2⟩ | ⟨t1, t2⟩; exact Or.inr ⟨t2, t1⟩; exact Or.inl ⟨t2, t1⟩) ?_ hs h56 hr h122
    rw [g8, Int.toNat_natCast, s2 _ 2 (by rcases two with ⟨-, t⟩ | ⟨-, t⟩ <;> omega), d.1]
    exact r2.1.symm
theorem px_board {n v v' : Int} {m1 m2 : dc_M} (K : lx_K n (fun a b => D_150 a v b ∧ lx_CJ a b) m1) (hb : 0 ≤ n ∧ n ≤ 740) (h : D_209 m1 v' m2) (f : lx_DJ m1 m2) : v' = v ∧ lx_P m2 := by
  obtain ⟨h0, ok0, P0, e1, e2, hD, ⟨c1, c2, c3, c4⟩, cj⟩ := K
  have k3 := lx_ty0 (dc_ft (j := 9) ok0 wz_ty0 dt_11 rfl).2
  have q := cz_board hD k3 (by rw [e1]; exact hb)
  have qF := cz_boardF hD k3 (by rw [e1]; exact hb)
  have r := rz_board h (by rw [c3, e2]; exact hb)
  have rF := rz_boardF h (by rw [c3, e2]; exact hb)
  have qW := cz_boardW hD P0.2.2.2.1 (by rw [e1]; exact hb)
  have rW := rz_boardW h (by rw [c3, e2]; exact hb)
  rw [e1, P0.1] at q qF qW
  rw [rz_t_e c2, c3, e2] at r rF rW
  refine ⟨r.trans q.symm, ?_, ?_, P0.2.2.1.go (cj.tr f.2), lb_board P0.2.2.2 qW rW⟩
  · rw [f.1.1, rz_t_e f.1.2.1, c1, rz_t_e c2]; exact P0.1
  · rw [f.1.2.2, rF]; exact qF
theorem lx_oj {a b : dc_M} {k : Nat} (hk : k = 96 ∨ k = 105) (o : ∀ (j : Nat) (i : Int), j ≠ 1 → ¬ (k ≤ j ∧ j ≤ k + 8) → b j i = a j i) {J : pj_J} {k2 : Nat} (h2 : (k = 96 ∧ k2 = 105) ∨ (k = 105 ∧ k2 = 96)) (h : cj_J a k2 J) : cj_J b k2 J := h.g3 (o k2 3 (by omega) (by omega)) (o k2 9 (by omega) (by omega)) (fun q h1 h8 => funext fun i => o (k2 + q) i (by omega) (by omega))
/-- the class's job(): the JOB that stands behind it, its runs -/
theorem cj_jobJ {m : dc_M} {v : Int} {m' : dc_M} (h : D_163 m v m') (hn : 0 ≤ m 1 1 ∧ m 1 1 ≤ 740) (t : lx_two m) (z : m 49 0 = 0) {J0 : pj_J} (ok0 : pj_ok J0) (c0 : cj_J m (m 0 10).toNat J0) (n0 : cn_R J0 m) : lx_two m' ∧ m' 49 0 = 0 ∧ match pj_all (m 2) (m 1 1) with
    | .inl _ => cj_J m' (m' 0 10).toNat J0 ∧ cn_R J0 m'
    | .inr K => pj_ok K ∧ cj_J m' (m' 0 10).toNat K ∧ cn_R K m' := by
  obtain ⟨v1, m1, h1, m2, e2, h⟩ := h
  obtain ⟨k, ek⟩ : ∃ k, k = (m 0 11).toNat := ⟨_, rfl⟩
  have hk : k = 96 ∨ k = 105 := by rcases t with ⟨-, t⟩ | ⟨-, t⟩ <;> omega
  rw [← ek] at h1
  obtain ⟨q, fr, -⟩ := cj_text (by omega) h1 hn
  have o2 : ∀ (j : Nat) (i : Int), j ≠ 1 → ¬ (k ≤ j ∧ j ≤ k + 8) → m2 j i = m j i := fun j i p1 p2 => by rw [e2, dc_up_k p1]; exact fr j i p1 p2
  have g10 : m2 0 10 = m 0 10 := o2 0 10 (by decide) (by omega)
  have g11 : m2 0 11 = m 0 11 := o2 0 11 (by decide) (by omega)
  have g49 : m2 49 0 = m 49 0 := o2 49 0 (by decide) (by omega)
  cases e : pj_all (m 2) (m 1 1) with
  | inl f =>
    obtain ⟨y1, y2, y3⟩ := pz_on_l q e
    rcases h with ⟨d1, -⟩ | ⟨d1, ev, em⟩
    · exact absurd y1 d1
    · rw [em]
      refine ⟨by unfold lx_two; rw [g10, g11]; exact t, g49.trans z, ?_⟩
      show cj_J m2 (m2 0 10).toNat J0 ∧ cn_R J0 m2
      rw [g10]
      refine ⟨lx_oj hk o2 (by rcases t with ⟨t1, t2⟩ | ⟨t1, t2⟩ <;> omega) c0, n0.go (o2 46 1 (by decide) (by omega)) (funext fun i => o2 47 i (by decide) (by omega))⟩
  | inr K =>
    obtain ⟨y1, y2, y3, JK, ok⟩ := pz_on_r q e
    rcases h with ⟨d1, m3, e3, m4, e4, v5, m5, h5, ev, em⟩ | ⟨d1, -⟩
    · have F := cp_80 h5
      have f4 : ∀ (j : Nat) (i : Int), j ≠ 0 → m4 j i = m2 j i := fun j i p => by rw [e4, dc_up_k p, e3, dc_up_k p]
      have i10 : m4 0 10 = (((m 0 11).toNat : Nat) : Int) := by rw [e4, dc_up_s, g11]
      have i11 : m4 0 11 = (((m 0 10).toNat : Nat) : Int) := by rw [e4, dc_up_i (by decide), e3, dc_up_s, g10]
      have j10 : m5 0 10 = m4 0 10 := F 0 10 (by decide)
      have j11 : m5 0 11 = m4 0 11 := F 0 11 (by decide)
      have K2 : cj_J m2 k K := JK.g3 (by rw [e2, dc_up_k (by omega)]) (by rw [e2, dc_up_k (by omega)]) (fun q p1 p8 => funext fun i => by rw [e2, dc_up_k (by omega)])
      have K4 : cj_J m4 k K := K2.g3 (f4 k 3 (by omega)) (f4 k 9 (by omega)) (fun q p1 p8 => funext fun i => f4 (k + q) i (by omega))
      rw [i10, Int.toNat_natCast, ← ek] at h5
      obtain ⟨n5, z5⟩ := cn_part hk ok h5 K4 ((f4 49 0 (by decide)).trans (g49.trans z))
      rw [em]
      refine ⟨?_, z5, ok, ?_, n5⟩
      · unfold lx_two
        rw [j10, j11, i10, i11, Int.toNat_natCast, Int.toNat_natCast]
        rcases t with ⟨t1, t2⟩ | ⟨t1, t2⟩
        · exact Or.inr ⟨t2, t1⟩
        · exact Or.inl ⟨t2, t1⟩
      · rw [j10, i10, Int.toNat_natCast, ← ek]
        exact K4.g3 (F k 3 (by omega)) (F k 9 (by omega)) (fun q p1 p8 => funext fun i => F (k + q) i (by omega))
    · exfalso; omega
theorem px_job {n v v' : Int} {m1 m2 : dc_M} (K : lx_K n (fun a b => D_163 a v b ∧ lx_C a b) m1) (hb : 0 ≤ n ∧ n ≤ 740) (h : D_256 m1 v' m2) (f : lx_D m1 m2) : v' = v ∧ lx_P m2 := by
  obtain ⟨h0, ok0, P0, e1, e2, hD, c1, c2, c3, c4⟩ := K
  have k2 := cj_ty2 (dc_ft (j := 11) ok0 wz_ty0 dt_11 rfl).2
  obtain ⟨q, qF, qo⟩ := cj_job hD k2 (by rw [e1]; exact hb)
  obtain ⟨r, rF, ro, rJ⟩ := rj_job h (by rw [c3, e2]; exact hb)
  obtain ⟨t, z, J0, okJ, cJ, rJ0, nJ⟩ := P0.2.2.1
  obtain ⟨t1, z1, qJ⟩ := cj_jobJ hD (by rw [e1]; exact hb) t z okJ cJ nJ
  rw [e1, P0.1] at q qF qJ
  rw [rz_t_e c2, c3, e2] at r rF rJ
  have R1 : r0_J m1 J0 := rJ0.go (fun k i p1 p2 => qo k i (by omega) (by omega) (by omega) (by omega))
  have s2 : ∀ (k : Nat) (i : Int), k < 114 → m2 k i = m1 k i := fun k i hk => ro k i (fun y => by have := y.1; omega) (by omega)
  have t2 : lx_two m2 := by unfold lx_two; rw [s2 0 10 (by decide), s2 0 11 (by decide)]; exact t1
  have cc : ∀ {K : pj_J}, cj_J m1 (m1 0 10).toNat K → cj_J m2 (m2 0 10).toNat K := fun {K} y => by
    rw [s2 0 10 (by decide)]
    rcases t1 with ⟨w, -⟩ | ⟨w, -⟩
    · rw [w] at y ⊢
      exact y.g3 (s2 96 3 (by decide)) (s2 96 9 (by decide)) (fun q p1 p8 => funext fun i => s2 _ i (by omega))
    · rw [w] at y ⊢
      exact y.g3 (s2 105 3 (by decide)) (s2 105 9 (by decide)) (fun q p1 p8 => funext fun i => s2 _ i (by omega))
  have nn : ∀ {K : pj_J}, cn_R K m1 → cn_R K m2 := fun {K} y => y.go (s2 46 1 (by decide)) (funext fun i => s2 47 i (by decide))
  have N2 : lb_N m2 := P0.2.2.2.go (lx_sn.tr (b := m1) (fun k i z => by
    unfold lx_nc at z
    exact qo k i (by omega) (by omega) (by omega) (by omega)) (fun k i z => by
    unfold lx_nc at z
    exact ro k i (fun y => by have := y.1; omega) (by omega)))
  refine ⟨r.trans q.symm, ?_, ?_, ⟨t2, (s2 49 0 (by decide)).trans z1, ?_⟩, N2⟩
  · rw [f.1, rz_t_e f.2.1, c1, rz_t_e c2]; exact P0.1
  · rw [f.2.2, rF]; exact qF
  · cases e : pj_all (rz_t (dc_m h0)) n with
    | inl y =>
      rw [e] at qJ rJ
      exact ⟨J0, okJ, cc qJ.1, rJ J0 R1 okJ.1 okJ.2.2.2.1, nn qJ.2⟩
    | inr K =>
      rw [e] at qJ rJ
      exact ⟨K, qJ.1, cc qJ.2.1, rJ, nn qJ.2.2⟩
theorem lx_tb {k : Nat} (h : sv_ty k = some 0) : cm_tb k := by
  have hl : k < 174 := (List.getElem?_eq_some_iff.mp h).1
  have key : ∀ k, k < 174 → sv_tys[k]? = some 0 → cm_tb k := by decide +kernel
  exact key k hl h
theorem px_runs {n v v' : Int} {m1 m2 : dc_M} (K : lx_K n (fun a b => D_164 a v b ∧ lx_CQ a b) m1) (h : D_262 m1 v' m2) (f : lx_DQ m1 m2) : v' = v ∧ lx_P m2 := by
  obtain ⟨h0, ok0, P0, e1, e2, hD, c⟩ := K
  refine ⟨?_, lx_quiet P0 c f⟩
  obtain ⟨t, z, J, okJ, cJ, rJ, nJ⟩ := P0.2.2.1
  obtain ⟨m3, e3, v4, m4, h4, ev, -⟩ := h
  rw [ev]
  exact pn_runs okJ nJ hD h4 (rJ.go (fun k i p1 p2 => by rw [e3, dc_up_k (by omega), c.1.1.2.1 k (lx_jr152 k p1 p2)]))
theorem px_wants {n x v v' : Int} {m1 m2 : dc_M} (K : lx_K n (fun a b => D_165 x a v b ∧ lx_CQ a b) m1) (h : D_264 x m1 v' m2) (f : lx_DQ m1 m2) : v' = v ∧ lx_P m2 := by
  obtain ⟨h0, ok0, P0, e1, e2, hD, c⟩ := K
  refine ⟨?_, lx_quiet P0 c f⟩
  obtain ⟨t, z, J, okJ, cJ, rJ, nJ⟩ := P0.2.2.1
  obtain ⟨m3, e3, v4, m4, h4, ev, -⟩ := h
  rw [ev]
  exact pn_wants okJ nJ hD h4 (rJ.go (fun k i p1 p2 => by rw [e3, dc_up_k (by omega), c.1.1.2.1 k (lx_jr152 k p1 p2)]))
theorem px_make {n x v v' : Int} {m1 m2 : dc_M} (K : lx_K n (fun a b => D_166 x a v b ∧ lx_CM a b) m1) (h : D_265 x m1 v' m2) (f : lx_DM m1 m2) : v' = v ∧ lx_P m2 := by
  obtain ⟨h0, ok0, P0, e1, e2, hD, c⟩ := K
  obtain ⟨t, z, J, okJ, cJ, rJ, nJ⟩ := P0.2.2.1
  have N := P0.2.2.2
  have two := N.1
  obtain ⟨q1, q2, q3, q4⟩ := pn_makeW okJ nJ (by rcases t with ⟨t, -⟩ | ⟨t, -⟩; exact Or.inl t; exact Or.inr t) (by rcases two with ⟨t, -⟩ | ⟨t, -⟩ <;> omega) cJ hD h (rJ.go (fun k i p1 p2 => by rw [c.1.2.1 k (lx_jr152 k p1 p2)]))
  obtain ⟨p1, p2, p3⟩ := lx_quiet1 P0 c f
  refine ⟨q1, p1, p2, p3, ?_⟩
  have s2 : ∀ (k : Nat) (i : Int), k < 114 → m2 k i = m1 k i := fun k i hk => q3 k i (by omega) (by omega) (by omega) (by omega)
  have b2 : ∀ (k : Nat) (i : Int), k ≠ 46 → k ≠ 53 → k ≠ 54 → ¬ (90 ≤ k ∧ k ≤ 95) → m1 k i = dc_m h0 k i := fun k i a1 a2 a3 a4 => q2 k i a1 a2 a3 (by rcases two with ⟨t, -⟩ | ⟨t, -⟩ <;> omega)
  have g8 : m2 0 8 = dc_m h0 0 8 := (s2 0 8 (by decide)).trans (b2 0 8 (by decide) (by decide) (by decide) (by decide))
  have g9 : m2 0 9 = dc_m h0 0 9 := (s2 0 9 (by decide)).trans (b2 0 9 (by decide) (by decide) (by decide) (by decide))
  refine N.mk2 (by unfold lx_twoB; rw [g8, g9]; exact two) ?_ (fun k hk => (s2 _ 2 (by omega)).trans (b2 _ 2 (by omega) (by omega) (by omega) (by omega))) ((s2 56 1 (by decide)).trans (b2 56 1 (by decide) (by decide) (by decide) (by decide))) (fun i hi => (q3 120 i (by decide) (by decide) (by omega) (by omega)).trans (b2 120 i (by decide) (by decide) (by decide) (by decide))) (fun i => (q3 122 i (by decide) (by decide) (by omega) (by omega)).trans (b2 122 i (by decide) (by decide) (by decide) (by decide)))
  rw [g8, s2 _ 2 (by rcases two with ⟨t, -⟩ | ⟨t, -⟩ <;> omega)]
  rcases q4 with ⟨W, w1, w2⟩ | ⟨w1, w2⟩
  · exact w1.1.trans w2.1.symm
  · rw [w1 _ 2 (Nat.le_refl _) (by omega), w2 120 0 (by decide) (by decide), b2 120 0 (by decide) (by decide) (by decide) (by decide)]
    exact N.2.1
theorem px_keep {n x v v' : Int} {m1 m2 : dc_M} (K : lx_K n (fun a b => D_176 x a v b ∧ lx_CM a b) m1) (h : D_272 x m1 v' m2) (f : lx_DM m1 m2) : v' = v ∧ lx_P m2 := by
  obtain ⟨h0, ok0, P0, e1, e2, hD, c⟩ := K
  obtain ⟨p1, p2, p3⟩ := lx_quiet1 P0 c f
  have N := P0.2.2.2
  obtain ⟨two, n2, n3, s, s1, s2, s3⟩ := N
  have Q := ck_keep hD two s1 s2
  have R := rk_keep h
  clear hD h
  rcases Q with ⟨ev, hx, y1, -, y2, y3⟩ | ⟨ev, hx, em⟩
  · rcases R with ⟨ev2, -, z1, -, z2, z3⟩ | ⟨-, hx2, -⟩
    · refine ⟨ev2.trans ev.symm, p1, p2, p3, ?_⟩
      have g : ∀ (k : Nat) (i : Int), k < 114 → m2 k i = m1 k i := fun k i hk => z3 k i (by omega) (by omega) (by omega) (by omega)
      have g8 : m2 0 8 = dc_m h0 0 8 := (g 0 8 (by decide)).trans (y3 0 8 (by omega) (by omega))
      have g9 : m2 0 9 = dc_m h0 0 9 := (g 0 9 (by decide)).trans (y3 0 9 (by omega) (by omega))
      have g0 : m1 120 0 = dc_m h0 120 0 := y3 120 0 (by omega) (by omega)
      obtain ⟨P1, P2, P3⟩ := lb_put s s1 x.toNat (by omega)
      refine ⟨by unfold lx_twoB; rw [g8, g9]; exact two, ?_, fun k hk => ?_, s ||| 2 ^ x.toNat, P2, (g 56 1 (by decide)).trans y2, fun k hk => ?_⟩
      · rw [g8, g _ 2 (by rcases two with ⟨t, -⟩ | ⟨t, -⟩ <;> omega), y3 _ 2 (by rcases two with ⟨t, -⟩ | ⟨t, -⟩ <;> omega) (by rcases two with ⟨t, -⟩ | ⟨t, -⟩ <;> omega), z3 120 0 (by omega) (by omega) (by omega) (by omega), g0]
        exact n2
      · by_cases e : k = x.toNat
        · subst e
          rw [g _ 2 (by omega), y1, show (2 : Int) + ((x.toNat : Nat) : Int) = 2 + x by omega, z1, g0]
          exact n2
        · rw [g _ 2 (by omega), y3 _ 2 (by omega) (by omega), z3 120 _ (by omega) (by omega) (by omega) (by omega), y3 120 _ (by omega) (by omega)]
          exact n3 k hk
      · rw [P3 k hk]
        by_cases e : k = x.toNat
        · subst e
          rw [if_pos rfl, show ((x.toNat : Nat) : Int) = x by omega]
          exact ⟨fun y => absurd y (by decide), fun y => absurd y z2⟩
        · rw [if_neg e, z3 122 _ (by omega) (by omega) (by omega) (by omega), y3 122 _ (by omega) (by omega)]
          exact s3 k hk
    · exact absurd hx hx2
  · rcases R with ⟨-, hx2, -⟩ | ⟨ev2, -, z3⟩
    · exact absurd hx2 hx
    · refine ⟨ev2.trans ev.symm, p1, p2, p3, P0.2.2.2.go (fun k i z => ?_)⟩
      unfold lx_nc at z
      rw [z3 k i (by omega), em]
theorem px_use {n x v v' : Int} {m1 m2 : dc_M} (K : lx_K n (fun a b => D_177 x a v b ∧ lx_CM a b) m1) (h : D_274 x m1 v' m2) (f : lx_DM m1 m2) : v' = v ∧ lx_P m2 := by
  obtain ⟨h0, ok0, P0, e1, e2, hD, c⟩ := K
  obtain ⟨p1, p2, p3⟩ := lx_quiet1 P0 c f
  have N := P0.2.2.2
  obtain ⟨two, n2, n3, s, s1, s2, s3⟩ := N
  have Q := ck_use hD two s1 s2
  have R := rk_use h
  clear hD h
  have hold : m1 122 x = dc_m h0 122 x → (0 ≤ x ∧ x < 8) → (lb_b s x.toNat ≠ 0 ↔ m1 122 x ≠ 0) := fun e hx => by
    have y := s3 x.toNat (by omega)
    rw [show ((x.toNat : Nat) : Int) = x by omega] at y
    rw [e]
    exact ⟨fun z w => z (y.mpr w), fun z w => z (y.mp w)⟩
  rcases Q with ⟨⟨hx, hb⟩, ev, y1, -, y3⟩ | ⟨hx, ev, em⟩
  · have e122 : ∀ i : Int, m1 122 i = dc_m h0 122 i := fun i => y3 122 i (by rcases two with ⟨t, -⟩ | ⟨t, -⟩ <;> omega)
    have e120 : ∀ i : Int, m1 120 i = dc_m h0 120 i := fun i => y3 120 i (by rcases two with ⟨t, -⟩ | ⟨t, -⟩ <;> omega)
    have n3x := n3 x.toNat (by omega)
    rw [show (2 : Int) + ((x.toNat : Nat) : Int) = 2 + x by omega] at n3x
    rcases R with ⟨-, ev2, z1, -, z3⟩ | ⟨hx2, -, -⟩
    · refine ⟨by rw [ev2, ev, e120]; exact n3x.symm, p1, p2, p3, ?_⟩
      have g : ∀ (k : Nat) (i : Int), k < 114 → m2 k i = m1 k i := fun k i hk => z3 k i (by omega) (by omega) (by omega)
      have b2 : ∀ (k : Nat) (i : Int), ¬ (90 ≤ k ∧ k ≤ 95) → m1 k i = dc_m h0 k i := fun k i a => y3 k i (by rcases two with ⟨t, -⟩ | ⟨t, -⟩ <;> omega)
      have g8 : m2 0 8 = dc_m h0 0 8 := (g 0 8 (by decide)).trans (b2 0 8 (by decide))
      have g9 : m2 0 9 = dc_m h0 0 9 := (g 0 9 (by decide)).trans (b2 0 9 (by decide))
      refine P0.2.2.2.mk2 (by unfold lx_twoB; rw [g8, g9]; exact two) ?_ (fun k hk => (g _ 2 (by omega)).trans (b2 _ 2 (by omega))) ((g 56 1 (by decide)).trans (b2 56 1 (by decide))) (fun i hi => (z3 120 i (by omega) (by omega) (by omega)).trans (e120 i)) (fun i => (z3 122 i (by omega) (by omega) (by omega)).trans (e122 i))
      rw [g8, g _ 2 (by rcases two with ⟨t, -⟩ | ⟨t, -⟩ <;> omega), y1, z1, e120]
      exact n3x
    · exact absurd ⟨hx, (hold (e122 x) hx).mp hb⟩ hx2
  · subst em
    rcases R with ⟨⟨hx2, hb2⟩, -⟩ | ⟨-, ev2, z3⟩
    · exact absurd ⟨hx2, (hold rfl hx2).mpr hb2⟩ hx
    · refine ⟨ev2.trans ev.symm, p1, p2, p3, P0.2.2.2.go (fun k i z => ?_)⟩
      unfold lx_nc at z
      exact z3 k i (by omega)
