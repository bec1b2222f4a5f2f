/-! THE REFERENCE'S CYCLE -/
/-- all that gives stands in the row -/
def r3_S (E : Int → Int → Prop) (g : Int → Int) (m : dc_M) : Prop := r2_S 126 E g m ∧ ∀ h, 0 ≤ h → h < 96 → m 124 h = g h
theorem r3_S.cg {E : Int → Int → Prop} {g : Int → Int} {m m2 : dc_M} (S : r3_S E g m) (hk : m2 126 = m 126) (e1 : m2 127 = m 127) (e2 : m2 128 = m 128) (e3 : ∀ h, 0 ≤ h → h < 96 → m2 124 h = m 124 h) : r3_S E g m2 := ⟨S.1.cg hk e1 e2 (fun h h0 h1 _ => e3 h h0 h1), fun h h0 h1 => (e3 h h0 h1).trans (S.2 h h0 h1)⟩
theorem r3_S.fr {E : Int → Int → Prop} {g : Int → Int} {m m2 : dc_M} (S : r3_S E g m) (f : ∀ (k : Nat) (i : Int), k = 124 ∨ k = 126 ∨ k = 127 ∨ k = 128 → m2 k i = m k i) : r3_S E g m2 := S.cg (funext fun i => f 126 i (by omega)) (funext fun i => f 127 i (by omega)) (funext fun i => f 128 i (by omega)) (fun h _ _ => f 124 h (by omega))
theorem r3_c1 {E : Int → Int → Prop} {g : Int → Int} {m : dc_M} (S : r2_S 126 E g m) {a b : Int} (a0 : 0 ≤ a) (ab : a < b) (b1 : b < 96) (ga : 0 ≤ g a) (gb : 0 ≤ g b) (q : mp_q E a b) : 1 < m 128 (m 126 a) := by
  obtain ⟨s1, s2, s3, s4⟩ := S
  obtain ⟨l0, l1⟩ := s1 a a0 (by omega)
  have eb : m 126 b = m 126 a := ((s2 a b a0 (by omega) (by omega) (by omega)).mpr q).symm
  rcases s3 (m 126 a) l0 l1 with ⟨-, i2⟩ | ⟨x, ⟨x0, x1⟩, x2, x3, x4, x5, -, x8⟩
  · exact absurd rfl (i2 a a0 (by omega) ga)
  · refine x8.mpr ?_
    by_cases z : x < a
    · exact ⟨a, z, by omega, ga, rfl⟩
    · by_cases y : x = a
      · exact ⟨b, by omega, b1, gb, eb⟩
      · exact absurd rfl (x5 a a0 (by omega) ga)
theorem r3_c2 {E : Int → Int → Prop} {g : Int → Int} {m : dc_M} (S : r2_S 126 E g m) {a : Int} (a0 : 0 ≤ a) (a1 : a < 96) (ga : 0 ≤ g a) (h : 1 < m 128 (m 126 a)) : (∃ b, a < b ∧ b < 96 ∧ 0 ≤ g b ∧ mp_q E a b) ∨ ∃ b, 0 ≤ b ∧ b < a ∧ 0 ≤ g b ∧ mp_q E b a := by
  obtain ⟨s1, s2, s3, s4⟩ := S
  obtain ⟨l0, l1⟩ := s1 a a0 (by omega)
  rcases s3 (m 126 a) l0 l1 with ⟨i1, -⟩ | ⟨x, ⟨x0, x1⟩, x2, x3, x4, x5, -, x8⟩
  · exfalso; omega
  · obtain ⟨b, b0, b1, b2, b3⟩ := x8.mp h
    by_cases z : x < a
    · exact Or.inr ⟨x, x0, z, x2, (s2 x a x0 (by omega) a0 (by omega)).mp x3⟩
    · by_cases y : x = a
      · exact Or.inl ⟨b, by omega, b1, b2, (s2 a b a0 (by omega) (by omega) (by omega)).mp b3.symm⟩
      · exact absurd rfl (x5 a a0 (by omega) ga)
/-- jam(h) -/
theorem r3_jl {E : Int → Int → Prop} {g : Int → Int} {a : Int} (a0 : 0 ≤ a) (a1 : a < 96) : ∀ (c : Nat) (l : Int) (m : dc_M) (v : Int) (m' : dc_M), LM_220 a c 11 l m v m' → r3_S E g m → a < l → (∀ b, a < b → b < l → 0 ≤ g b → ¬ mp_q E a b) → v = 2 ∧ ∃ o, m' = dc_up m 140 0 o ∧ mp_f (fun b => a < b ∧ 0 ≤ g b ∧ mp_q E a b) 96 o := by
  intro c
  induction c with
  | zero => intro l m v m' h; exact h.elim
  | succ c ih =>
    intro l m v m' h S al hn
    obtain ⟨⟨s1, s2, s3, s4⟩, s5⟩ := S
    replace h := lm_220_11.mp h
    obtain ⟨⟨b0, b1⟩, h⟩ := h
    have w1 : dc_w (l + 1) = l + 1 := dw (by clear h; omega) (by clear h; omega)
    rw [w1, s5 l b0 b1] at h
    rcases h with ⟨c1, h⟩ | ⟨c1, -, -, h⟩
    · refine ih (l + 1) m v m' h ⟨⟨s1, s2, s3, s4⟩, s5⟩ (by clear h; omega) (fun b q1 q2 q3 => ?_)
      by_cases z : b = l
      · rw [z] at q3; exfalso; clear h; omega
      · exact hn b q1 (by clear h; omega) q3
    · rcases h with ⟨c2, -, m1, e1, ev, em⟩ | ⟨c2, h⟩
      · refine ⟨ev, l, by rw [em, e1], b0, b1, ⟨al, by omega, (s2 a l a0 (by omega) b0 (by omega)).mp c2.symm⟩, fun b q1 q2 q3 => hn b q3.1 q2 q3.2.1 q3.2.2⟩
      · refine ih (l + 1) m v m' h ⟨⟨s1, s2, s3, s4⟩, s5⟩ (by clear h; omega) (fun b q1 q2 q3 q4 => ?_)
        by_cases z : b = l
        · rw [z] at q4; exact c2 ((s2 a l a0 (by clear h; omega) b0 (by clear h; omega)).mpr q4).symm
        · exact hn b q1 (by clear h; omega) q3 q4
/-- prints() -/
theorem r3_prl {E : Int → Int → Prop} {g : Int → Int} {m : dc_M} (S : r3_S E g m) : ∀ (c : Nat) (l v : Int) (m' : dc_M), LM_221 c 2 l m v m' → 0 ≤ l → l ≤ 12 → (∀ b, 0 ≤ b → b < l → ¬ 0 ≤ mp_tk E g (132 + b)) → m' = m ∧ ((v = 1 ∧ mp_pr (mp_tk E g)) ∨ (v = 0 ∧ ¬ mp_pr (mp_tk E g))) := by
  intro c
  induction c with
  | zero => intro l v m' h; exact h.elim
  | succ c ih =>
    intro l v m' h l0 l1 hn
    have w1 : dc_w (l + 1) = l + 1 := dw (by omega) (by omega)
    have w2 : dc_w (132 + l) = 132 + l := dw (by omega) (by omega)
    replace h := lm_221_2.mp h
    rw [w1, w2] at h
    rcases h with ⟨c1, ev, em⟩ | ⟨c1, v2, m2, hd, h⟩
    · exact ⟨em, Or.inr ⟨ev, fun ⟨b, b0, b1, b2⟩ => hn b b0 (by omega) b2⟩⟩
    · obtain ⟨e2, q⟩ := r2_have S.1 hd
      clear hd
      rw [e2, q] at h
      rcases h with ⟨c2, h⟩ | ⟨c2, ev, em⟩
      · refine ih (l + 1) v m' h (by clear h; omega) (by clear h; omega) (fun b b0 b1 => ?_)
        by_cases z : b = l
        · rw [z]; clear h; omega
        · exact hn b b0 (by clear h; omega)
      · exact ⟨em, Or.inl ⟨ev, l, l0, by omega, by omega⟩⟩
theorem r3_prints {E : Int → Int → Prop} {g : Int → Int} {m : dc_M} (S : r3_S E g m) {v : Int} {m' : dc_M} (h : D_221 m v m') : m' = m ∧ ((v = 1 ∧ mp_pr (mp_tk E g)) ∨ (v = 0 ∧ ¬ mp_pr (mp_tk E g))) := by
  obtain ⟨c, h⟩ := h
  exact r3_prl S c 0 v m' h (by decide) (by decide) (fun b b0 b1 => by exfalso; omega)
/-- a digit of what an i takes -/
def mp_dd (T : Int → Int) (t : Int) : Int := if T t < 0 then 0 else T t
theorem mp_nm6 (T : Int → Int) (w : Int) : mp_nmf T w 6 0 = 10 * (10 * (10 * (10 * (10 * (10 * 0 + mp_dd T (96 + 6 * w + 5)) + mp_dd T (96 + 6 * w + 4)) + mp_dd T (96 + 6 * w + 3)) + mp_dd T (96 + 6 * w + 2)) + mp_dd T (96 + 6 * w + 1)) + mp_dd T (96 + 6 * w + 0) := rfl
theorem mp_dd_r {T : Int → Int} (h : ∀ t, -1 ≤ T t ∧ T t ≤ 15) (t : Int) : 0 ≤ mp_dd T t ∧ mp_dd T t ≤ 15 := by
  have := h t
  unfold mp_dd
  split <;> omega
theorem mp_nm_r {T : Int → Int} (h : ∀ t, -1 ≤ T t ∧ T t ≤ 15) (w : Int) : 0 ≤ mp_nmf T w 6 0 ∧ mp_nmf T w 6 0 ≤ 1666665 := by
  rw [mp_nm6]
  have a := mp_dd_r h (96 + 6 * w + 5)
  have b := mp_dd_r h (96 + 6 * w + 4)
  have c := mp_dd_r h (96 + 6 * w + 3)
  have d := mp_dd_r h (96 + 6 * w + 2)
  have e := mp_dd_r h (96 + 6 * w + 1)
  have f := mp_dd_r h (96 + 6 * w + 0)
  generalize mp_dd T (96 + 6 * w + 5) = a0 at *
  generalize mp_dd T (96 + 6 * w + 4) = b0 at *
  generalize mp_dd T (96 + 6 * w + 3) = c0 at *
  generalize mp_dd T (96 + 6 * w + 2) = d0 at *
  generalize mp_dd T (96 + 6 * w + 1) = e0 at *
  generalize mp_dd T (96 + 6 * w + 0) = f0 at *
  omega
theorem r3_ts {E : Int → Int → Prop} {g : Int → Int} (hT : ∀ t, -1 ≤ mp_tk E g t ∧ mp_tk E g t ≤ 15) {m : dc_M} (S : r3_S E g m) {x : Int} (x0 : 0 ≤ x) (x1 : x < 4) {c : Nat} {l2 l3 l4 v : Int} {m' : dc_M} (h : LM_222 x c 43 l2 l3 l4 m v m') (a0 : 0 ≤ l4) (a1 : l4 ≤ 5) (b0 : 0 ≤ l3) (b1 : l3 ≤ 100000000) : ∃ c, LM_222 x c 43 l2 (10 * l3 + mp_dd (mp_tk E g) (96 + 6 * x + l4)) (l4 - 1) m v m' := by
  cases c with
  | zero => exact h.elim
  | succ c =>
    have w1 : dc_w (6 * x) = 6 * x := dw (by omega) (by omega)
    have w2 : dc_w (96 + 6 * x) = 96 + 6 * x := dw (by omega) (by omega)
    have w3 : dc_w (96 + 6 * x + l4) = 96 + 6 * x + l4 := dw (by omega) (by omega)
    have w4 : dc_w (10 * l3) = 10 * l3 := dw (by omega) (by omega)
    have w5 : dc_w (l4 + (-1)) = l4 - 1 := dw (by omega) (by omega)
    have w6 : dc_w (10 * l3 + 0) = 10 * l3 + 0 := dw (by omega) (by omega)
    have hT2 := hT (96 + 6 * x + l4)
    replace h := lm_222_43.mp h
    rw [w1, w2, w3, w4, w5, w6] at h
    rcases h with ⟨c1, -⟩ | ⟨c1, v2, m2, hd, h⟩
    · exfalso; omega
    · obtain ⟨e2, q⟩ := r2_have S.1 hd
      clear hd
      rw [e2, q] at h
      rcases h with ⟨c2, v3, m3, hd, h⟩ | ⟨c2, h⟩
      · obtain ⟨e3, q3⟩ := r2_have S.1 hd
        clear hd
        rw [e3, q3, dw (by clear h; omega) (by clear h; omega)] at h
        have e : mp_dd (mp_tk E g) (96 + 6 * x + l4) = mp_tk E g (96 + 6 * x + l4) := if_neg (by clear h; omega)
        rw [e]
        exact ⟨c, h⟩
      · have e : mp_dd (mp_tk E g) (96 + 6 * x + l4) = 0 := if_pos (by clear h; omega)
        rw [e]
        exact ⟨c, h⟩
theorem r3_tw {E : Int → Int → Prop} {g : Int → Int} (hT : ∀ t, -1 ≤ mp_tk E g t ∧ mp_tk E g t ≤ 15) {m : dc_M} (S : r3_S E g m) {x : Int} (x0 : 0 ≤ x) (x1 : x < 4) {c : Nat} {l2 v : Int} {m' : dc_M} (h : LM_222 x c 43 l2 0 5 m v m') : ∃ c, LM_222 x (c + 1) 43 l2 (mp_nmf (mp_tk E g) x 6 0) (-1) m v m' := by
  have hd := mp_dd_r hT
  obtain ⟨c1, h⟩ := r3_ts hT S x0 x1 h (by decide) (by decide) (by decide) (by decide)
  have d1 := hd (96 + 6 * x + 5)
  obtain ⟨c1, h⟩ := r3_ts hT S x0 x1 h (by decide) (by decide) (by omega) (by omega)
  have d2 := hd (96 + 6 * x + (5 - 1))
  obtain ⟨c1, h⟩ := r3_ts hT S x0 x1 h (by decide) (by decide) (by omega) (by omega)
  have d3 := hd (96 + 6 * x + (5 - 1 - 1))
  obtain ⟨c1, h⟩ := r3_ts hT S x0 x1 h (by decide) (by decide) (by omega) (by omega)
  have d4 := hd (96 + 6 * x + (5 - 1 - 1 - 1))
  obtain ⟨c1, h⟩ := r3_ts hT S x0 x1 h (by decide) (by decide) (by omega) (by omega)
  have d5 := hd (96 + 6 * x + (5 - 1 - 1 - 1 - 1))
  obtain ⟨c1, h⟩ := r3_ts hT S x0 x1 h (by decide) (by decide) (by omega) (by omega)
  rw [mp_nm6]
  cases c1 with
  | zero => exact h.elim
  | succ c1 => exact ⟨c1, h⟩
/-- turn(w) -/
theorem r3_turn {E : Int → Int → Prop} {g : Int → Int} (hT : ∀ t, -1 ≤ mp_tk E g t ∧ mp_tk E g t ≤ 15) {m : dc_M} (S : r3_S E g m) {x : Int} (x0 : 0 ≤ x) (x1 : x < 4) (hw : -999999 ≤ m 134 x ∧ m 134 x ≤ 999999) (ho : 0 ≤ m 138 0 ∧ m 138 0 ≤ 1000000) {v : Int} {m' : dc_M} (h : D_222 x m v m') : m' 134 x = dc_rem (mp_tn (mp_tk E g) x (m 134 x)) 1000000 ∧ m' 138 0 = m 138 0 + mp_ov (mp_tk E g) x (m 134 x) ∧ ∀ (k : Nat) (i : Int), ¬ (k = 134 ∧ i = x) → ¬ (k = 138 ∧ i = 0) → m' k i = m k i := by
  have w1 : dc_w (120 + x) = 120 + x := dw (by omega) (by omega)
  have w2 : dc_w (124 + x) = 124 + x := dw (by omega) (by omega)
  have wo : dc_w (m 138 0 + 1) = m 138 0 + 1 := dw (by omega) (by omega)
  have hn := mp_nm_r hT x
  unfold D_222 at h
  rw [w1, w2] at h
  -- not turned
  have A : (0 ≤ mp_tk E g (120 + x) ↔ 0 ≤ mp_tk E g (124 + x)) → m' = m → m' 134 x = dc_rem (mp_tn (mp_tk E g) x (m 134 x)) 1000000 ∧ m' 138 0 = m 138 0 + mp_ov (mp_tk E g) x (m 134 x) ∧ ∀ (k : Nat) (i : Int), ¬ (k = 134 ∧ i = x) → ¬ (k = 138 ∧ i = 0) → m' k i = m k i := by
    intro e em
    have t : mp_tn (mp_tk E g) x (m 134 x) = m 134 x := if_pos e
    have o : mp_ov (mp_tk E g) x (m 134 x) = 0 := by unfold mp_ov; rw [t, if_pos hw]
    rw [em, t, o]
    refine ⟨?_, by omega, fun _ _ _ _ => rfl⟩
    unfold dc_rem
    split <;> omega
  -- turned to y
  have B : ∀ (y : Int) (n1 : dc_M), mp_tn (mp_tk E g) x (m 134 x) = y → n1 = dc_up m 134 x y → -3000000 ≤ y → y ≤ 3000000 → (∃ v2 m2, D_188 (n1 134 x) (-999999) 999999 n1 v2 m2 ∧ ((((v2 : Int) = 0 ∧ ((0 ≤ (0 : Int) ∧ (0 : Int) < 3) ∧ ((0 ≤ (0 : Int) ∧ (0 : Int) < 3) ∧ ∃ m3, m3 = dc_up m2 138 0 (dc_w ((m2 138 0) + 1)) ∧ ((0 ≤ (x : Int) ∧ (x : Int) < 12) ∧ ((0 ≤ (x : Int) ∧ (x : Int) < 12) ∧ ∃ m4, m4 = dc_up m3 134 x (dc_rem (m3 134 x) 1000000) ∧ (v = 0 ∧ m' = m4)))))) ∨ (¬ ((v2 : Int) = 0) ∧ (v = 0 ∧ m' = m2))))) → m' 134 x = dc_rem (mp_tn (mp_tk E g) x (m 134 x)) 1000000 ∧ m' 138 0 = m 138 0 + mp_ov (mp_tk E g) x (m 134 x) ∧ ∀ (k : Nat) (i : Int), ¬ (k = 134 ∧ i = x) → ¬ (k = 138 ∧ i = 0) → m' k i = m k i := by
    intro y n1 t e1 y0 y1 ⟨v2, m2, hd, h⟩
    obtain ⟨e2, q⟩ := rz_in hd
    clear hd
    have g1 : n1 134 x = y := by rw [e1, dc_up_s]
    have g2 : n1 138 0 = m 138 0 := by rw [e1, dc_up_k (by decide)]
    rw [e2, g2, wo] at h
    rw [g1] at q
    rw [t]
    rcases h with ⟨c1, -, -, m3, e3, -, -, m4, e4, ev, em⟩ | ⟨c1, ev, em⟩
    · have o : mp_ov (mp_tk E g) x (m 134 x) = 1 := by
        unfold mp_ov; rw [t]
        rcases q with ⟨-, q⟩ | ⟨q, -⟩
        · exact if_neg q
        · exfalso; omega
      have g3 : m3 134 x = y := by rw [e3, dc_up_k (by decide)]; exact g1
      rw [g3] at e4
      rw [em, o]
      refine ⟨by rw [e4, dc_up_s], by rw [e4, dc_up_k (by decide), e3, dc_up_s], fun k i z1 z2 => ?_⟩
      rw [e4]
      refine (if_neg z1).trans ?_
      rw [e3]
      refine (if_neg z2).trans ?_
      rw [e1]
      exact if_neg z1
    · rcases q with ⟨q, -⟩ | ⟨-, q⟩
      · exact absurd q c1
      · have o : mp_ov (mp_tk E g) x (m 134 x) = 0 := by unfold mp_ov; rw [t, if_pos q]
        rw [em, o, g1, g2]
        refine ⟨?_, by omega, fun k i z1 z2 => ?_⟩
        · unfold dc_rem
          split <;> omega
        · rw [e1]
          exact if_neg z1
  obtain ⟨v1, m1, hd, h⟩ := h
  obtain ⟨e1, q1⟩ := r2_have S.1 hd
  clear hd
  rw [e1, q1] at h
  rcases h with ⟨c1, v2, m2, hd, h⟩ | ⟨c1, v2, m2, hd, h⟩
  · obtain ⟨e2, q2⟩ := r2_have S.1 hd
    clear hd
    rw [e2, q2] at h
    rcases h with ⟨c2, ev, em⟩ | ⟨c2, c, h⟩
    · exact A ⟨fun z => by omega, fun z => by omega⟩ em
    · obtain ⟨c, h⟩ := r3_tw hT S x0 x1 h
      replace h := lm_222_43.mp h
      rw [dw (z := -mp_nmf (mp_tk E g) x 6 0) (by clear h; omega) (by clear h; omega)] at h
      rw [dw (z := m 134 x + -mp_nmf (mp_tk E g) x 6 0) (by clear h; omega) (by clear h; omega)] at h
      rcases h with ⟨-, -, h⟩ | ⟨d, -⟩
      · rcases h with ⟨-, -, m3, e3, -, h⟩ | ⟨d, -⟩
        · refine B _ m3 ?_ e3 (by clear h; omega) (by clear h; omega) h
          have n1 : ¬ (0 ≤ mp_tk E g (120 + x) ↔ 0 ≤ mp_tk E g (124 + x)) := fun z => by have := z.mpr (by clear h; omega); clear h; omega
          have n2 : ¬ 0 ≤ mp_tk E g (120 + x) := by clear h; omega
          unfold mp_tn
          rw [if_neg n1, if_neg n2]
          rfl
        · exact absurd rfl d
      · exact absurd (by decide) d
  · obtain ⟨e2, q2⟩ := r2_have S.1 hd
    clear hd
    rw [e2, q2] at h
    rcases h with ⟨c2, c, h⟩ | ⟨c2, ev, em⟩
    · obtain ⟨c, h⟩ := r3_tw hT S x0 x1 h
      replace h := lm_222_43.mp h
      rw [dw (z := m 134 x + mp_nmf (mp_tk E g) x 6 0) (by clear h; omega) (by clear h; omega)] at h
      rcases h with ⟨-, -, h⟩ | ⟨d, -⟩
      · rcases h with ⟨d, -⟩ | ⟨-, -, m3, e3, -, h⟩
        · exact absurd d (by decide)
        · refine B _ m3 ?_ e3 (by clear h; omega) (by clear h; omega) h
          have n1 : ¬ (0 ≤ mp_tk E g (120 + x) ↔ 0 ≤ mp_tk E g (124 + x)) := fun z => by have := z.mp (by clear h; omega); clear h; omega
          have n2 : 0 ≤ mp_tk E g (120 + x) := by clear h; omega
          unfold mp_tn
          rw [if_neg n1, if_pos n2]
      · exact absurd (by decide) d
    · exact A ⟨fun z => by omega, fun z => by omega⟩ em
/-! the CYCLE's end: from the punch back to its begin -/
def r3_B (T : Int → Int) (t : Int) : Int := if T t < 0 then 15 else T t
theorem r3_395 {E : Int → Int → Prop} {g : Int → Int} {x0 l2 n : Int} (n0 : 0 ≤ n) (n1 : n < 40) : ∀ (c : Nat) (l : Int) (m : dc_M) (v : Int) (m' : dc_M), LM_219 x0 c 395 l2 l m v m' → r3_S E g m → m 132 0 = n → 0 ≤ l → l ≤ 20 → v = 0 ∧ m' 132 0 = n + 1 ∧ (∀ i : Int, l ≤ i → i < 20 → m' 135 (20 * n + i) = r3_B (mp_tk E g) (159 + i)) ∧ ∀ (k : Nat) (i : Int), ¬ (k = 132 ∧ i = 0) → ¬ (k = 135 ∧ 20 * n + l ≤ i ∧ i < 20 * n + 20) → m' k i = m k i := by
  intro c
  induction c with
  | zero => intro l m v m' h; exact h.elim
  | succ c ih =>
    intro l m v m' h S hn l0 l1
    have w1 : dc_w (l + 1) = l + 1 := dw (by omega) (by omega)
    have w2 : dc_w (159 + l) = 159 + l := dw (by omega) (by omega)
    have w3 : dc_w (20 * n) = 20 * n := dw (by omega) (by omega)
    have w4 : dc_w (20 * n + l) = 20 * n + l := dw (by omega) (by omega)
    have w5 : dc_w (n + 1) = n + 1 := dw (by omega) (by omega)
    replace h := lm_219_395.mp h
    rw [w1, w2, hn, w3, w4, w5] at h
    rcases h with ⟨c1, -, -, m1, e1, ev, em⟩ | ⟨c1, -, v2, m2, hd, h⟩
    · rw [em, e1]
      exact ⟨ev, by rw [dc_up_s], fun i i0 i1 => by exfalso; omega, fun k i z _ => if_neg z⟩
    · obtain ⟨e2, q2⟩ := r2_have S.1 hd
      clear hd
      rw [e2, q2] at h
      have step : ∀ m3, m3 = dc_up m 135 (20 * n + l) (r3_B (mp_tk E g) (159 + l)) → LM_219 x0 c 395 l2 (l + 1) m3 v m' → v = 0 ∧ m' 132 0 = n + 1 ∧ (∀ i : Int, l ≤ i → i < 20 → m' 135 (20 * n + i) = r3_B (mp_tk E g) (159 + i)) ∧ ∀ (k : Nat) (i : Int), ¬ (k = 132 ∧ i = 0) → ¬ (k = 135 ∧ 20 * n + l ≤ i ∧ i < 20 * n + 20) → m' k i = m k i := by
        intro m3 e3 h
        obtain ⟨i1, i2, i3, i4⟩ := ih (l + 1) m3 v m' h (S.fr (fun k i hk => by rw [e3, dc_up_k (by omega)])) (by rw [e3, dc_up_k (by decide)]; exact hn) (by clear h; omega) (by clear h; omega)
        clear h
        refine ⟨i1, i2, fun i j0 j1 => ?_, fun k i z1 z2 => ?_⟩
        · by_cases z : i = l
          · rw [z, i4 135 _ (by omega) (by omega), e3, dc_up_s]
          · exact i3 i (by omega) j1
        · rw [i4 k i z1 (fun y => z2 ⟨y.1, by omega, y.2.2⟩), e3]
          exact if_neg (fun y => z2 ⟨y.1, by omega, by omega⟩)
      rcases h with ⟨c2, v3, m3, hd, -, m4, e4, h⟩ | ⟨c2, -, m4, e4, h⟩
      · obtain ⟨e3, q3⟩ := r2_have S.1 hd
        clear hd
        rw [e3, q3] at e4
        refine step m4 ?_ h
        rw [e4, show r3_B (mp_tk E g) (159 + l) = mp_tk E g (159 + l) from if_neg (by clear h; omega)]
      · refine step m4 ?_ h
        rw [e4, show r3_B (mp_tk E g) (159 + l) = 15 from if_pos (by clear h; omega)]
/-- the punch -/
def r3_P (T : Int → Int) (m : dc_M) (v : Int) (m' : dc_M) : Prop := (T 179 < 0 ∧ v = 0 ∧ m' = m) ∨ (0 ≤ T 179 ∧ m 132 0 = m 114 43 ∧ v = 3 ∧ m' = m) ∨ (0 ≤ T 179 ∧ m 132 0 ≠ m 114 43 ∧ v = 0 ∧ m' 132 0 = m 132 0 + 1 ∧ (∀ i : Int, 0 ≤ i → i < 20 → m' 135 (20 * m 132 0 + i) = r3_B T (159 + i)) ∧ ∀ (k : Nat) (i : Int), ¬ (k = 132 ∧ i = 0) → ¬ (k = 135 ∧ 20 * m 132 0 ≤ i ∧ i < 20 * m 132 0 + 20) → m' k i = m k i)
theorem r3_336 {E : Int → Int → Prop} {g : Int → Int} {x0 l2 : Int} : ∀ (c : Nat) (l : Int) (m : dc_M) (v : Int) (m' : dc_M), LM_219 x0 c 336 l2 l m v m' → r3_S E g m → 0 ≤ m 132 0 → (m 132 0 ≠ m 114 43 → m 132 0 < 40) → 0 ≤ l → l ≤ 4 → ∃ m1, (∀ w : Int, l ≤ w → w < 4 → m1 134 w = if 0 ≤ mp_tk E g (128 + w) then 0 else m 134 w) ∧ (∀ (k : Nat) (i : Int), ¬ (k = 134 ∧ l ≤ i ∧ i < 4) → m1 k i = m k i) ∧ r3_P (mp_tk E g) m1 v m' := by
  intro c
  induction c with
  | zero => intro l m v m' h; exact h.elim
  | succ c ih =>
    intro l m v m' h S hn hr l0 l1
    have w1 : dc_w (l + 1) = l + 1 := dw (by omega) (by omega)
    have w2 : dc_w (128 + l) = 128 + l := dw (by omega) (by omega)
    replace h := lm_219_336.mp h
    rw [w1, w2] at h
    rcases h with ⟨c1, v2, m2, hd, h⟩ | ⟨c1, v2, m2, hd, h⟩
    · obtain ⟨e2, q2⟩ := r2_have S.1 hd
      clear hd
      rw [e2, q2] at h
      refine ⟨m, fun w h0 h1 => by exfalso; clear h; omega, fun _ _ _ => rfl, ?_⟩
      rcases h with ⟨c2, -, h⟩ | ⟨c2, ev, em⟩
      · rcases h with ⟨c3, h⟩ | ⟨c3, ev, em⟩
        · obtain ⟨i1, i2, i3, i4⟩ := r3_395 hn (hr c3) c 0 m v m' h S rfl (by decide) (by decide)
          exact Or.inr (Or.inr ⟨by clear h; omega, c3, i1, i2, i3, fun k i z1 z2 => i4 k i z1 (fun y => z2 ⟨y.1, by omega, y.2.2⟩)⟩)
        · exact Or.inr (Or.inl ⟨by omega, Classical.not_not.mp c3, ev, em⟩)
      · exact Or.inl ⟨by omega, ev, em⟩
    · obtain ⟨e2, q2⟩ := r2_have S.1 hd
      clear hd
      rw [e2, q2] at h
      rcases h with ⟨c2, h⟩ | ⟨c2, -, m3, e3, h⟩
      · obtain ⟨m1, i1, i2, i3⟩ := ih (l + 1) m v m' h S hn hr (by clear h; omega) (by clear h; omega)
        clear h
        refine ⟨m1, fun w h0 h1 => ?_, fun k i z => i2 k i (fun y => z ⟨y.1, by omega, y.2.2⟩), i3⟩
        by_cases z : w = l
        · rw [z, if_neg (by omega), i2 134 l (by omega)]
        · exact i1 w (by omega) h1
      · have S3 : r3_S E g m3 := S.fr (fun k i hk => by rw [e3, dc_up_k (by omega)])
        have a1 : m3 132 0 = m 132 0 := by rw [e3, dc_up_k (by decide)]
        have a2 : m3 114 43 = m 114 43 := by rw [e3, dc_up_k (by decide)]
        obtain ⟨m1, i1, i2, i3⟩ := ih (l + 1) m3 v m' h S3 (by rw [a1]; exact hn) (by rw [a1, a2]; exact hr) (by clear h; omega) (by clear h; omega)
        clear h
        refine ⟨m1, fun w h0 h1 => ?_, fun k i z => ?_, i3⟩
        · by_cases z : w = l
          · rw [z, if_pos (by omega), i2 134 l (by omega), e3, dc_up_s]
          · rw [i1 w (by omega) h1, e3, dc_up_i z]
        · rw [i2 k i (fun y => z ⟨y.1, by omega, y.2.2⟩), e3]
          exact if_neg (fun y => z ⟨y.1, by omega, by omega⟩)
/-- WHEELS and punch -/
def r3_W (T : Int → Int) (m : dc_M) (v : Int) (m' : dc_M) : Prop := ∃ (m1 m2 : dc_M), (∀ w : Int, 0 ≤ w → w < 4 → m1 134 w = dc_rem (mp_tn T w (m 134 w)) 1000000) ∧ m1 138 0 = m 138 0 + mp_ov T 0 (m 134 0) + mp_ov T 1 (m 134 1) + mp_ov T 2 (m 134 2) + mp_ov T 3 (m 134 3) ∧ (∀ (k : Nat) (i : Int), ¬ (k = 134 ∧ 0 ≤ i ∧ i < 4) → ¬ (k = 138 ∧ i = 0) → m1 k i = m k i) ∧ (∀ w : Int, 0 ≤ w → w < 4 → m2 134 w = if 0 ≤ T (128 + w) then 0 else m1 134 w) ∧ (∀ (k : Nat) (i : Int), ¬ (k = 134 ∧ 0 ≤ i ∧ i < 4) → m2 k i = m1 k i) ∧ r3_P T m2 v m'
theorem mp_ov_r (T : Int → Int) (w x : Int) : 0 ≤ mp_ov T w x ∧ mp_ov T w x ≤ 1 := by
  unfold mp_ov
  split <;> omega
theorem r3_318s {E : Int → Int → Prop} {g : Int → Int} (hT : ∀ t, -1 ≤ mp_tk E g t ∧ mp_tk E g t ≤ 15) {x0 l2 : Int} {c : Nat} {l : Int} {m : dc_M} {v : Int} {m' : dc_M} (h : LM_219 x0 c 318 l2 l m v m') (S : r3_S E g m) (l0 : 0 ≤ l) (l1 : l < 4) (hw : -999999 ≤ m 134 l ∧ m 134 l ≤ 999999) (ho : 0 ≤ m 138 0 ∧ m 138 0 ≤ 1000000) : ∃ c m2, LM_219 x0 c 318 l2 (l + 1) m2 v m' ∧ m2 134 l = dc_rem (mp_tn (mp_tk E g) l (m 134 l)) 1000000 ∧ m2 138 0 = m 138 0 + mp_ov (mp_tk E g) l (m 134 l) ∧ (∀ (k : Nat) (i : Int), ¬ (k = 134 ∧ i = l) → ¬ (k = 138 ∧ i = 0) → m2 k i = m k i) ∧ r3_S E g m2 := by
  cases c with
  | zero => exact h.elim
  | succ c =>
    have w1 : dc_w (l + 1) = l + 1 := dw (by omega) (by omega)
    replace h := lm_219_318.mp h
    rw [w1] at h
    rcases h with ⟨c1, -⟩ | ⟨c1, v2, m2, hd, h⟩
    · exfalso; omega
    · obtain ⟨a1, a2, a3⟩ := r3_turn hT S l0 l1 hw ho hd
      clear hd
      exact ⟨c, m2, h, a1, a2, a3, S.fr (fun k i hk => a3 k i (by clear h; omega) (by clear h; omega))⟩
theorem r3_318 {E : Int → Int → Prop} {g : Int → Int} (hT : ∀ t, -1 ≤ mp_tk E g t ∧ mp_tk E g t ≤ 15) {x0 l2 : Int} {c : Nat} {m : dc_M} {v : Int} {m' : dc_M} (h : LM_219 x0 c 318 l2 0 m v m') (S : r3_S E g m) (hw : ∀ w : Int, 0 ≤ w → w < 4 → -999999 ≤ m 134 w ∧ m 134 w ≤ 999999) (ho : 0 ≤ m 138 0 ∧ m 138 0 ≤ 900000) (hn : 0 ≤ m 132 0) (hr : m 132 0 ≠ m 114 43 → m 132 0 < 40) : r3_W (mp_tk E g) m v m' := by
  obtain ⟨c, m1, h, a1, a2, a3, S1⟩ := r3_318s hT h S (by decide) (by decide) (hw 0 (by decide) (by decide)) (by omega)
  have v0 := mp_ov_r (mp_tk E g) 0 (m 134 0)
  have e11 : m1 134 1 = m 134 1 := a3 134 1 (by decide) (by decide)
  have e12 : m1 134 2 = m 134 2 := a3 134 2 (by decide) (by decide)
  have e13 : m1 134 3 = m 134 3 := a3 134 3 (by decide) (by decide)
  obtain ⟨c, m2, h, b1, b2, b3, S2⟩ := r3_318s hT h S1 (by decide) (by decide) (by rw [show (0 : Int) + 1 = 1 from rfl, e11]; exact hw 1 (by decide) (by decide)) (by rw [a2]; omega)
  rw [show (0 : Int) + 1 = 1 from rfl] at b1 b2 b3 h
  have v1 := mp_ov_r (mp_tk E g) 1 (m1 134 1)
  have e22 : m2 134 2 = m 134 2 := (b3 134 2 (by decide) (by decide)).trans e12
  have e23 : m2 134 3 = m 134 3 := (b3 134 3 (by decide) (by decide)).trans e13
  obtain ⟨c, m3, h, c1, c2, c3, S3⟩ := r3_318s hT h S2 (by decide) (by decide) (by rw [show (1 : Int) + 1 = 2 from rfl, e22]; exact hw 2 (by decide) (by decide)) (by rw [b2, a2]; omega)
  rw [show (1 : Int) + 1 = 2 from rfl] at c1 c2 c3 h
  have v2 := mp_ov_r (mp_tk E g) 2 (m2 134 2)
  have e33 : m3 134 3 = m 134 3 := (c3 134 3 (by decide) (by decide)).trans e23
  obtain ⟨c, m4, h, d1, d2, d3, S4⟩ := r3_318s hT h S3 (by decide) (by decide) (by rw [show (2 : Int) + 1 = 3 from rfl, e33]; exact hw 3 (by decide) (by decide)) (by rw [c2, b2, a2]; omega)
  rw [show (2 : Int) + 1 = 3 from rfl] at d1 d2 d3 h
  have F : ∀ (k : Nat) (i : Int), ¬ (k = 134 ∧ 0 ≤ i ∧ i < 4) → ¬ (k = 138 ∧ i = 0) → m4 k i = m k i := fun k i z1 z2 => by
    rw [d3 k i (by clear h; omega) z2, c3 k i (by clear h; omega) z2, b3 k i (by clear h; omega) z2, a3 k i (by clear h; omega) z2]
  have W0 : m4 134 0 = dc_rem (mp_tn (mp_tk E g) 0 (m 134 0)) 1000000 := by
    rw [d3 134 0 (by decide) (by decide), c3 134 0 (by decide) (by decide), b3 134 0 (by decide) (by decide)]; exact a1
  have W1 : m4 134 1 = dc_rem (mp_tn (mp_tk E g) 1 (m 134 1)) 1000000 := by
    rw [d3 134 1 (by decide) (by decide), c3 134 1 (by decide) (by decide), b1, e11]
  have W2 : m4 134 2 = dc_rem (mp_tn (mp_tk E g) 2 (m 134 2)) 1000000 := by
    rw [d3 134 2 (by decide) (by decide), c1, e22]
  have W3 : m4 134 3 = dc_rem (mp_tn (mp_tk E g) 3 (m 134 3)) 1000000 := by
    rw [d1, e33]
  have W5 : m4 138 0 = m 138 0 + mp_ov (mp_tk E g) 0 (m 134 0) + mp_ov (mp_tk E g) 1 (m 134 1) + mp_ov (mp_tk E g) 2 (m 134 2) + mp_ov (mp_tk E g) 3 (m 134 3) := by
    rw [d2, c2, b2, a2, e11, e22, e33]
  cases c with
  | zero => exact h.elim
  | succ c =>
    replace h := lm_219_318.mp h
    rcases h with ⟨-, h⟩ | ⟨d, -⟩
    · obtain ⟨m5, i1, i2, i3⟩ := r3_336 c 0 m4 v m' h S4 (by rw [F 132 0 (by decide) (by decide)]; exact hn) (by rw [F 132 0 (by decide) (by decide), F 114 43 (by decide) (by decide)]; exact hr) (by decide) (by decide)
      clear h
      refine ⟨m4, m5, fun w h0 h1 => ?_, W5, F, i1, i2, i3⟩
      rcases (show w = 0 ∨ w = 1 ∨ w = 2 ∨ w = 3 by omega) with e | e | e | e
      · rw [e]; exact W0
      · rw [e]; exact W1
      · rw [e]; exact W2
      · rw [e]; exact W3
    · exact absurd (by decide) d
/-- the LINE, WHEELS, punch -/
theorem r3_252 {E : Int → Int → Prop} {g : Int → Int} (hT : ∀ t, -1 ≤ mp_tk E g t ∧ mp_tk E g t ≤ 15) {x0 l2 n : Int} (n0 : 0 ≤ n) (n1 : n < 60) : ∀ (c : Nat) (l : Int) (m : dc_M) (v : Int) (m' : dc_M), LM_219 x0 c 252 l2 l m v m' → r3_S E g m → m 131 0 = n → (∀ w : Int, 0 ≤ w → w < 4 → -999999 ≤ m 134 w ∧ m 134 w ≤ 999999) → (0 ≤ m 138 0 ∧ m 138 0 ≤ 900000) → 0 ≤ m 132 0 → (m 132 0 ≠ m 114 43 → m 132 0 < 40) → 0 ≤ l → l ≤ 12 → ∃ m1, m1 131 0 = n + 1 ∧ (∀ i : Int, l ≤ i → i < 12 → m1 133 (12 * n + i) = r3_B (mp_tk E g) (132 + i)) ∧ (∀ (k : Nat) (i : Int), ¬ (k = 131 ∧ i = 0) → ¬ (k = 133 ∧ 12 * n + l ≤ i ∧ i < 12 * n + 12) → m1 k i = m k i) ∧ r3_W (mp_tk E g) m1 v m' := by
  intro c
  induction c with
  | zero => intro l m v m' h; exact h.elim
  | succ c ih =>
    intro l m v m' h S hn hw ho hp hr l0 l1
    have w1 : dc_w (l + 1) = l + 1 := dw (by omega) (by omega)
    have w2 : dc_w (132 + l) = 132 + l := dw (by omega) (by omega)
    have w3 : dc_w (12 * n) = 12 * n := dw (by omega) (by omega)
    have w4 : dc_w (12 * n + l) = 12 * n + l := dw (by omega) (by omega)
    have w5 : dc_w (n + 1) = n + 1 := dw (by omega) (by omega)
    replace h := lm_219_252.mp h
    rw [w1, w2, hn, w3, w4, w5] at h
    rcases h with ⟨c1, -, -, m1, e1, h⟩ | ⟨c1, -, v2, m2, hd, h⟩
    · have S1 : r3_S E g m1 := S.fr (fun k i hk => by rw [e1, dc_up_k (by clear h; omega)])
      have q := r3_318 hT h S1 (fun w h0 h1 => by rw [e1, dc_up_k (by decide)]; exact hw w h0 h1) (by rw [e1, dc_up_k (by decide)]; exact ho) (by rw [e1, dc_up_k (by decide)]; exact hp) (by rw [e1, dc_up_k (by decide), dc_up_k (by decide)]; exact hr)
      exact ⟨m1, by rw [e1, dc_up_s], fun i i0 i1 => by exfalso; clear h; omega, fun k i z _ => by rw [e1]; exact if_neg z, q⟩
    · obtain ⟨e2, q2⟩ := r2_have S.1 hd
      clear hd
      rw [e2, q2] at h
      have step : ∀ m3, m3 = dc_up m 133 (12 * n + l) (r3_B (mp_tk E g) (132 + l)) → LM_219 x0 c 252 l2 (l + 1) m3 v m' → ∃ m1, m1 131 0 = n + 1 ∧ (∀ i : Int, l ≤ i → i < 12 → m1 133 (12 * n + i) = r3_B (mp_tk E g) (132 + i)) ∧ (∀ (k : Nat) (i : Int), ¬ (k = 131 ∧ i = 0) → ¬ (k = 133 ∧ 12 * n + l ≤ i ∧ i < 12 * n + 12) → m1 k i = m k i) ∧ r3_W (mp_tk E g) m1 v m' := by
        intro m3 e3 h
        have f3 : ∀ (k : Nat) (i : Int), k ≠ 133 → m3 k i = m k i := fun k i hk => by rw [e3, dc_up_k hk]
        obtain ⟨m1, i1, i2, i3, i4⟩ := ih (l + 1) m3 v m' h (S.fr (fun k i hk => f3 k i (by clear h; omega))) ((f3 131 0 (by decide)).trans hn) (fun w h0 h1 => by rw [f3 134 w (by decide)]; exact hw w h0 h1) (by rw [f3 138 0 (by decide)]; exact ho) (by rw [f3 132 0 (by decide)]; exact hp) (by rw [f3 132 0 (by decide), f3 114 43 (by decide)]; exact hr) (by clear h; omega) (by clear h; omega)
        clear h
        refine ⟨m1, i1, fun i j0 j1 => ?_, fun k i z1 z2 => ?_, i4⟩
        · by_cases z : i = l
          · rw [z, i3 133 _ (by omega) (by omega), e3, dc_up_s]
          · exact i2 i (by omega) j1
        · rw [i3 k i z1 (fun y => z2 ⟨y.1, by omega, y.2.2⟩), e3]
          exact if_neg (fun y => z2 ⟨y.1, by omega, by omega⟩)
      rcases h with ⟨c2, v3, m3, hd, -, m4, e4, h⟩ | ⟨c2, -, m4, e4, h⟩
      · obtain ⟨e3, q3⟩ := r2_have S.1 hd
        clear hd
        rw [e3, q3] at e4
        refine step m4 ?_ h
        rw [e4, show r3_B (mp_tk E g) (132 + l) = mp_tk E g (132 + l) from if_neg (by clear h; omega)]
      · refine step m4 ?_ h
        rw [e4, show r3_B (mp_tk E g) (132 + l) = 15 from if_pos (by clear h; omega)]
