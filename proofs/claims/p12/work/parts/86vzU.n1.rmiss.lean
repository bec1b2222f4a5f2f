/-! WHAT missing() AND moves() LEAVE AS IT WAS: the reference -/
theorem rv_237 {m : dc_M} {v : Int} {m' : dc_M} (h : D_237 m v m') : m' = m := by
  have l : ∀ (c : Nat) (l1 : Int) (m : dc_M) (v : Int) (m' : dc_M), LM_237 c 17 l1 m v m' → m' = m := by
    intro c
    induction c with
    | zero => intro l1 m v m' h; exact h.elim
    | succ c ih =>
      intro l1 m v m' h
      replace h := lm_237_17.mp h
      rcases h with ⟨-, -, em⟩ | ⟨-, -, -, h⟩
      · exact em
      · rcases h with ⟨-, h⟩ | ⟨-, -, em⟩
        · exact ih _ m v m' h
        · exact em
  obtain ⟨-, h⟩ := h
  rcases h with ⟨-, c, h⟩ | ⟨-, -, em⟩
  · exact l c 0 m v m' h
  · exact em
def rv_l (k : Nat) (i : Int) : Prop := (k = 114 ∧ (2 ≤ i ∧ i ≤ 4)) ∨ (k = 114 ∧ i = 55) ∨ k = 145
theorem rv_236 {m : dc_M} {v : Int} {m' : dc_M} (h : D_236 m v m') : ∀ (k : Nat) (i : Int), ¬ rv_l k i → m' k i = m k i := by
  have l : ∀ {m0 : dc_M} (c : Nat), (∀ (l1 : Int) (m : dc_M) (v : Int) (m' : dc_M), LM_236 c 28 l1 m v m' → (∀ (k : Nat) (i : Int), ¬ rv_l k i → m k i = m0 k i) → ∀ (k : Nat) (i : Int), ¬ rv_l k i → m' k i = m0 k i) ∧ ∀ (l1 : Int) (m : dc_M) (v : Int) (m' : dc_M), LM_236 c 66 l1 m v m' → (∀ (k : Nat) (i : Int), ¬ rv_l k i → m k i = m0 k i) → ∀ (k : Nat) (i : Int), ¬ rv_l k i → m' k i = m0 k i := by
    intro m0 c
    induction c with
    | zero => exact ⟨fun l m v m' h => h.elim, fun l m v m' h => h.elim⟩
    | succ c ih =>
      refine ⟨fun l m v m' h fr => ?_, fun l m v m' h fr => ?_⟩
      · replace h := lm_236_28.mp h
        rcases h with ⟨-, h⟩ | ⟨-, v2, m2, h2, h⟩
        · exact ih.2 0 m v m' h fr
        · have e2 : m2 = m := h2.2.2
          rw [e2] at h
          rcases h with ⟨-, h⟩ | ⟨-, v3, m3, h3, h⟩
          · exact ih.1 _ m v m' h fr
          · have e3 : m3 = m := h3.2.2
            rw [e3] at h
            rcases h with ⟨-, h⟩ | ⟨-, -, em⟩
            · exact ih.1 _ m v m' h fr
            · rw [em]; exact fr
      · replace h := lm_236_66.mp h
        rcases h with ⟨-, m2, e2, -, em⟩ | ⟨-, v2, m2, h2, -, m3, e3, h⟩
        · intro k i y
          rw [em, e2]
          exact (if_neg (fun z => y (Or.inr (Or.inl z)))).trans (fr k i y)
        · have e2 : m2 = m := h2.2.2
          refine ih.2 _ m3 v m' h (fun k i y => ?_)
          rw [e3, dc_up_k (fun z => y (Or.inr (Or.inr z))), e2]
          exact fr k i y
  obtain ⟨v2, m2, h2, h⟩ := h
  obtain ⟨m3, e3, m4, e4, m5, e5, -, em⟩ := h2
  have f2 : ∀ (k : Nat) (i : Int), ¬ rv_l k i → m2 k i = m k i := fun k i y => by
    rw [em, e5]
    refine (if_neg (fun z => y (Or.inl ⟨z.1, by omega⟩))).trans ?_
    rw [e4]
    refine (if_neg (fun z => y (Or.inl ⟨z.1, by omega⟩))).trans ?_
    rw [e3]
    exact if_neg (fun z => y (Or.inl ⟨z.1, by omega⟩))
  rcases h with ⟨-, -, em⟩ | ⟨-, h⟩
  · rw [em]; exact f2
  · rcases h with ⟨-, c, h⟩ | ⟨-, -, em⟩
    · exact (l c).1 0 m2 v m' h f2
    · rw [em]; exact f2
theorem rv_ex {m : dc_M} {n : Nat} (hn : n ≤ 60) (e : m 120 0 = (n : Int)) : ∃ W : List (Int × Int), rz_V m 0 W := by
  refine ⟨(List.range n).map (fun i : Nat => (m 118 (60 * 0 + (i : Int)), m 119 (60 * 0 + (i : Int)))), ?_, ?_, fun i hi => ?_⟩
  · rw [List.length_map, List.length_range]; exact e
  · rw [List.length_map, List.length_range]; exact hn
  · rw [List.length_map, List.length_range] at hi
    rw [List.getD_eq_getElem?_getD, List.getElem?_map, List.getElem?_range hi]
    exact ⟨rfl, rfl⟩
theorem rv_238l {W : List (Int × Int)} {dk : Int → Int → Int} {n x0 : Int} {m0 : dc_M} (hV : rz_V m0 0 W) (D : r5_D dk n m0) : ∀ (c : Nat) (l : Int) (m : dc_M) (v : Int) (m' : dc_M), LM_238 x0 c 41 l m v m' → (∀ (k : Nat) (i : Int), ¬ rm_t k i → ¬ (k = 114 ∧ i = 53) → k ≠ 143 → m k i = m0 k i) → ∀ (k : Nat) (i : Int), ¬ rm_t k i → ¬ (k = 114 ∧ i = 53) → k ≠ 143 → m' k i = m0 k i := by
  intro c
  induction c with
  | zero => intro l m v m' h; exact h.elim
  | succ c ih =>
    intro l m v m' h fr
    replace h := lm_238_41.mp h
    obtain ⟨-, h⟩ := h
    rcases h with ⟨-, m2, e2, -, em⟩ | ⟨-, m2, e2, v3, m3, h3, v4, m4, h4, h⟩
    · intro k i z1 z2 z3
      rw [em, e2]
      exact (if_neg (fun w => z1 (by unfold rm_t; omega))).trans (fr k i z1 z2 z3)
    · have f2 : ∀ (k : Nat) (i : Int), ¬ (k = 114 ∧ i = 42) → m2 k i = m k i := fun k i z => by rw [e2]; exact if_neg z
      have g2 : ∀ (k : Nat) (i : Int), ¬ rm_t k i → ¬ (k = 114 ∧ i = 53) → k ≠ 143 → m2 k i = m0 k i := fun k i z1 z2 z3 => (f2 k i (fun w => z1 (by unfold rm_t; omega))).trans (fr k i z1 z2 z3)
      have V2 : rz_V m2 0 W := rm_V hV (fun k i hk => g2 k i (by unfold rm_t mr_s; clear h h3 h4; omega) (by clear h h3 h4; omega) (by clear h h3 h4; omega))
      have D2 : r5_D dk n m2 := D.cg (g2 114 41 (by unfold rm_t mr_s; clear h h3 h4; omega) (by decide) (by decide)) (fun i => g2 123 i (by unfold rm_t mr_s; clear h h3 h4; omega) (by omega) (by omega))
      obtain ⟨-, -, -, f3⟩ := r7_play h3 V2 (by rw [e2, dc_up_s]) D2 (by decide)
      clear h3
      have g3 : ∀ (k : Nat) (i : Int), ¬ rm_t k i → ¬ (k = 114 ∧ i = 53) → k ≠ 143 → m3 k i = m0 k i := fun k i z1 z2 z3 => by
        rw [f3 k i (fun w => z1 (by
          have w := mr_t_s w
          unfold rm_t
          rcases w with w | w | w
          · exact Or.inl ⟨w.1, Or.inr w.2⟩
          · exact Or.inr (Or.inl w)
          · exact Or.inr (Or.inr w)))]
        exact g2 k i z1 z2 z3
      rw [rv_237 h4] at h
      clear h4
      rcases h with ⟨c2, -, m5, e5, m6, e6', h⟩ | ⟨c2, h⟩
      · exact ih _ m6 v m' h (fun k i z1 z2 z3 => by
          rw [e6']
          refine (if_neg z2).trans ?_
          rw [e5, dc_up_k z3]
          exact g3 k i z1 z2 z3)
      · exact ih _ m3 v m' h g3
def rv_t (k : Nat) (i : Int) : Prop := (k = 114 ∧ (i = 0 ∨ (2 ≤ i ∧ i ≤ 4) ∨ i = 41 ∨ i = 42 ∨ i = 43 ∨ i = 53 ∨ i = 55 ∨ i = 61)) ∨ k = 121 ∨ (123 ≤ k ∧ k ≤ 129) ∨ mr_s 0 k i ∨ k = 143 ∨ k = 145 ∨ (148 ≤ k ∧ k ≤ 150)
theorem rv_t_l {k : Nat} {i : Int} (h : ¬ rv_t k i) : ¬ rv_l k i ∧ ¬ rm_t k i ∧ ¬ (k = 114 ∧ (i = 0 ∨ i = 41 ∨ i = 42 ∨ i = 53 ∨ i = 61)) ∧ k ≠ 121 ∧ k ≠ 123 ∧ k ≠ 143 ∧ ¬ (148 ≤ k ∧ k ≤ 150) := by
  unfold rv_t at h
  refine ⟨fun z => h (by unfold rv_l at z; omega), fun z => h ?_, fun z => h (by omega), fun z => h (by omega), fun z => h (by omega), fun z => h (by omega), fun z => h (by omega)⟩
  unfold rm_t at z
  rcases z with z | z | z
  · exact Or.inl ⟨z.1, by omega⟩
  · exact Or.inr (Or.inr (Or.inl (by omega)))
  · exact Or.inr (Or.inr (Or.inr (Or.inl z)))
theorem rv_238 {N : Int → Int} {B : Int → Int → Int → Int} (V : ∀ b k c, bx_v (B b k c)) {W : List (Int × Int)} {m : dc_M} (hb : bx_R N B m) (hW : rz_V m 0 W) {x v : Int} {m' : dc_M} (h : D_238 x m v m') : ∀ (k : Nat) (i : Int), ¬ rv_t k i → m' k i = m k i := by
  obtain ⟨m2, e2, v3, m3, h3, h⟩ := h
  have f2 : ∀ (k : Nat) (i : Int), ¬ (k = 114 ∧ i = 0) → m2 k i = m k i := fun k i z => by rw [e2]; exact if_neg z
  have f3 := rv_236 h3
  clear h3
  have g3 : ∀ (k : Nat) (i : Int), ¬ rv_l k i → ¬ (k = 114 ∧ i = 0) → m3 k i = m k i := fun k i y1 y2 => (f3 k i y1).trans (f2 k i y2)
  have out : ∀ (k : Nat) (i : Int), ¬ rv_t k i → m3 k i = m k i := fun k i y => by
    obtain ⟨y1, -, y3, -⟩ := rv_t_l y
    exact g3 k i y1 (fun z => y3 ⟨z.1, Or.inl z.2⟩)
  rcases h with ⟨-, -, em⟩ | ⟨-, v4, m4, h4, h⟩
  · rw [em]; exact out
  · obtain ⟨e4, q4⟩ := rl_box h4
    clear h4
    rw [e4] at h
    rcases h with ⟨c4, -, v5, m5, h5, m6, e6, c, h⟩ | ⟨-, -, em⟩
    · have hx : 0 ≤ x ∧ x < 8 := by
        rcases q4 with ⟨-, q⟩ | ⟨q, -⟩
        · exact q
        · exact absurd q c4
      have b3 : bx_R N B m3 := hb.cg (fun k i hk => g3 k i (by unfold rv_l; clear h h5; omega) (by clear h h5; omega))
      have n3 := b3.1 x hx.1 hx.2
      obtain ⟨D5, f5⟩ := rx_load b3 V hx.1 hx.2 (Int.le_refl 0) (by clear h h5; omega) (by clear h h5; omega) (by clear h h5; omega) h5
      clear h5
      have f6 : ∀ (k : Nat) (i : Int), ¬ (k = 114 ∧ i = 53) → m6 k i = m5 k i := fun k i z => by rw [e6]; exact if_neg z
      have V6 : rz_V m6 0 W := rm_V hW (fun k i hk => by
        rw [f6 k i (by clear h; omega), f5 k i (by clear h; omega) (by clear h; omega)]
        exact g3 k i (by unfold rv_l; clear h; omega) (by clear h; omega))
      have q := rv_238l V6 (D5.cg (f6 114 41 (by decide)) (fun i => f6 123 i (by omega))) c 0 m6 v m' h (fun _ _ _ _ _ => rfl)
      clear h
      intro k i y
      obtain ⟨y1, y2, y3, y4, y5, y6, y7⟩ := rv_t_l y
      rw [q k i y2 (fun z => y3 ⟨z.1, by omega⟩) y6, f6 k i (fun z => y3 ⟨z.1, by omega⟩), f5 k i (fun z => y3 ⟨z.1, by omega⟩) y5]
      exact out k i y
    · rw [em]; exact out
/-! moves() -/
theorem rv_245 {x : Int} {m : dc_M} {v : Int} {m' : dc_M} (h : D_245 x m v m') : m' = m := by
  unfold D_245 at h
  repeat' (first | exact h.2 | (rcases h with ⟨-, h⟩ | ⟨-, h⟩))
def rv_m (k : Nat) (i : Int) : Prop := (k = 114 ∧ (i = 43 ∨ i = 61)) ∨ k = 121 ∨ (124 ≤ k ∧ k ≤ 129) ∨ mr_s 0 k i ∨ (148 ≤ k ∧ k ≤ 150)
def rv_g (a b : dc_M) : Prop := ∀ (k : Nat) (i : Int), ¬ rv_m k i → b k i = a k i
theorem rv_g.u {a b d : dc_M} {q : Nat} {p x : Int} (h : rv_g a b) (e : d = dc_up b q p x) (hq : q = 121 ∨ (148 ≤ q ∧ q ≤ 150) ∨ (q = 114 ∧ p = 61)) : rv_g a d := fun k i y => by
  rw [e]
  refine (if_neg (fun z => y ?_)).trans (h k i y)
  unfold rv_m
  omega
theorem rv_247 {a b w : Int} {m : dc_M} {v : Int} {m' : dc_M} (h : D_247 a b w m v m') : (b ≠ 0 ∧ m' = dc_up m 119 a w) ∨ (b = 0 ∧ m' = dc_up m 118 a w) := by
  rcases h with ⟨c, -, m2, e2, -, em⟩ | ⟨c, -, m2, e2, -, em⟩
  · exact Or.inl ⟨c, em.trans e2⟩
  · exact Or.inr ⟨by omega, em.trans e2⟩
theorem rv_try {W : List (Int × Int)} {dk : Int → Int → Int} {n : Int} {m0 : dc_M} (hV : rz_V m0 0 W) (D : r5_D dk n m0) (e42 : m0 114 42 = -1) {l3 l4 l5 l8 : Int} (h5 : (l4 ≠ 0 → l5 = m0 119 l3) ∧ (l4 = 0 → l5 = m0 118 l3)) {m : dc_M} (fr : rv_g m0 m) {v2 v3 v4 : Int} {m2 m3 m4 : dc_M} (h2 : D_247 l3 l4 l8 m v2 m2) (h3 : D_217 40 m2 v3 m3) (h4 : D_247 l3 l4 l5 m3 v4 m4) : rv_g m0 m4 := by
  obtain ⟨r, hr, e2, e4, e5⟩ : ∃ r : Nat, (r = 118 ∨ r = 119) ∧ m2 = dc_up m r l3 l8 ∧ m4 = dc_up m3 r l3 l5 ∧ l5 = m0 r l3 := by
    rcases rv_247 h2 with ⟨c, e2⟩ | ⟨c, e2⟩
    · rcases rv_247 h4 with ⟨-, e4⟩ | ⟨d, -⟩
      · exact ⟨119, Or.inr rfl, e2, e4, h5.1 c⟩
      · exact absurd d c
    · rcases rv_247 h4 with ⟨d, -⟩ | ⟨-, e4⟩
      · exact absurd c d
      · exact ⟨118, Or.inl rfl, e2, e4, h5.2 c⟩
  clear h2 h4
  have f2 : ∀ (k : Nat) (i : Int), ¬ (k = r ∧ i = l3) → m2 k i = m k i := fun k i y => by rw [e2]; exact if_neg y
  have g2 : ∀ (k : Nat) (i : Int), ¬ rv_m k i → ¬ (k = r ∧ i = l3) → m2 k i = m0 k i := fun k i y1 y2 => (f2 k i y2).trans (fr k i y1)
  obtain ⟨W2, V2⟩ := rv_ex (m := m2) hV.2.1 (by
    rw [g2 120 0 (by unfold rv_m mr_s; clear h3; omega) (by clear h3; omega)]
    exact hV.1)
  have D2 : r5_D dk n m2 := D.cg (g2 114 41 (by unfold rv_m mr_s; clear h3; omega) (by clear h3; omega)) (fun i => g2 123 i (by unfold rv_m mr_s; clear h3; omega) (by clear h3; omega))
  obtain ⟨-, -, -, f3⟩ := r7_play h3 V2 ((g2 114 42 (by unfold rv_m mr_s; clear h3; omega) (by clear h3; omega)).trans e42) D2 (by decide)
  clear h3
  have g3 : ∀ (k : Nat) (i : Int), ¬ rv_m k i → ¬ (k = r ∧ i = l3) → m3 k i = m0 k i := fun k i y1 y2 => by
    rw [f3 k i (fun w => y1 (by
      have w := mr_t_s w
      unfold rv_m
      rcases w with w | w | w
      · exact Or.inl ⟨w.1, Or.inl w.2⟩
      · exact Or.inr (Or.inr (Or.inl w))
      · exact Or.inr (Or.inr (Or.inr (Or.inl w)))))]
    exact g2 k i y1 y2
  intro k i y
  by_cases z : k = r ∧ i = l3
  · rw [e4, z.1, z.2, dc_up_s]
    exact e5
  · rw [e4]
    exact (if_neg z).trans (g3 k i y z)
theorem rv_246l {x0 : Int} {W : List (Int × Int)} {dk : Int → Int → Int} {n : Int} {m0 : dc_M} (hV : rz_V m0 0 W) (D : r5_D dk n m0) (e42 : m0 114 42 = -1) : ∀ c : Nat, (∀ (l2 : Int) (m : dc_M) (v : Int) (m' : dc_M), LM_246 x0 c 55 l2 0 0 0 0 0 0 m v m' → rv_g m0 m → rv_g m0 m') ∧ (∀ (l2 : Int) (m : dc_M) (v : Int) (m' : dc_M), LM_246 x0 c 77 l2 0 0 0 0 0 0 m v m' → rv_g m0 m → rv_g m0 m') ∧ (∀ (l2 l3 : Int) (m : dc_M) (v : Int) (m' : dc_M), LM_246 x0 c 127 l2 l3 0 0 0 0 0 m v m' → rv_g m0 m → rv_g m0 m') ∧ (∀ (l2 l3 l4 : Int) (m : dc_M) (v : Int) (m' : dc_M), LM_246 x0 c 140 l2 l3 l4 0 0 0 0 m v m' → rv_g m0 m → rv_g m0 m') ∧ ∀ (l2 l3 l4 l5 l6 l7 l8 : Int) (m : dc_M) (v : Int) (m' : dc_M), LM_246 x0 c 201 l2 l3 l4 l5 l6 l7 l8 m v m' → ((l4 ≠ 0 → l5 = m0 119 l3) ∧ (l4 = 0 → l5 = m0 118 l3)) → rv_g m0 m → rv_g m0 m' := by
  intro c
  induction c with
  | zero => exact ⟨fun _ _ _ _ h => h.elim, fun _ _ _ _ h => h.elim, fun _ _ _ _ _ h => h.elim, fun _ _ _ _ _ _ h => h.elim, fun _ _ _ _ _ _ _ _ _ _ h => h.elim⟩
  | succ c ih =>
    obtain ⟨i1, i2, i3, i4, i5⟩ := ih
    refine ⟨fun l2 m v m' h fr => ?_, fun l2 m v m' h fr => ?_, fun l2 l3 m v m' h fr => ?_, fun l2 l3 l4 m v m' h fr => ?_, fun l2 l3 l4 l5 l6 l7 l8 m v m' h h5 fr => ?_⟩
    · replace h := lm_246_55.mp h
      rcases h with ⟨-, h⟩ | ⟨-, -, m2, e2, h⟩
      · exact i2 0 m v m' h fr
      · exact i1 _ m2 v m' h (fr.u e2 (by omega))
    · replace h := lm_246_77.mp h
      obtain ⟨-, h⟩ := h
      rcases h with ⟨-, h⟩ | ⟨-, -, -, -, m2, e2, -, -, -, m3, e3, h⟩
      · exact i3 0 0 m v m' h fr
      · exact i2 _ m3 v m' h ((fr.u e2 (by omega)).u e3 (by omega))
    · replace h := lm_246_127.mp h
      obtain ⟨-, h⟩ := h
      rcases h with ⟨-, h⟩ | ⟨-, h⟩
      · rcases h with ⟨-, m2, e2, -, em⟩ | ⟨-, m2, e2, -, em⟩
        · rw [em]; exact fr.u e2 (by omega)
        · rw [em]; exact fr.u e2 (by omega)
      · exact i4 l2 l3 0 m v m' h fr
    · replace h := lm_246_140.mp h
      have q8 : m 118 l3 = m0 118 l3 := fr 118 l3 (by unfold rv_m mr_s; clear h; omega)
      have q9 : m 119 l3 = m0 119 l3 := fr 119 l3 (by unfold rv_m mr_s; clear h; omega)
      rcases h with ⟨-, h⟩ | ⟨-, h⟩
      · exact i3 l2 _ m v m' h fr
      · rcases h with ⟨c4, -, h⟩ | ⟨c4, -, h⟩
        · rcases h with ⟨-, -, v2, m2, h2, h⟩ | ⟨d, -⟩
          · rw [rv_245 h2] at h
            exact i5 _ _ _ _ _ _ _ m v m' h ⟨fun _ => q9, fun z => absurd z c4⟩ fr
          · exact absurd c4 d
        · rcases h with ⟨d, -⟩ | ⟨-, -, v2, m2, h2, h⟩
          · exact absurd d c4
          · rw [rv_245 h2] at h
            exact i5 _ _ _ _ _ _ _ m v m' h ⟨fun z => absurd z c4, fun _ => q8⟩ fr
    · replace h := lm_246_201.mp h
      rcases h with ⟨-, h⟩ | ⟨-, v2, m2, h2, h⟩
      · exact i4 l2 l3 _ m v m' h fr
      · rw [rv_245 h2] at h
        clear h2
        rcases h with ⟨-, h⟩ | ⟨-, h⟩
        · exact i4 l2 l3 _ m v m' h fr
        · rcases h with ⟨-, h⟩ | ⟨-, h⟩
          · exact i5 _ _ _ _ _ _ _ m v m' h h5 fr
          · rcases h with ⟨-, h⟩ | ⟨-, -, v3, m3, h3, h⟩
            · exact i5 _ _ _ _ _ _ _ m v m' h h5 fr
            · rw [(rz_most h3).1] at h
              clear h3
              rcases h with ⟨-, v4, m4, h4, v5, m5, h5', v6, m6, h6, v7, m7, h7, h⟩ | ⟨-, h⟩
              · have g6 := rv_try hV D e42 h5 fr h4 h5' h6
                rw [rv_237 h7] at h
                clear h4 h5' h6 h7
                rcases h with ⟨-, h⟩ | ⟨-, h⟩
                · rcases h with ⟨-, h⟩ | ⟨-, -, m8, e8, -, m9, e9, -, ma, ea, h⟩
                  · exact i5 _ _ _ _ _ _ _ m6 v m' h h5 g6
                  · exact i5 _ _ _ _ _ _ _ ma v m' h h5 (((g6.u e8 (by omega)).u e9 (by omega)).u ea (by omega))
                · exact i5 _ _ _ _ _ _ _ m6 v m' h h5 g6
              · exact i5 _ _ _ _ _ _ _ m v m' h h5 fr
theorem rv_246 {N : Int → Int} {B : Int → Int → Int → Int} (V : ∀ b k c, bx_v (B b k c)) {W : List (Int × Int)} {m : dc_M} (hb : bx_R N B m) (hW : rz_V m 0 W) {x v : Int} {m' : dc_M} (h : D_246 x m v m') : ∀ (k : Nat) (i : Int), ¬ rv_t k i → m' k i = m k i := by
  obtain ⟨m2, e2, v3, m3, h3, h⟩ := h
  have f2 : ∀ (k : Nat) (i : Int), ¬ (k = 114 ∧ i = 0) → m2 k i = m k i := fun k i z => by rw [e2]; exact if_neg z
  have f3 := rv_236 h3
  clear h3
  have g3 : ∀ (k : Nat) (i : Int), ¬ rv_l k i → ¬ (k = 114 ∧ i = 0) → m3 k i = m k i := fun k i y1 y2 => (f3 k i y1).trans (f2 k i y2)
  have out : ∀ (k : Nat) (i : Int), ¬ rv_t k i → m3 k i = m k i := fun k i y => by
    obtain ⟨y1, -, y3, -⟩ := rv_t_l y
    exact g3 k i y1 (fun z => y3 ⟨z.1, Or.inl z.2⟩)
  rcases h with ⟨-, -, em⟩ | ⟨-, v4, m4, h4, h⟩
  · rw [em]; exact out
  · obtain ⟨e4, q4⟩ := rl_box h4
    clear h4
    rw [e4] at h
    rcases h with ⟨c4, m5, e5, -, h⟩ | ⟨-, -, em⟩
    · have hx : 0 ≤ x ∧ x < 8 := by
        rcases q4 with ⟨-, q⟩ | ⟨q, -⟩
        · exact q
        · exact absurd q c4
      have f5 : ∀ (k : Nat) (i : Int), ¬ (k = 114 ∧ i = 42) → m5 k i = m3 k i := fun k i z => by rw [e5]; exact if_neg z
      have b5 : bx_R N B m5 := hb.cg (fun k i hk => (f5 k i (by clear h; omega)).trans (g3 k i (by unfold rv_l; clear h; omega) (by clear h; omega)))
      have n5 := b5.1 x hx.1 hx.2
      have fin : ∀ {p w : Int} {m6 : dc_M}, (0 ≤ p ∧ p ≤ N x) → D_210 x 0 p (-1) m5 w m6 → (∃ c, LM_246 x c 55 0 0 0 0 0 0 0 m6 v m') → ∀ (k : Nat) (i : Int), ¬ rv_t k i → m' k i = m k i := by
        intro p w m6 hp h6 h
        obtain ⟨D6, f6⟩ := rx_load b5 V hx.1 hx.2 (Int.le_refl 0) hp.1 (by clear h h6; omega) (by clear h h6; omega) h6
        clear h6
        have V6 : rz_V m6 0 W := rm_V hW (fun k i hk => by
          rw [f6 k i (by clear h; omega) (by clear h; omega), f5 k i (by clear h; omega)]
          exact g3 k i (by unfold rv_l; clear h; omega) (by clear h; omega))
        have e6 : m6 114 42 = -1 := by rw [f6 114 42 (by decide) (by decide), e5, dc_up_s]
        obtain ⟨c, h⟩ := h
        have q := (rv_246l V6 D6 e6 c).1 0 m6 v m' h (fun _ _ _ => rfl)
        clear h
        intro k i y
        obtain ⟨y1, y2, y3, y4, y5, y6, y7⟩ := rv_t_l y
        rw [q k i (fun z => by
          unfold rv_m at z
          rcases z with z | z | z | z | z
          · exact y (Or.inl ⟨z.1, by omega⟩)
          · exact y4 z
          · exact y2 (Or.inr (Or.inl z))
          · exact y2 (Or.inr (Or.inr z))
          · exact y7 z), f6 k i (fun z => y3 ⟨z.1, by omega⟩) y5, f5 k i (fun z => y3 ⟨z.1, by omega⟩)]
        exact out k i y
      rcases h with ⟨c5, v6, m6, h6, h⟩ | ⟨-, -, v6, m6, h6, h⟩
      · exact fin ⟨by decide, by clear h h6; omega⟩ h6 h
      · exact fin ⟨by clear h h6; omega, by clear h h6; omega⟩ h6 h
    · rw [em]; exact out
