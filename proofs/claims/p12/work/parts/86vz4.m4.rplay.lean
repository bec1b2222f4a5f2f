/-! THE REFERENCE'S CYCLE, whole -/
def r4_A (E : Int → Int → Prop) (g : Int → Int) (m : dc_M) (v : Int) (m' : dc_M) : Prop := (∃ a b, mp_J E g a b ∧ v = 2 ∧ m' = dc_up (dc_up m 139 0 a) 140 0 b) ∨ ((∀ a b, 0 ≤ a → a < b → b < 96 → 0 ≤ g a → 0 ≤ g b → ¬ mp_q E a b) ∧ ((mp_pr (mp_tk E g) ∧ m 131 0 = 60 ∧ v = 3 ∧ m' = m) ∨ (mp_pr (mp_tk E g) ∧ m 131 0 ≠ 60 ∧ ∃ m1, m1 131 0 = m 131 0 + 1 ∧ (∀ i : Int, 0 ≤ i → i < 12 → m1 133 (12 * m 131 0 + i) = r3_B (mp_tk E g) (132 + i)) ∧ (∀ (k : Nat) (i : Int), ¬ (k = 131 ∧ i = 0) → ¬ (k = 133 ∧ 12 * m 131 0 + 0 ≤ i ∧ i < 12 * m 131 0 + 12) → m1 k i = m k i) ∧ r3_W (mp_tk E g) m1 v m') ∨ (¬ mp_pr (mp_tk E g) ∧ r3_W (mp_tk E g) m v m')))
theorem r4_188 {E : Int → Int → Prop} {g : Int → Int} (hT : ∀ t, -1 ≤ mp_tk E g t ∧ mp_tk E g t ≤ 15) {x0 l2 : Int} {m : dc_M} (S : r3_S E g m) (hl : 0 ≤ m 131 0 ∧ m 131 0 ≤ 60) (hw : ∀ w : Int, 0 ≤ w → w < 4 → -999999 ≤ m 134 w ∧ m 134 w ≤ 999999) (ho : 0 ≤ m 138 0 ∧ m 138 0 ≤ 900000) (hn : 0 ≤ m 132 0) (hr : m 132 0 ≠ m 114 43 → m 132 0 < 40) : ∀ (c : Nat) (l v : Int) (m' : dc_M), LM_219 x0 c 188 l2 l m v m' → 0 ≤ l → l ≤ 96 → (∀ b, 0 ≤ b → b < l → 0 ≤ g b → m 128 (m 126 b) ≤ 1) → r4_A E g m v m' := by
  intro c
  induction c with
  | zero => intro l v m' h; exact h.elim
  | succ c ih =>
    intro l v m' h l0 l1 hc
    have w1 : dc_w (l + 1) = l + 1 := dw (by omega) (by omega)
    replace h := lm_219_188.mp h
    rw [w1] at h
    rcases h with ⟨c1, v2, m2, hd, h⟩ | ⟨c1, -, h⟩
    · have no : ∀ a b, 0 ≤ a → a < b → b < 96 → 0 ≤ g a → 0 ≤ g b → ¬ mp_q E a b := fun a b a0 ab b1 ga gb q => by
        have q1 := r3_c1 S.1 a0 ab b1 ga gb q
        have q2 := hc a a0 (by clear h hd; omega) ga
        clear h hd
        omega
      obtain ⟨e2, q⟩ := r3_prints S hd
      clear hd
      rw [e2] at h
      refine Or.inr ⟨no, ?_⟩
      rcases h with ⟨c2, h⟩ | ⟨c2, -, h⟩
      · rcases q with ⟨q, -⟩ | ⟨-, q⟩
        · exfalso; clear h; omega
        · exact Or.inr (Or.inr ⟨q, r3_318 hT h S hw ho hn hr⟩)
      · rcases q with ⟨-, q⟩ | ⟨q, -⟩
        · rcases h with ⟨c3, h⟩ | ⟨c3, ev, em⟩
          · exact Or.inr (Or.inl ⟨q, c3, r3_252 hT hl.1 (by clear h; omega) c 0 m v m' h S rfl hw ho hn hr (by decide) (by decide)⟩)
          · exact Or.inl ⟨q, Classical.not_not.mp c3, ev, em⟩
        · exact absurd q c2
    · rw [S.2 l l0 (by clear h; omega)] at h
      rcases h with ⟨c2, h⟩ | ⟨c2, -, -, h⟩
      · refine ih (l + 1) v m' h (by clear h; omega) (by clear h; omega) (fun b b0 b1 gb => ?_)
        by_cases z : b = l
        · rw [z] at gb; exfalso; clear h; omega
        · exact hc b b0 (by clear h; omega) gb
      · rcases h with ⟨c3, h⟩ | ⟨c3, v2, m2, hd, ev, em⟩
        · refine ih (l + 1) v m' h (by clear h; omega) (by clear h; omega) (fun b b0 b1 gb => ?_)
          by_cases z : b = l
          · rw [z]; exact c3
          · exact hc b b0 (by clear h; omega) gb
        · obtain ⟨-, m3, e3, d, hd⟩ := hd
          have gl : 0 ≤ g l := by omega
          have S3 : r3_S E g m3 := S.fr (fun k i hk => by rw [e3, dc_up_k (by omega)])
          have l96 : l < 96 := by omega
          rw [w1] at hd
          obtain ⟨j1, o, j2, j3⟩ := r3_jl l0 l96 d (l + 1) m3 v2 m2 hd S3 (by omega) (fun b q1 q2 => by exfalso; omega)
          clear hd
          refine Or.inl ⟨l, o, ⟨⟨l0, l96, ⟨gl, o, j3.2.2.1.1, j3.2.1, j3.2.2.1.2.1, j3.2.2.1.2.2⟩, fun x x0 x1 ⟨x2, y, y0, y1, y2, y3⟩ => ?_⟩, j3⟩, ev.trans j1, by rw [em, j2, e3]⟩
          have q1 := r3_c1 S.1 x0 y0 y1 x2 y2 y3
          have q2 := hc x x0 x1 x2
          omega
/-- the figures of the RUN under way -/
def mr_0 (m S : dc_M) : Prop := m 131 0 = S 0 1 ∧ m 132 0 = S 0 2 ∧ m 136 0 = S 0 3 ∧ m 137 0 = S 0 4 ∧ m 138 0 = S 0 5 ∧ m 139 0 = S 0 6 ∧ m 140 0 = S 0 7 ∧ (∀ i, 0 ≤ i → i < 12 * S 0 1 → m 133 i = S 1 i) ∧ (∀ w, 0 ≤ w → w < 4 → m 134 w = S 2 w) ∧ ∀ i, 0 ≤ i → i < 20 * S 0 2 → m 135 i = S 3 i
def mr_k (k : Nat) (i : Int) : Prop := ((k = 131 ∨ k = 132 ∨ (136 ≤ k ∧ k ≤ 140)) ∧ i = 0) ∨ (k = 133 ∧ 0 ≤ i ∧ i < 720) ∨ (k = 134 ∧ 0 ≤ i ∧ i < 4) ∨ (k = 135 ∧ 0 ≤ i ∧ i < 800)
theorem mr_0.cg {m m2 S : dc_M} (h : mr_0 m S) (hl : S 0 1 ≤ 60) (hp : S 0 2 ≤ 40) (f : ∀ (k : Nat) (i : Int), mr_k k i → m2 k i = m k i) : mr_0 m2 S := by
  obtain ⟨h1, h2, h3, h4, h5, h6, h7, h8, h9, h10⟩ := h
  refine ⟨(f _ _ (by unfold mr_k; omega)).trans h1, (f _ _ (by unfold mr_k; omega)).trans h2, (f _ _ (by unfold mr_k; omega)).trans h3, (f _ _ (by unfold mr_k; omega)).trans h4, (f _ _ (by unfold mr_k; omega)).trans h5, (f _ _ (by unfold mr_k; omega)).trans h6, (f _ _ (by unfold mr_k; omega)).trans h7, fun i i0 i1 => (f _ _ (by unfold mr_k; omega)).trans (h8 i i0 i1), fun i i0 i1 => (f _ _ (by unfold mr_k; omega)).trans (h9 i i0 i1), fun i i0 i1 => (f _ _ (by unfold mr_k; omega)).trans (h10 i i0 i1)⟩
theorem mr_0.e {m S : dc_M} (h : mr_0 m S) (e : Int) : mr_0 m (dc_up S 0 0 e) := h
/-- what holds of figures -/
def mp_K (room B : Int) (S : dc_M) : Prop := (0 ≤ S 0 1 ∧ S 0 1 ≤ 60) ∧ (0 ≤ S 0 2 ∧ S 0 2 ≤ room) ∧ (∀ w, 0 ≤ w → w < 4 → -999999 ≤ S 2 w ∧ S 2 w ≤ 999999) ∧ (0 ≤ S 0 5 ∧ S 0 5 ≤ B) ∧ (∀ i, 0 ≤ i → i < 12 * S 0 1 → 0 ≤ S 1 i ∧ S 1 i ≤ 15) ∧ ∀ i, 0 ≤ i → i < 20 * S 0 2 → 0 ≤ S 3 i ∧ S 3 i ≤ 15
theorem mp_wh_o {T : Int → Int} {S : dc_M} {k : Nat} {i : Int} (h1 : ¬ (k = 2 ∧ 0 ≤ i ∧ i < 4)) (h2 : ¬ (k = 0 ∧ i = 5)) : mp_wh T S k i = S k i := by
  unfold mp_wh
  rw [if_neg h1, if_neg h2]
theorem mp_wh_2 {T : Int → Int} {S : dc_M} {i : Int} (h0 : 0 ≤ i) (h1 : i < 4) : mp_wh T S 2 i = mp_w1 T i (S 2 i) := if_pos ⟨rfl, h0, h1⟩
theorem mp_wh_5 {T : Int → Int} {S : dc_M} : mp_wh T S 0 5 = S 0 5 + mp_ov T 0 (S 2 0) + mp_ov T 1 (S 2 1) + mp_ov T 2 (S 2 2) + mp_ov T 3 (S 2 3) := rfl
theorem mp_ln_o {T : Int → Int} {S : dc_M} {k : Nat} {i : Int} (h1 : ¬ (k = 1 ∧ 12 * S 0 1 ≤ i ∧ i < 12 * S 0 1 + 12)) (h2 : ¬ (k = 0 ∧ i = 1)) : mp_ln T S k i = S k i := by
  unfold mp_ln
  rw [if_neg h1, if_neg h2]
theorem mp_ln_y {T : Int → Int} {S : dc_M} {i : Int} (h0 : 0 ≤ i) (h1 : i < 12) : mp_ln T S 1 (12 * S 0 1 + i) = r3_B T (132 + i) := by
  unfold mp_ln
  rw [if_pos ⟨rfl, by omega, by omega⟩, show 12 * S 0 1 + i - 12 * S 0 1 = i by omega]
  rfl
theorem mp_ln_1 {T : Int → Int} {S : dc_M} : mp_ln T S 0 1 = S 0 1 + 1 := by
  unfold mp_ln
  rw [if_neg (fun z => by have := z.1; omega), if_pos ⟨rfl, rfl⟩]
theorem mp_pn_o {T : Int → Int} {S : dc_M} {k : Nat} {i : Int} (h1 : ¬ (k = 3 ∧ 20 * S 0 2 ≤ i ∧ i < 20 * S 0 2 + 20)) (h2 : ¬ (k = 0 ∧ i = 2)) : mp_pn T S k i = S k i := by
  unfold mp_pn
  rw [if_neg h1, if_neg h2]
theorem mp_pn_y {T : Int → Int} {S : dc_M} {i : Int} (h0 : 0 ≤ i) (h1 : i < 20) : mp_pn T S 3 (20 * S 0 2 + i) = r3_B T (159 + i) := by
  unfold mp_pn
  rw [if_pos ⟨rfl, by omega, by omega⟩, show 20 * S 0 2 + i - 20 * S 0 2 = i by omega]
  rfl
theorem mp_pn_2 {T : Int → Int} {S : dc_M} : mp_pn T S 0 2 = S 0 2 + 1 := by
  unfold mp_pn
  rw [if_neg (fun z => by have := z.1; omega), if_pos ⟨rfl, rfl⟩]
theorem r3_B_r {T : Int → Int} (hT : ∀ t, -1 ≤ T t ∧ T t ≤ 15) (t : Int) : 0 ≤ r3_B T t ∧ r3_B T t ≤ 15 := by
  have := hT t
  unfold r3_B
  split <;> omega
theorem mp_K.ln {room B : Int} {S : dc_M} (K : mp_K room B S) {T : Int → Int} (hT : ∀ t, -1 ≤ T t ∧ T t ≤ 15) (h : S 0 1 ≠ 60) : mp_K room B (mp_ln T S) := by
  obtain ⟨k1, k2, k3, k4, k5, k6⟩ := K
  unfold mp_K
  rw [mp_ln_1, mp_ln_o (k := 0) (i := 2) (by omega) (by omega), mp_ln_o (k := 0) (i := 5) (by omega) (by omega)]
  refine ⟨by omega, k2, fun w w0 w1 => ?_, k4, fun i i0 i1 => ?_, fun i i0 i1 => ?_⟩
  · rw [mp_ln_o (by omega) (by omega)]; exact k3 w w0 w1
  · by_cases z : 12 * S 0 1 ≤ i
    · have e := mp_ln_y (T := T) (S := S) (i := i - 12 * S 0 1) (by omega) (by omega)
      rw [show 12 * S 0 1 + (i - 12 * S 0 1) = i by omega] at e
      rw [e]
      exact r3_B_r hT _
    · rw [mp_ln_o (by omega) (by omega)]; exact k5 i i0 (by omega)
  · rw [mp_ln_o (by omega) (by omega)]; exact k6 i i0 i1
theorem mp_K.wh {room B : Int} {S : dc_M} (K : mp_K room B S) {T : Int → Int} : mp_K room (B + 4) (mp_wh T S) := by
  obtain ⟨k1, k2, k3, k4, k5, k6⟩ := K
  unfold mp_K
  rw [mp_wh_5, mp_wh_o (k := 0) (i := 1) (by omega) (by omega), mp_wh_o (k := 0) (i := 2) (by omega) (by omega)]
  have o0 := mp_ov_r T 0 (S 2 0)
  have o1 := mp_ov_r T 1 (S 2 1)
  have o2 := mp_ov_r T 2 (S 2 2)
  have o3 := mp_ov_r T 3 (S 2 3)
  refine ⟨k1, k2, fun w w0 w1 => ?_, by omega, fun i i0 i1 => ?_, fun i i0 i1 => ?_⟩
  · rw [mp_wh_2 w0 w1]
    unfold mp_w1 dc_rem
    split
    · omega
    · split <;> omega
  · rw [mp_wh_o (by omega) (by omega)]; exact k5 i i0 i1
  · rw [mp_wh_o (by omega) (by omega)]; exact k6 i i0 i1
theorem mp_K.pn {room B : Int} {S : dc_M} (K : mp_K room B S) {T : Int → Int} (hT : ∀ t, -1 ≤ T t ∧ T t ≤ 15) (h : S 0 2 ≠ room) : mp_K room B (mp_pn T S) := by
  obtain ⟨k1, k2, k3, k4, k5, k6⟩ := K
  unfold mp_K
  rw [mp_pn_2, mp_pn_o (k := 0) (i := 1) (by omega) (by omega), mp_pn_o (k := 0) (i := 5) (by omega) (by omega)]
  refine ⟨k1, by omega, fun w w0 w1 => ?_, k4, fun i i0 i1 => ?_, fun i i0 i1 => ?_⟩
  · rw [mp_pn_o (by omega) (by omega)]; exact k3 w w0 w1
  · rw [mp_pn_o (by omega) (by omega)]; exact k5 i i0 i1
  · by_cases z : 20 * S 0 2 ≤ i
    · have e := mp_pn_y (T := T) (S := S) (i := i - 20 * S 0 2) (by omega) (by omega)
      rw [show 20 * S 0 2 + (i - 20 * S 0 2) = i by omega] at e
      rw [e]
      exact r3_B_r hT _
    · rw [mp_pn_o (by omega) (by omega)]; exact k6 i i0 (by omega)
theorem mp_K.e {room B : Int} {S : dc_M} (K : mp_K room B S) (e : Int) : mp_K room B (dc_up S 0 0 e) := K
theorem mp_K.mo {room B C : Int} {S : dc_M} (K : mp_K room B S) (h : B ≤ C) : mp_K room C S := ⟨K.1, K.2.1, K.2.2.1, ⟨K.2.2.2.1.1, by have := K.2.2.2.1.2; omega⟩, K.2.2.2.2⟩
theorem mp_K.cyc {room B : Int} {S : dc_M} (K : mp_K room B S) {E : Int → Int → Prop} {g : Int → Int} (hT : ∀ t, -1 ≤ mp_tk E g t ∧ mp_tk E g t ≤ 15) : mp_K room (B + 4) (mp_cyc E g room S) := by
  unfold mp_cyc
  split
  · exact K.mo (by omega)
  · unfold mp_act
    split
    · exact (K.e 3).mo (by omega)
    · next z =>
      have K1 : mp_K room B (mp_a1 (mp_tk E g) S) := by
        unfold mp_a1
        split
        · next y => exact K.ln hT (fun x => z ⟨y, x⟩)
        · exact K
      have K2 := K1.wh (T := mp_tk E g)
      unfold mp_a2
      split
      · split
        · exact K2.e 3
        · next y => exact K2.pn hT y
      · exact K2
/-- WHEELS and punch, as figures -/
theorem r4_W {T : Int → Int} {m : dc_M} {v : Int} {m' S : dc_M} {room B : Int} (h : r3_W T m v m') (O : mr_0 m S) (hroom : m 114 43 = room) (h40 : room ≤ 40) (K : mp_K room B S) (e0 : S 0 0 = 0) : v = mp_a2 T room (mp_wh T S) 0 0 ∧ mr_0 m' (mp_a2 T room (mp_wh T S)) ∧ ∀ (k : Nat) (i : Int), ¬ mr_k k i → m' k i = m k i := by
  obtain ⟨m1, m2, a1, a2, a3, b1, b2, P⟩ := h
  obtain ⟨O1, O2, O3, O4, O5, O6, O7, O8, O9, O10⟩ := O
  have f2 : ∀ (k : Nat) (i : Int), ¬ (k = 134 ∧ 0 ≤ i ∧ i < 4) → ¬ (k = 138 ∧ i = 0) → m2 k i = m k i := fun k i z1 z2 => (b2 k i z1).trans (a3 k i z1 z2)
  have N : mr_0 m2 (mp_wh T S) := by
    unfold mr_0
    rw [mp_wh_5, mp_wh_o (k := 0) (i := 1) (by omega) (by omega), mp_wh_o (k := 0) (i := 2) (by omega) (by omega), mp_wh_o (k := 0) (i := 3) (by omega) (by omega), mp_wh_o (k := 0) (i := 4) (by omega) (by omega), mp_wh_o (k := 0) (i := 6) (by omega) (by omega), mp_wh_o (k := 0) (i := 7) (by omega) (by omega)]
    refine ⟨(f2 _ _ (by omega) (by omega)).trans O1, (f2 _ _ (by omega) (by omega)).trans O2, (f2 _ _ (by omega) (by omega)).trans O3, (f2 _ _ (by omega) (by omega)).trans O4, ?_, (f2 _ _ (by omega) (by omega)).trans O6, (f2 _ _ (by omega) (by omega)).trans O7, fun i i0 i1 => ?_, fun w w0 w1 => ?_, fun i i0 i1 => ?_⟩
    · rw [b2 138 0 (by omega), a2, O5, O9 0 (by decide) (by decide), O9 1 (by decide) (by decide), O9 2 (by decide) (by decide), O9 3 (by decide) (by decide)]
    · rw [mp_wh_o (by omega) (by omega)]
      exact (f2 _ _ (by omega) (by omega)).trans (O8 i i0 i1)
    · rw [mp_wh_2 w0 w1, b1 w w0 w1, a1 w w0 w1, O9 w w0 w1]
      rfl
    · rw [mp_wh_o (by omega) (by omega)]
      exact (f2 _ _ (by omega) (by omega)).trans (O10 i i0 i1)
  have K2 := K.wh (T := T)
  have r2 : m2 114 43 = room := (f2 _ _ (by omega) (by omega)).trans hroom
  have n2 : m2 132 0 = mp_wh T S 0 2 := N.2.1
  have e2 : mp_wh T S 0 0 = 0 := (mp_wh_o (by omega) (by omega)).trans e0
  have F2 : ∀ (k : Nat) (i : Int), ¬ mr_k k i → m2 k i = m k i := fun k i z => f2 k i (fun y => z (by unfold mr_k; omega)) (fun y => z (by unfold mr_k; omega))
  unfold mp_a2
  rcases P with ⟨p1, p2, p3⟩ | ⟨p1, p2, p3, p4⟩ | ⟨p1, p2, p3, p4, p5, p6⟩
  · rw [if_neg (by omega), p3]
    exact ⟨p2.trans e2.symm, N, F2⟩
  · rw [if_pos p1, if_pos (by rw [← n2, p2, r2]), p4]
    exact ⟨p3, N.e 3, F2⟩
  · rw [if_pos p1, if_neg (by rw [← n2, ← r2]; exact p2)]
    have k2 := K2.2.1
    have k1 := K2.1
    have nr : mp_wh T S 0 2 ≠ room := by rw [← n2, ← r2]; exact p2
    have p6' : ∀ (k : Nat) (i : Int), ¬ (k = 132 ∧ i = 0) → ¬ (k = 135 ∧ 20 * mp_wh T S 0 2 ≤ i ∧ i < 20 * mp_wh T S 0 2 + 20) → m' k i = m2 k i := by rw [← n2]; exact p6
    rw [n2] at p5
    refine ⟨?_, ?_, fun k i z => (p6' k i (fun y => z (by unfold mr_k; omega)) (fun y => z (by unfold mr_k; omega))).trans (F2 k i z)⟩
    · rw [mp_pn_o (by omega) (by omega), e2]; exact p3
    · obtain ⟨N1, N2, N3, N4, N5, N6, N7, N8, N9, N10⟩ := N
      unfold mr_0
      rw [mp_pn_2, mp_pn_o (k := 0) (i := 1) (by omega) (by omega), mp_pn_o (k := 0) (i := 3) (by omega) (by omega), mp_pn_o (k := 0) (i := 4) (by omega) (by omega), mp_pn_o (k := 0) (i := 5) (by omega) (by omega), mp_pn_o (k := 0) (i := 6) (by omega) (by omega), mp_pn_o (k := 0) (i := 7) (by omega) (by omega)]
      refine ⟨(p6' _ _ (by omega) (by omega)).trans N1, by rw [p4, n2], (p6' _ _ (by omega) (by omega)).trans N3, (p6' _ _ (by omega) (by omega)).trans N4, (p6' _ _ (by omega) (by omega)).trans N5, (p6' _ _ (by omega) (by omega)).trans N6, (p6' _ _ (by omega) (by omega)).trans N7, fun i i0 i1 => ?_, fun w w0 w1 => ?_, fun i i0 i1 => ?_⟩
      · rw [mp_pn_o (by omega) (by omega)]
        exact (p6' _ _ (by omega) (by omega)).trans (N8 i i0 i1)
      · rw [mp_pn_o (by omega) (by omega)]
        exact (p6' _ _ (by omega) (by omega)).trans (N9 w w0 w1)
      · by_cases z : 20 * mp_wh T S 0 2 ≤ i
        · have e := mp_pn_y (T := T) (S := mp_wh T S) (i := i - 20 * mp_wh T S 0 2) (by omega) (by omega)
          have q := p5 (i - 20 * mp_wh T S 0 2) (by omega) (by omega)
          rw [show 20 * mp_wh T S 0 2 + (i - 20 * mp_wh T S 0 2) = i by omega] at e q
          rw [e, q]
        · rw [mp_pn_o (by omega) (by omega), p6' _ _ (by omega) (by omega)]
          exact N10 i i0 (by omega)
theorem mp_cyc_j {E : Int → Int → Prop} {g : Int → Int} {room a b : Int} {S : dc_M} (h : mp_jm E g = some (a, b)) : mp_cyc E g room S = dc_up (dc_up (dc_up S 0 0 2) 0 6 a) 0 7 b := by
  unfold mp_cyc
  rw [h]
theorem r4_cA {E : Int → Int → Prop} {g : Int → Int} (hT : ∀ t, -1 ≤ mp_tk E g t ∧ mp_tk E g t ≤ 15) {m : dc_M} {v : Int} {m' S : dc_M} {room B : Int} (h : r4_A E g m v m') (O : mr_0 m S) (hroom : m 114 43 = room) (h40 : room ≤ 40) (K : mp_K room B S) (e0 : S 0 0 = 0) : v = mp_cyc E g room S 0 0 ∧ mr_0 m' (mp_cyc E g room S) ∧ ∀ (k : Nat) (i : Int), ¬ mr_k k i → m' k i = m k i := by
  rcases h with ⟨a, b, hJ, ev, em⟩ | ⟨no, h⟩
  · rw [mp_cyc_j (mp_jm_y hJ)]
    obtain ⟨O1, O2, O3, O4, O5, O6, O7, O8, O9, O10⟩ := O
    refine ⟨ev, ?_, fun k i z => ?_⟩
    · rw [em]
      refine ⟨?_, ?_, ?_, ?_, ?_, ?_, ?_, fun i i0 i1 => ?_, fun i i0 i1 => ?_, fun i i0 i1 => ?_⟩
      · rw [dc_up_k (by decide), dc_up_k (by decide), dc_up_i (by decide), dc_up_i (by decide), dc_up_i (by decide)]; exact O1
      · rw [dc_up_k (by decide), dc_up_k (by decide), dc_up_i (by decide), dc_up_i (by decide), dc_up_i (by decide)]; exact O2
      · rw [dc_up_k (by decide), dc_up_k (by decide), dc_up_i (by decide), dc_up_i (by decide), dc_up_i (by decide)]; exact O3
      · rw [dc_up_k (by decide), dc_up_k (by decide), dc_up_i (by decide), dc_up_i (by decide), dc_up_i (by decide)]; exact O4
      · rw [dc_up_k (by decide), dc_up_k (by decide), dc_up_i (by decide), dc_up_i (by decide), dc_up_i (by decide)]; exact O5
      · rw [dc_up_k (by decide), dc_up_s, dc_up_i (by decide), dc_up_s]
      · rw [dc_up_s, dc_up_s]
      · rw [dc_up_k (by decide), dc_up_k (by decide), dc_up_k (by decide), dc_up_k (by decide), dc_up_k (by decide)]
        exact O8 i i0 i1
      · rw [dc_up_k (by decide), dc_up_k (by decide), dc_up_k (by decide), dc_up_k (by decide), dc_up_k (by decide)]
        exact O9 i i0 i1
      · rw [dc_up_k (by decide), dc_up_k (by decide), dc_up_k (by decide), dc_up_k (by decide), dc_up_k (by decide)]
        exact O10 i i0 i1
    · rw [em]
      unfold mr_k at z
      exact (if_neg (by omega)).trans (if_neg (by omega))
  · unfold mp_cyc
    rw [mp_jm_n no]
    show v = mp_act (mp_tk E g) room S 0 0 ∧ mr_0 m' (mp_act (mp_tk E g) room S) ∧ _
    unfold mp_act
    have O1 : m 131 0 = S 0 1 := O.1
    rcases h with ⟨p, c, ev, em⟩ | ⟨p, c, m1, a1, a2, a3, hW⟩ | ⟨p, hW⟩
    · rw [if_pos ⟨p, by rw [← O1]; exact c⟩, em]
      exact ⟨ev, O.e 3, fun _ _ _ => rfl⟩
    · have n60 : S 0 1 ≠ 60 := by rw [← O1]; exact c
      rw [if_neg (fun z => n60 z.2)]
      have ea : mp_a1 (mp_tk E g) S = mp_ln (mp_tk E g) S := by unfold mp_a1; rw [if_pos p]
      rw [ea]
      rw [O1] at a1 a2 a3
      have k1 := K.1
      have k2 := K.2.1
      have N : mr_0 m1 (mp_ln (mp_tk E g) S) := by
        obtain ⟨-, O2, O3, O4, O5, O6, O7, O8, O9, O10⟩ := O
        unfold mr_0
        rw [mp_ln_1, mp_ln_o (k := 0) (i := 2) (by omega) (by omega), mp_ln_o (k := 0) (i := 3) (by omega) (by omega), mp_ln_o (k := 0) (i := 4) (by omega) (by omega), mp_ln_o (k := 0) (i := 5) (by omega) (by omega), mp_ln_o (k := 0) (i := 6) (by omega) (by omega), mp_ln_o (k := 0) (i := 7) (by omega) (by omega)]
        refine ⟨a1, (a3 _ _ (by omega) (by omega)).trans O2, (a3 _ _ (by omega) (by omega)).trans O3, (a3 _ _ (by omega) (by omega)).trans O4, (a3 _ _ (by omega) (by omega)).trans O5, (a3 _ _ (by omega) (by omega)).trans O6, (a3 _ _ (by omega) (by omega)).trans O7, fun i i0 i1 => ?_, fun w w0 w1 => ?_, fun i i0 i1 => ?_⟩
        · by_cases z : 12 * S 0 1 ≤ i
          · have e := mp_ln_y (T := mp_tk E g) (S := S) (i := i - 12 * S 0 1) (by omega) (by omega)
            have q := a2 (i - 12 * S 0 1) (by omega) (by omega)
            rw [show 12 * S 0 1 + (i - 12 * S 0 1) = i by omega] at e q
            rw [e, q]
          · rw [mp_ln_o (by omega) (by omega), a3 _ _ (by omega) (by omega)]
            exact O8 i i0 (by omega)
        · rw [mp_ln_o (by omega) (by omega), a3 _ _ (by omega) (by omega)]
          exact O9 w w0 w1
        · rw [mp_ln_o (by omega) (by omega), a3 _ _ (by omega) (by omega)]
          exact O10 i i0 i1
      obtain ⟨q1, q2, q3⟩ := r4_W hW N ((a3 _ _ (by omega) (by omega)).trans hroom) h40 (K.ln hT n60) ((mp_ln_o (by omega) (by omega)).trans e0)
      exact ⟨q1, q2, fun k i z => (q3 k i z).trans (a3 k i (fun y => z (by unfold mr_k; omega)) (fun y => z (by unfold mr_k; omega)))⟩
    · rw [if_neg (fun z => p z.1)]
      have ea : mp_a1 (mp_tk E g) S = S := by unfold mp_a1; rw [if_neg p]
      rw [ea]
      exact r4_W hW O hroom h40 K e0
