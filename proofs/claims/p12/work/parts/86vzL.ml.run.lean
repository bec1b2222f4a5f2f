/-! RUN, in both -/
def ru_N (N : Int → Int) (t n b : Int) : Int := if b = t then N t + n else N b
def ru_B (N : Int → Int) (B : Int → Int → Int → Int) (t n : Int) (P : Int → Int) (b k c : Int) : Int := if b = t ∧ N t ≤ k ∧ k < N t + n ∧ 0 ≤ c ∧ c < 20 then P (20 * (k - N t) + c) else B b k c
/-- CARDS PUNCHED go behind those of a BOX -/
theorem cl_21l {N : Int → Int} {B : Int → Int → Int → Int} {t n : Int} {P : Int → Int} (t0 : 0 ≤ t) (t1 : t < 8) (hn : 0 ≤ n ∧ N t + n ≤ 40) {m0 : dc_M} (e3 : m0 11 3 = n) (hP : ∀ i, 0 ≤ i → i < 20 * n → m0 15 i = P i) : ∀ (f c : Nat) (l : Int) (m : dc_M) (v : Int) (m' : dc_M), LM_21 t 11 c 2 l m v m' → n - l = (f : Int) → 0 ≤ l → (∀ (k : Nat) (i : Int), k ≠ 4 → k ≠ 6 → m k i = m0 k i) → bx_C (ru_N N t l) (ru_B N B t l P) m → 0 ≤ N t → bx_C (ru_N N t n) (ru_B N B t n P) m' ∧ ∀ (k : Nat) (i : Int), k ≠ 4 → k ≠ 6 → m' k i = m0 k i := by
  intro f
  induction f with
  | zero =>
    intro c l m v m' h hf l0 fr hb _
    have el : l = n := by omega
    rw [el] at hb
    cases c with
    | zero => exact h.elim
    | succ c =>
      replace h := lm_21_2.mp h
      rw [show m 11 3 = n from (fr 11 3 (by decide) (by decide)).trans e3] at h
      rcases h with ⟨-, -, em⟩ | ⟨c1, -⟩
      · rw [em]; exact ⟨hb, fr⟩
      · exfalso; omega
  | succ f ih =>
    intro c l m v m' h hf l0 fr hb hN
    cases c with
    | zero => exact h.elim
    | succ c =>
      obtain ⟨s1, s2, s3⟩ := hb.1 t t0 t1
      have sN : m 6 t = N t + l := by rw [s1]; exact if_pos rfl
      replace h := lm_21_2.mp h
      rw [show m 11 3 = n from (fr 11 3 (by decide) (by decide)).trans e3, dw (z := l * 20) (by omega) (by omega), dw (z := l + 1) (by omega) (by omega), show l * 20 = 20 * l by omega] at h
      rcases h with ⟨c1, -⟩ | ⟨c1, v2, m2, ⟨-, hd⟩, h⟩
      · exfalso; omega
      · have e2 : m2 = m ∧ v2 = 1 := by
          rw [sN] at hd
          rcases hd with ⟨d, -⟩ | ⟨-, ev, em⟩
          · exfalso; clear h; omega
          · exact ⟨em, ev⟩
        clear hd
        rw [e2.1, e2.2, sN] at h
        rcases h with ⟨d, -⟩ | ⟨-, -, v3, m3, h3, -, m4, e4, -, -, m5, e5, h⟩
        · exact absurd d (by decide)
        · obtain ⟨a1, a2⟩ := bx_18 hb t0 t1 (k := N t + l) (by clear h h3; omega) (by clear h h3; omega) h3
          clear h3
          rw [a1, a2] at e4
          have g6 : m4 6 t = N t + l := by rw [e4, dc_cpy_k (by decide)]; exact sN
          rw [g6, dw (by clear h; omega) (by clear h; omega)] at e5
          obtain ⟨q, eq⟩ : ∃ q, q = m 5 (40 * t + (N t + l)) := ⟨_, rfl⟩
          rw [← eq] at e4
          have f5 : ∀ (k : Nat) (i : Int), k ≠ 4 → k ≠ 6 → m5 k i = m k i := fun k i y1 y2 => by rw [e5, dc_up_k y2, e4, dc_cpy_k y1]
          obtain ⟨h1, h2, h3, h4⟩ := hb
          refine ih c (l + 1) m5 v m' h (by clear h; omega) (by clear h; omega) (fun k i y1 y2 => (f5 k i y1 y2).trans (fr k i y1 y2)) ⟨fun b b0 b1 => ?_, fun b k b0 b1 k0 k1 => ?_, fun b k j b0 b1 k0 kj j1 => ?_, fun b k d b0 b1 k0 k1 d0 d1 => ?_⟩ hN
          · obtain ⟨x1, x2, x3⟩ := h1 b b0 b1
            unfold ru_N at x1 x2 x3 ⊢
            rw [e5]
            by_cases z : b = t
            · rw [z, if_pos rfl, dc_up_s]
              clear h; omega
            · rw [if_neg z] at x1 x2 x3 ⊢
              rw [dc_up_i z, e4, dc_cpy_k (by decide)]
              exact ⟨x1, x2, x3⟩
          · rw [f5 5 _ (by decide) (by decide)]; exact h2 b k b0 b1 k0 k1
          · rw [f5 5 _ (by decide) (by decide), f5 5 _ (by decide) (by decide)]; exact h3 b k j b0 b1 k0 kj j1
          · rw [f5 5 _ (by decide) (by decide), e5, dc_up_k (by decide)]
            by_cases z : b = t ∧ k = N t + l
            · rw [z.1, z.2, ← eq, e4, dc_cpy_i (by clear h; omega) (by clear h; omega), show 20 * l + (q + d - q) = 20 * l + d by clear h; omega, fr 15 _ (by decide) (by decide), hP _ (by clear h; omega) (by clear h; omega)]
              unfold ru_B
              rw [if_pos ⟨rfl, by clear h; omega, by clear h; omega, d0, d1⟩, show N t + l - N t = l by clear h; omega]
            · have kr : k < ru_N N t l b := by
                unfold ru_N at k1 ⊢
                by_cases y : b = t
                · rw [if_pos y] at k1 ⊢
                  have : k ≠ N t + l := fun x => z ⟨y, x⟩
                  clear h; omega
                · rw [if_neg y] at k1 ⊢; exact k1
              have kb : k < 40 := by
                have x3 := (h1 b b0 b1).2.2
                clear h; omega
              have ne : ¬ (q ≤ m 5 (40 * b + k) + d ∧ m 5 (40 * b + k) + d < q + 20) := by
                obtain ⟨p1, u1, u2, u3⟩ := h2 b k b0 b1 k0 kb
                obtain ⟨p2, v1, v2, v3⟩ := h2 t (N t + l) t0 t1 (by clear h; omega) (by clear h; omega)
                rw [← eq] at v1
                by_cases y : b = t
                · rw [y] at u1 u2 u3 kr ⊢
                  have kl : k < N t + l := by unfold ru_N at kr; rw [if_pos rfl] at kr; exact kr
                  have d3 := h3 t k (N t + l) t0 t1 k0 kl (by clear h; omega)
                  rw [← eq] at d3
                  clear h; omega
                · clear h; omega
              rw [e4, dc_cpy_o ne, h4 b k d b0 b1 k0 kr d0 d1]
              unfold ru_B
              by_cases y : b = t ∧ N t ≤ k ∧ k < N t + l ∧ 0 ≤ d ∧ d < 20
              · rw [if_pos y, if_pos ⟨y.1, y.2.1, by clear h; omega, y.2.2.2.1, y.2.2.2.2⟩]
              · rw [if_neg y, if_neg (fun x => y ⟨x.1, x.2.1, by
                  have : k ≠ N t + l := fun w => z ⟨x.1, w⟩
                  have := x.2.2.1
                  clear h; omega, x.2.2.2.1, x.2.2.2.2⟩)]
theorem ru_0 {N : Int → Int} {t : Int} : ru_N N t 0 = N := by
  funext b
  unfold ru_N
  split
  · next z => rw [z]; omega
  · rfl
theorem ru_B0 {N : Int → Int} {B : Int → Int → Int → Int} {t : Int} {P : Int → Int} : ru_B N B t 0 P = B := by
  funext b k c
  unfold ru_B
  exact if_neg (fun z => by have := z.2.1; have := z.2.2.1; omega)
theorem cl_21 {N : Int → Int} {B : Int → Int → Int → Int} {t n : Int} {P : Int → Int} (t0 : 0 ≤ t) (t1 : t < 8) {m : dc_M} (hb : bx_C N B m) (hn : 0 ≤ n ∧ N t + n ≤ 40) (e3 : m 11 3 = n) (hP : ∀ i, 0 ≤ i → i < 20 * n → m 15 i = P i) {v : Int} {m' : dc_M} (h : D_21 t 11 m v m') : bx_C (ru_N N t n) (ru_B N B t n P) m' ∧ ∀ (k : Nat) (i : Int), k ≠ 4 → k ≠ 6 → m' k i = m k i := by
  obtain ⟨c, h⟩ := h
  exact cl_21l t0 t1 hn e3 hP n.toNat c 0 m v m' h (by clear h; omega) (Int.le_refl 0) (fun _ _ _ _ => rfl) (by rw [ru_0, ru_B0]; exact hb) (hb.1 t t0 t1).2.1
/-- what run() of the class changes -/
def cl_t (k : Nat) (i : Int) : Prop := (k = 3 ∧ i = 4) ∨ k = 4 ∨ k = 6 ∨ k = 7 ∨ (11 ≤ k ∧ k ≤ 28) ∨ (k = 0 ∧ i = 12)
theorem cl_run {N : Int → Int} {B : Int → Int → Int → Int} (V : ∀ b k c, bx_v (B b k c)) {W : List (Int × Int)} {C : Int} {m : dc_M} (hb : bx_C N B m) (hk : 45 < (m 0 8).toNat) (hW : cz_W m (m 0 8).toNat W) (hC : C + 320 ≤ 1800000000) (S : ck_S C m) {x y v : Int} {m' : dc_M} (h : D_152 x y m v m') : ((0 ≤ x ∧ x < 8) ∧ (0 ≤ y ∧ y < 8) ∧ x ≠ y ∧ v = mp_play W (-1) (B x) (N x) (40 - N y) 0 0 ∧ bx_C (ru_N N y (mp_play W (-1) (B x) (N x) (40 - N y) 0 2)) (ru_B N B y (mp_play W (-1) (B x) (N x) (40 - N y) 0 2) (mp_play W (-1) (B x) (N x) (40 - N y) 3)) m' ∧ co_0 11 m' (mp_play W (-1) (B x) (N x) (40 - N y)) ∧ m' 0 12 = 1 ∧ ck_S (C + 320) m' ∧ ∀ (k : Nat) (i : Int), ¬ cl_t k i → m' k i = m k i) ∨ (¬ ((0 ≤ x ∧ x < 8) ∧ (0 ≤ y ∧ y < 8) ∧ x ≠ y) ∧ v = -1 ∧ m' = m) := by
  obtain ⟨v1, m1, h1, h⟩ := h
  obtain ⟨e1, q1⟩ := ck_box h1
  clear h1
  rw [e1] at h
  rcases h with ⟨c1, ev, em⟩ | ⟨c1, v2, m2, h2, h⟩
  · rcases q1 with ⟨q1, -⟩ | ⟨-, q1⟩
    · exfalso; omega
    · exact Or.inr ⟨fun z => q1 z.1, ev, em⟩
  · obtain ⟨e2, q2⟩ := ck_box h2
    clear h2
    rw [e2] at h
    have hx : 0 ≤ x ∧ x < 8 := by
      rcases q1 with ⟨-, q1⟩ | ⟨q1, -⟩
      · exact q1
      · exact absurd q1 c1
    rcases h with ⟨c2, ev, em⟩ | ⟨c2, h⟩
    · rcases q2 with ⟨q2, -⟩ | ⟨-, q2⟩
      · exfalso; omega
      · exact Or.inr ⟨fun z => q2 z.2.1, ev, em⟩
    · have hy : 0 ≤ y ∧ y < 8 := by
        rcases q2 with ⟨-, q2⟩ | ⟨q2, -⟩
        · exact q2
        · exact absurd q2 c2
      rcases h with ⟨c3, v3, m3, h3, v4, m4, h4, -, v5, m5, h5, v6, m6, h6, m7, e7, ev, em⟩ | ⟨c3, ev, em⟩
      · obtain ⟨D3, f3⟩ := bx_23 hb V hx.1 hx.2 h3
        clear h3
        have k8 : m3 0 8 = m 0 8 := f3 0 8 (by clear h4 h5 h6; omega) (by decide)
        rw [k8] at h4
        have W3 : cz_W m3 (m 0 8).toNat W := hW.gg (fun j i j0 j1 => f3 j i (by clear h4 h5 h6; omega) (by clear h4 h5 h6; omega))
        obtain ⟨N4, f4⟩ := ck_plug hk W3 (S.cg (Int.le_refl C) (fun j i hj => f3 j i (by clear h4 h5 h6; omega) (by clear h4 h5 h6; omega))) h4
        clear h4
        obtain ⟨s1, s2, s3⟩ := hb.1 y hy.1 hy.2
        have g6 : m4 6 y = N y := by rw [f4 6 y (by clear h5 h6; omega), f3 6 y (by clear h5 h6; omega) (by decide)]; exact s1
        rw [g6, dw (by clear h5 h6; omega) (by clear h5 h6; omega)] at h5
        obtain ⟨f5, N5, r⟩ := ci_perf (o := 11) (z := -1) (Or.inl rfl) (Or.inl (by decide)) (by clear h5 h6; omega) (D3.cg (fun j i hj => f4 j i (by clear h5 h6; omega))) (fun z => absurd z (by decide)) hC N4 h5
        clear h5
        have O5 : co_0 11 m5 (mp_play W (-1) (B x) (N x) (40 - N y)) := by
          rcases r with ⟨-, -, r⟩ | ⟨d, -⟩ | ⟨d, -⟩
          · exact r
          · exact absurd d (by decide)
          · exact absurd d (by decide)
        have nx := hb.1 x hx.1 hx.2
        have K := mp_play.K (W := W) (w := -1) (dk := B x) (n := N x) (room := 40 - N y) nx.2 (by clear h6; omega)
        have F5 : ∀ (k : Nat) (i : Int), ¬ (k = 3 ∧ i = 4) → k ≠ 7 → ¬ (11 ≤ k ∧ k ≤ 28) → m5 k i = m k i := fun k i y1 y2 y3 => by
          rw [f5 k i (fun z => by unfold ch_t at z; clear h6; omega) (fun z => by clear h6; omega), f4 k i (by clear h6; omega)]
          exact f3 k i y1 y2
        obtain ⟨b6, f6⟩ := cl_21 hy.1 hy.2 (hb.cg (fun k i hk => F5 k i (by clear h6; omega) (by clear h6; omega) (by clear h6; omega))) (n := mp_play W (-1) (B x) (N x) (40 - N y) 0 2) (P := mp_play W (-1) (B x) (N x) (40 - N y) 3) (by have := K.1.2.1; clear h6; omega) O5.2.1 O5.2.2.2.2.2.2.2.2.2.1 h6
        clear h6
        have F7 : ∀ (k : Nat) (i : Int), k ≠ 4 → k ≠ 6 → ¬ (k = 0 ∧ i = 12) → m' k i = m5 k i := fun k i y1 y2 y3 => by
          rw [em, e7]
          exact (if_neg y3).trans (f6 k i y1 y2)
        have O7 : co_0 11 m' (mp_play W (-1) (B x) (N x) (40 - N y)) := O5.cg (fun k i k0 k1 => F7 k i (by omega) (by omega) (by omega))
        refine Or.inl ⟨hx, hy, c3, ?_, ?_, O7, ?_, N5.s.cg (Int.le_refl _) (fun k i hk => F7 k i (by omega) (by omega) (by omega)), fun k i z => ?_⟩
        · rw [ev, ← em]; exact O7.2.2.2.2.2.2.2.2.2.2
        · exact b6.cg (fun k i hk => by rw [em, e7, dc_up_k (by omega)])
        · rw [em, e7, dc_up_s]
        · unfold cl_t at z
          rw [F7 k i (by omega) (by omega) (by omega)]
          exact F5 k i (by omega) (by omega) (by omega)
      · exact Or.inr ⟨fun z => c3 z.2.2, ev, em⟩
/-! the reference -/
theorem rl_box {x : Int} {m : dc_M} {v : Int} {m' : dc_M} (h : D_190 x m v m') : m' = m ∧ ((v = 1 ∧ 0 ≤ x ∧ x < 8) ∨ (v = 0 ∧ ¬ (0 ≤ x ∧ x < 8))) := by
  obtain ⟨v1, m1, h1, ev, em⟩ := h
  obtain ⟨e1, q⟩ := rz_in h1
  refine ⟨em.trans e1, ?_⟩
  rcases q with ⟨q1, q2⟩ | ⟨q1, q2, q3⟩
  · exact Or.inr ⟨ev.trans q1, fun z => q2 ⟨z.1, by omega⟩⟩
  · exact Or.inl ⟨ev.trans q1, q2, by omega⟩
theorem rl_225 {N : Int → Int} {B : Int → Int → Int → Int} {x t n : Int} {P : Int → Int} (t0 : 0 ≤ t) (t1 : t < 8) {m0 : dc_M} (hb : bx_R N B m0) (hn : 0 ≤ n ∧ N t + n ≤ 40) (e3 : m0 132 0 = n) (hP : ∀ i, 0 ≤ i → i < 20 * n → m0 135 i = P i) : ∀ (f c : Nat) (l : Int) (m : dc_M) (v : Int) (m' : dc_M), LM_225 x t c 59 l m v m' → 20 * n - l = (f : Int) → 0 ≤ l → (∀ (k : Nat) (i : Int), ¬ (k = 116 ∧ 20 * (40 * t + N t) ≤ i ∧ i < 20 * (40 * t + N t) + 20 * n) → m k i = m0 k i) → (∀ i, 0 ≤ i → i < l → m 116 (20 * (40 * t + N t) + i) = P i) → ∃ m1 v2 m2 m3, (∀ (k : Nat) (i : Int), ¬ (k = 116 ∧ 20 * (40 * t + N t) ≤ i ∧ i < 20 * (40 * t + N t) + 20 * n) → ¬ (k = 117 ∧ i = t) → m1 k i = m0 k i) ∧ bx_R (ru_N N t n) (ru_B N B t n P) m1 ∧ D_223 1 m1 v2 m2 ∧ m3 = dc_up m2 114 44 1 ∧ v = m3 130 0 ∧ m' = m3 := by
  obtain ⟨s1, s2, s3⟩ := hb.1 t t0 t1
  intro f
  induction f with
  | zero =>
    intro c l m v m' h hf l0 fr hp
    have el : l = 20 * n := by omega
    rw [el] at hp
    cases c with
    | zero => exact h.elim
    | succ c =>
      replace h := lm_225_59.mp h
      rw [show m 132 0 = n from (fr 132 0 (by omega)).trans e3, show m 117 t = N t from (fr 117 t (by omega)).trans s1, dw (z := 20 * n) (by omega) (by omega), dw (z := N t + n) (by omega) (by omega)] at h
      obtain ⟨-, h⟩ := h
      rcases h with ⟨-, -, -, -, m1, e1, v2, m2, hd, m4, e4, -, ev, em⟩ | ⟨c1, -⟩
      · refine ⟨m1, v2, m2, m4, fun k i y1 y2 => ?_, ⟨fun b b0 b1 => ?_, fun b k d b0 b1 k0 k1 d0 d1 => ?_⟩, hd, e4, ev, em⟩
        · rw [e1]
          exact (if_neg y2).trans (fr k i y1)
        · unfold ru_N
          rw [e1]
          by_cases z : b = t
          · rw [z, if_pos rfl, dc_up_s]; clear hd; omega
          · rw [if_neg z, dc_up_i z, fr 117 b (by clear hd; omega)]; exact hb.1 b b0 b1
        · rw [e1, dc_up_k (by decide)]
          unfold ru_N at k1
          unfold ru_B
          by_cases z : b = t ∧ N t ≤ k ∧ k < N t + n ∧ 0 ≤ d ∧ d < 20
          · rw [if_pos z, z.1]
            have q := hp (20 * (k - N t) + d) (by clear hd; omega) (by clear hd; omega)
            rw [show 20 * (40 * t + N t) + (20 * (k - N t) + d) = 20 * (40 * t + k) + d by clear hd; omega] at q
            exact q
          · rw [if_neg z]
            have kb : k < N b := by
              by_cases y : b = t
              · rw [if_pos y] at k1
                rw [y]
                refine Classical.byContradiction fun w => z ⟨y, ?_, k1, d0, d1⟩
                clear hd; omega
              · rw [if_neg y] at k1; exact k1
            have nb := (hb.1 b b0 b1).2.2
            rw [fr 116 _ (fun w => by
              by_cases y : b = t
              · rw [y] at kb w; clear hd; omega
              · clear hd; omega)]
            exact hb.2 b k d b0 b1 k0 kb d0 d1
      · exfalso; omega
  | succ f ih =>
    intro c l m v m' h hf l0 fr hp
    cases c with
    | zero => exact h.elim
    | succ c =>
      replace h := lm_225_59.mp h
      rw [show m 132 0 = n from (fr 132 0 (by omega)).trans e3, show m 117 t = N t from (fr 117 t (by omega)).trans s1, dw (z := 20 * n) (by omega) (by omega), dw (z := 40 * t) (by omega) (by omega), dw (z := 40 * t + N t) (by omega) (by omega), dw (z := 20 * (40 * t + N t)) (by omega) (by omega), dw (z := 20 * (40 * t + N t) + l) (by omega) (by omega), dw (z := l + 1) (by omega) (by omega), show m 135 l = P l from (fr 135 l (by omega)).trans (hP l l0 (by omega))] at h
      obtain ⟨-, h⟩ := h
      rcases h with ⟨c1, -⟩ | ⟨c1, -, -, -, m1, e1, h⟩
      · exfalso; omega
      · refine ih c (l + 1) m1 v m' h (by clear h; omega) (by clear h; omega) (fun k i y => ?_) (fun i i0 i1 => ?_)
        · rw [e1]
          exact (if_neg (fun z => y ⟨z.1, by clear h; omega, by clear h; omega⟩)).trans (fr k i y)
        · rw [e1]
          by_cases z : i = l
          · rw [z, dc_up_s]
          · rw [dc_up_i (by clear h; omega)]; exact hp i i0 (by clear h; omega)
/-- what a RUN of the reference changes -/
def rl_t (k : Nat) (i : Int) : Prop := (k = 114 ∧ (i = 0 ∨ i = 41 ∨ i = 42 ∨ i = 43 ∨ i = 44)) ∨ k = 116 ∨ k = 117 ∨ (123 ≤ k ∧ k ≤ 129) ∨ mr_s 0 k i ∨ mr_s 1 k i
theorem mr_k_s {k : Nat} {i : Int} (h : mr_k k i) : mr_s 0 k i := by
  unfold mr_k at h
  unfold mr_s
  omega
theorem mr_t_s {k : Nat} {i : Int} (h : mr_t k i) : (k = 114 ∧ i = 43) ∨ (124 ≤ k ∧ k ≤ 129) ∨ mr_s 0 k i := by
  rcases h with h | h | h | h
  · exact Or.inl h
  · exact Or.inr (Or.inl h)
  · exact Or.inr (Or.inr (Or.inl ⟨Or.inl h.1, h.2⟩))
  · exact Or.inr (Or.inr (mr_k_s h))
theorem rl_run {N : Int → Int} {B : Int → Int → Int → Int} (V : ∀ b k c, bx_v (B b k c)) {W : List (Int × Int)} {m : dc_M} (hb : bx_R N B m) (hW : rz_V m 0 W) {x y v : Int} {m' : dc_M} (h : D_225 x y m v m') : ((0 ≤ x ∧ x < 8) ∧ (0 ≤ y ∧ y < 8) ∧ x ≠ y ∧ v = mp_play W (-1) (B x) (N x) (40 - N y) 0 0 ∧ bx_R (ru_N N y (mp_play W (-1) (B x) (N x) (40 - N y) 0 2)) (ru_B N B y (mp_play W (-1) (B x) (N x) (40 - N y) 0 2) (mp_play W (-1) (B x) (N x) (40 - N y) 3)) m' ∧ mr_O 1 m' (mp_play W (-1) (B x) (N x) (40 - N y)) ∧ m' 114 44 = 1 ∧ ∀ (k : Nat) (i : Int), ¬ rl_t k i → m' k i = m k i) ∨ (¬ ((0 ≤ x ∧ x < 8) ∧ (0 ≤ y ∧ y < 8) ∧ x ≠ y) ∧ v = -1 ∧ ∀ (k : Nat) (i : Int), ¬ (k = 114 ∧ i = 0) → m' k i = m k i) := by
  obtain ⟨m0, e0, v1, m1, h1, h⟩ := h
  have f0 : ∀ (k : Nat) (i : Int), ¬ (k = 114 ∧ i = 0) → m0 k i = m k i := fun k i z => by rw [e0]; exact if_neg z
  obtain ⟨e1, q1⟩ := rl_box h1
  clear h1
  rw [e1] at h
  rcases h with ⟨c1, ev, em⟩ | ⟨c1, v2, m2, h2, h⟩
  · rcases q1 with ⟨q1, -⟩ | ⟨-, q1⟩
    · exfalso; omega
    · exact Or.inr ⟨fun z => q1 z.1, ev, by rw [em]; exact f0⟩
  · obtain ⟨e2, q2⟩ := rl_box h2
    clear h2
    rw [e2] at h
    have hx : 0 ≤ x ∧ x < 8 := by
      rcases q1 with ⟨-, q1⟩ | ⟨q1, -⟩
      · exact q1
      · exact absurd q1 c1
    rcases h with ⟨c2, ev, em⟩ | ⟨c2, h⟩
    · rcases q2 with ⟨q2, -⟩ | ⟨-, q2⟩
      · exfalso; omega
      · exact Or.inr ⟨fun z => q2 z.2.1, ev, by rw [em]; exact f0⟩
    · have hy : 0 ≤ y ∧ y < 8 := by
        rcases q2 with ⟨-, q2⟩ | ⟨q2, -⟩
        · exact q2
        · exact absurd q2 c2
      rcases h with ⟨c3, m3, e3, -, v4, m4, h4, -, v5, m5, h5, c, h⟩ | ⟨c3, ev, em⟩
      · have f3 : ∀ (k : Nat) (i : Int), ¬ (k = 114 ∧ (i = 0 ∨ i = 42)) → m3 k i = m k i := fun k i z => by
          rw [e3]
          exact (if_neg (fun w => z ⟨w.1, Or.inr w.2⟩)).trans (f0 k i (fun w => z ⟨w.1, Or.inl w.2⟩))
        have b3 : bx_R N B m3 := hb.cg (fun k i hk => f3 k i (by clear h h4 h5; omega))
        have nx := hb.1 x hx.1 hx.2
        have ny := hb.1 y hy.1 hy.2
        rw [show m3 117 x = N x from (f3 117 x (by clear h h4 h5; omega)).trans nx.1] at h4
        obtain ⟨D4, f4⟩ := rx_load b3 V hx.1 hx.2 (f0 := 0) (left := -1) (Int.le_refl 0) nx.2.1 (by clear h h4 h5; omega) (by clear h h4 h5; omega) h4
        clear h4
        rw [if_pos (by decide)] at D4
        have ed : (fun j c => B x (rx_p 0 (-1) j) c) = B x := by
          funext j c
          have : rx_p 0 (-1) j = j := by unfold rx_p; rw [if_pos (Or.inl (by decide))]; omega
          rw [this]
        rw [ed] at D4
        have F4 : ∀ (k : Nat) (i : Int), ¬ (k = 114 ∧ (i = 0 ∨ i = 41 ∨ i = 42)) → k ≠ 123 → m4 k i = m k i := fun k i z1 z2 => (f4 k i (by clear h h5; omega) z2).trans (f3 k i (by clear h h5; omega))
        have g42 : m4 114 42 = -1 := by rw [f4 114 42 (by decide) (by decide), e3, dc_up_s]
        rw [show m4 117 y = N y from (F4 117 y (by clear h h5; omega) (by decide)).trans ny.1, dw (by clear h h5; omega) (by clear h h5; omega)] at h5
        have V4 : rz_V m4 0 W := ⟨(F4 _ _ (by clear h h5; omega) (by decide)).trans hW.1, hW.2.1, fun i hi => by rw [F4 118 _ (by clear h h5; omega) (by decide), F4 119 _ (by clear h h5; omega) (by decide)]; exact hW.2.2 i hi⟩
        obtain ⟨O5, E5, K5, f5⟩ := r7_play h5 V4 g42 D4 (by clear h h5; omega)
        clear h5
        have F5 : ∀ (k : Nat) (i : Int), ¬ (k = 114 ∧ (i = 0 ∨ i = 41 ∨ i = 42 ∨ i = 43)) → ¬ (123 ≤ k ∧ k ≤ 129) → ¬ mr_s 0 k i → m5 k i = m k i := fun k i z1 z2 z3 => by
          rw [f5 k i (fun w => by
            rcases mr_t_s w with w | w | w
            · exact z1 (by clear h; omega)
            · exact z2 (by clear h; omega)
            · exact z3 w)]
          exact F4 k i (by clear h; omega) (by clear h; omega)
        have b5 : bx_R N B m5 := hb.cg (fun k i hk => F5 k i (by clear h; omega) (by clear h; omega) (by unfold mr_s; clear h; omega))
        obtain ⟨m6, v7, m7, m8, f6, b6, h7, e8, ev, em⟩ := rl_225 (P := mp_play W (-1) (B x) (N x) (40 - N y) 3) (n := mp_play W (-1) (B x) (N x) (40 - N y) 0 2) hy.1 hy.2 b5 (by have := K5.1.2.1; clear h; omega) O5.2.1 O5.2.2.2.2.2.2.2.2.2 (20 * mp_play W (-1) (B x) (N x) (40 - N y) 0 2).toNat c 0 m5 v m' h (by have := K5.1.2.1; clear h; omega) (Int.le_refl 0) (fun _ _ _ => rfl) (fun i i0 i1 => by exfalso; clear h; omega)
        clear h
        have k1 := K5.1.1
        have k2 := K5.1.2.1
        have O6 : mr_0 m6 (mp_play W (-1) (B x) (N x) (40 - N y)) := O5.cg k1.2 (by omega) (fun k i z => f6 k i (by unfold mr_k at z; omega) (by unfold mr_k at z; omega))
        obtain ⟨O7, f7⟩ := rk_223 (Or.inl rfl) O6 ((f6 130 0 (by omega) (by omega)).trans E5) k1.2 (by omega) h7
        clear h7
        have F8 : ∀ (k : Nat) (i : Int), ¬ (k = 114 ∧ i = 44) → m' k i = m7 k i := fun k i z => by rw [em, e8]; exact if_neg z
        refine Or.inl ⟨hx, hy, c3, ?_, b6.cg (fun k i hk => (F8 k i (by omega)).trans (f7 k i (by unfold mr_s; omega))), O7.cg k1.2 (by omega) (fun k i z => F8 k i (by unfold mr_s at z; omega)), by rw [em, e8, dc_up_s], fun k i z => ?_⟩
        · rw [ev, ← em, F8 130 0 (by omega), f7 130 0 (by unfold mr_s; omega), f6 130 0 (by omega) (by omega)]; exact E5
        · unfold rl_t at z
          rw [F8 k i (by omega), f7 k i (fun w => z (Or.inr (Or.inr (Or.inr (Or.inr (Or.inr w)))))), f6 k i (by omega) (by omega)]
          exact F5 k i (by omega) (by omega) (fun w => z (Or.inr (Or.inr (Or.inr (Or.inr (Or.inl w))))))
      · exact Or.inr ⟨fun z => c3 z.2.2, ev, by rw [em]; exact f0⟩
