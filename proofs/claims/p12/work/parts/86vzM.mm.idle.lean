/-! idle, unseen: in both -/
theorem nt_c_su {b : Int → Int} : ∀ (n : Nat) (j : Int), 0 ≤ j → j < nt_c b (n : Int) → ∃ k : Int, 0 ≤ k ∧ k < (n : Int) ∧ b k ≠ 0 ∧ nt_c b k = j := by
  intro n
  induction n with
  | zero => intro j j0 j1; exfalso; rw [show nt_c b ((0 : Nat) : Int) = 0 from rfl] at j1; omega
  | succ n ih =>
    intro j j0 j1
    rw [show ((n + 1 : Nat) : Int) = (n : Int) + 1 by omega] at j1 ⊢
    rw [nt_c_s (by omega)] at j1
    by_cases z : b (n : Int) = 0
    · rw [if_pos z] at j1
      obtain ⟨k, a1, a2, a3⟩ := ih j j0 (by omega)
      exact ⟨k, a1, by omega, a3⟩
    · rw [if_neg z] at j1
      by_cases y : j < nt_c b (n : Int)
      · obtain ⟨k, a1, a2, a3⟩ := ih j j0 y
        exact ⟨k, a1, by omega, a3⟩
      · exact ⟨n, by omega, by omega, z, by omega⟩
/-- whether the OUTCOME is the same, as a mark -/
noncomputable def mm_m (P : Prop) : Int := @ite Int P (Classical.propDecidable P) 1 0
theorem mm_y {P : Prop} (h : P) : mm_m P ≠ 0 := by unfold mm_m; rw [if_pos h]; decide
theorem mm_n {P : Prop} (h : ¬ P) : mm_m P = 0 := if_neg h
/-- WIRE w is IDLE -/
noncomputable def mm_b (W : List (Int × Int)) (dk : Int → Int → Int) (n w : Int) : Int := mm_m (mp_lk (mp_play W w dk n 40) (mp_play W (-1) dk n 40))
def cm_t (k : Nat) (i : Int) : Prop := (k = 3 ∧ i = 4) ∨ k = 7 ∨ (16 ≤ k ∧ k ≤ 28) ∨ (30 ≤ k ∧ k ≤ 39) ∨ (k = 29 ∧ (i = 6 ∨ i = 11)) ∨ k = 42 ∨ k = 44
def cm_ti (k : Nat) (i : Int) : Prop := (k = 3 ∧ i = 4) ∨ k = 7 ∨ (16 ≤ k ∧ k ≤ 28) ∨ (30 ≤ k ∧ k ≤ 39) ∨ (k = 29 ∧ i = 6) ∨ k = 42
theorem cm_idl {W : List (Int × Int)} {dk : Int → Int → Int} {n : Int} {k0 : Nat} {x0 : Int} (hk : 45 < k0) {m0 : dc_M} (hW : cz_W m0 k0 W) (D : cg_D dk n m0) {C0 : Int} (hC : C0 + 20000 ≤ 1800000000) (O : co_0 30 m0 (mp_play W (-1) dk n 40)) : ∀ (f c : Nat) (l : Int) (m : dc_M) (v : Int) (m' : dc_M), LM_132 k0 x0 c 20 l m v m' → (W.length : Int) - l = (f : Int) → 0 ≤ l → (∀ (k : Nat) (i : Int), ¬ ck_t k i → ¬ (k = 29 ∧ i = 6) → k ≠ 42 → m k i = m0 k i) → ck_S (C0 + 320 * l) m → m 29 6 = nt_c (mm_b W dk n) l → v = nt_c (mm_b W dk n) (W.length : Int) ∧ ck_S (C0 + 20000) m' ∧ ∀ (k : Nat) (i : Int), ¬ ck_t k i → ¬ (k = 29 ∧ i = 6) → k ≠ 42 → m' k i = m0 k i := by
  have h60 := hW.2.1
  have hn := D.2.1
  have K0 := mp_play.K (W := W) (w := -1) (dk := dk) (n := n) (room := 40) hn (by decide)
  intro f
  induction f with
  | zero =>
    intro c l m v m' h hf l0 fr S e6
    have el : l = (W.length : Int) := by omega
    cases c with
    | zero => exact h.elim
    | succ c =>
      replace h := lm_132_20.mp h
      rw [show m k0 2 = (W.length : Int) from (fr k0 2 (by unfold ck_t; omega) (by omega) (by omega)).trans hW.1] at h
      rcases h with ⟨-, ev, em⟩ | ⟨c1, -⟩
      · rw [em, ← el]
        exact ⟨ev.trans e6, S.cg (by omega) (fun _ _ _ => rfl), fr⟩
      · exfalso; omega
  | succ f ih =>
    intro c l m v m' h hf l0 fr S e6
    cases c with
    | zero => exact h.elim
    | succ c =>
      have r := nt_c_r (b := mm_b W dk n) l0
      replace h := lm_132_20.mp h
      rw [show m k0 2 = (W.length : Int) from (fr k0 2 (by unfold ck_t; omega) (by omega) (by omega)).trans hW.1, dw (z := l + 1) (by omega) (by omega)] at h
      rcases h with ⟨c1, -⟩ | ⟨c1, v2, m2, h2, v3, m3, h3, h⟩
      · exfalso; omega
      · have Wm : cz_W m k0 W := hW.gg (fun j i j0 j1 => fr j i (by unfold ck_t; clear h h2 h3; omega) (by clear h h2 h3; omega) (by clear h h2 h3; omega))
        obtain ⟨N2, f2⟩ := ck_plug hk Wm S h2
        clear h2
        have g2 : ∀ (k : Nat) (i : Int), ¬ ck_t k i → ¬ (k = 29 ∧ i = 6) → k ≠ 42 → m2 k i = m0 k i := fun k i y1 y2 y3 => (f2 k i (fun z => y1 (by unfold ck_t; omega))).trans (fr k i y1 y2 y3)
        have D2 : cg_D dk n m2 := D.cg (fun k i hk => g2 k i (by unfold ck_t; clear h h3; omega) (by clear h h3; omega) (by clear h h3; omega))
        have O2 : co_0 30 m2 (mp_play W (-1) dk n 40) := O.cg (fun k i k0 k1 => g2 k i (by unfold ck_t; clear h h3; omega) (by clear h h3; omega) (by clear h h3; omega))
        have K := mp_play.K (W := W) (w := l) (dk := dk) (n := n) (room := 40) hn (by decide)
        obtain ⟨N3, f3, q⟩ := ck_129 D2 (by clear h h3; omega) N2 O2 K0.1.1.1 h3 K.1.2.1
        clear h3
        have g3 : ∀ (k : Nat) (i : Int), ¬ ck_t k i → ¬ (k = 29 ∧ i = 6) → k ≠ 42 → m3 k i = m0 k i := fun k i y1 y2 y3 => (f3 k i y1).trans (g2 k i y1 y2 y3)
        have q6 : m3 29 6 = nt_c (mm_b W dk n) l := by rw [f3 29 6 (by unfold ck_t; omega), f2 29 6 (by omega)]; exact e6
        rcases h with ⟨c2, h⟩ | ⟨c2, -, m4, e4, m5, e5, h⟩
        · have z : mm_b W dk n l = 0 := by
            rcases q with ⟨q, -⟩ | ⟨-, q⟩
            · exfalso; clear h; omega
            · exact mm_n q
          exact ih c (l + 1) m3 v m' h (by clear h; omega) (by clear h; omega) g3 (N3.s.cg (by clear h; omega) (fun _ _ _ => rfl)) (by rw [nt_c_n l0 z]; exact q6)
        · have z : mm_b W dk n l ≠ 0 := by
            rcases q with ⟨-, q⟩ | ⟨q, -⟩
            · exact mm_y q
            · exact absurd q c2
          have q4 : m4 29 6 = nt_c (mm_b W dk n) l := by rw [e4, dc_up_k (by decide)]; exact q6
          rw [q4, dw (by clear h; omega) (by clear h; omega)] at e5
          have f5 : ∀ (k : Nat) (i : Int), ¬ (k = 29 ∧ i = 6) → k ≠ 42 → m5 k i = m3 k i := fun k i y2 y3 => by
            rw [e5]
            refine (if_neg y2).trans ?_
            rw [e4, dc_up_k y3]
          exact ih c (l + 1) m5 v m' h (by clear h; omega) (by clear h; omega) (fun k i y1 y2 y3 => (f5 k i y2 y3).trans (g3 k i y1 y2 y3)) (N3.s.cg (by clear h; omega) (fun k i hk => f5 k i (by clear h; omega) (by clear h; omega))) (by rw [e5, dc_up_s, nt_c_y l0 z])
theorem cm_idle {N : Int → Int} {B : Int → Int → Int → Int} (V : ∀ b k c, bx_v (B b k c)) {W : List (Int × Int)} {C : Int} {m : dc_M} (hb : bx_C N B m) (hk : 45 < (m 0 8).toNat) (hW : cz_W m (m 0 8).toNat W) (hC : C + 21000 ≤ 1800000000) (S : ck_S C m) {x v : Int} {m' : dc_M} (h : D_157 x m v m') : ((0 ≤ x ∧ x < 8) ∧ v = nt_c (mm_b W (B x) (N x)) (W.length : Int) ∧ ck_S (C + 21000) m' ∧ ∀ (k : Nat) (i : Int), ¬ cm_ti k i → m' k i = m k i) ∨ (¬ (0 ≤ x ∧ x < 8) ∧ v = -1 ∧ m' = m) := by
  obtain ⟨v1, m1, h1, h⟩ := h
  obtain ⟨e1, q1⟩ := ck_box h1
  clear h1
  rw [e1] at h
  rcases h with ⟨c1, ev, em⟩ | ⟨c1, v2, m2, h2, ev, em⟩
  · rcases q1 with ⟨q1, -⟩ | ⟨-, q1⟩
    · exfalso; omega
    · exact Or.inr ⟨q1, ev, em⟩
  · have hx : 0 ≤ x ∧ x < 8 := by
      rcases q1 with ⟨-, q1⟩ | ⟨q1, -⟩
      · exact q1
      · exact absurd q1 c1
    obtain ⟨v3, m3, h3, v4, m4, h4, m5, e5, c, h⟩ := h2
    obtain ⟨D3, f3⟩ := bx_23 hb V hx.1 hx.2 h3
    clear h3
    have W3 : cz_W m3 (m 0 8).toNat W := hW.gg (fun j i j0 j1 => f3 j i (by clear h h4; omega) (by clear h h4; omega))
    obtain ⟨N4, f4, O4, -⟩ := ck_128 hk W3 D3 (by clear h h4; omega) (S.cg (Int.le_refl C) (fun j i hj => f3 j i (by clear h h4; omega) (by clear h h4; omega))) h4
    clear h4
    have f5 : ∀ (k : Nat) (i : Int), ¬ (k = 29 ∧ i = 6) → m5 k i = m4 k i := fun k i y => by rw [e5]; exact if_neg y
    obtain ⟨r1, r2, r3⟩ := cm_idl (C0 := C + 320) hk (W3.gg (fun j i j0 j1 => (f5 j i (by clear h; omega)).trans (f4 j i (by clear h; omega)))) (D3.cg (fun k i hk => (f5 k i (by clear h; omega)).trans (f4 k i (by clear h; omega)))) (by clear h; omega) (O4.cg (fun k i k0 k1 => f5 k i (by clear h; omega))) W.length c 0 m5 v2 m2 h (by clear h; omega) (Int.le_refl 0) (fun _ _ _ _ _ => rfl) (N4.s.cg (by clear h; omega) (fun k i hk => f5 k i (by clear h; omega))) (by rw [e5, dc_up_s]; rfl)
    clear h
    rw [em]
    refine Or.inl ⟨hx, ev.trans r1, r2.cg (by omega) (fun _ _ _ => rfl), fun k i y => ?_⟩
    unfold cm_ti at y
    rw [r3 k i (fun z => y (by unfold ck_t at z; omega)) (by omega) (by omega), f5 k i (by omega), f4 k i (by omega)]
    exact f3 k i (by omega) (by omega)
/-- CARD k is UNSEEN -/
noncomputable def mm_u (W : List (Int × Int)) (B : Int → Int → Int) (n k : Int) : Int := mm_m (mp_lk (mp_play W (-1) (bx_w B (k + 1)) (n - 1) 40) (mp_play W (-1) B n 40))
/-- the places of those marked -/
def mm_l (b : Int → Int) (n : Int) (a : Int → Int) : Prop := ∀ k, 0 ≤ k → k < n → b k ≠ 0 → a (nt_c b k) = k
theorem mm_l.e {b : Int → Int} {n : Int} {a a2 : Int → Int} (h : mm_l b n a) (g : mm_l b n a2) (hn : 0 ≤ n) : ∀ j, 0 ≤ j → j < nt_c b n → a j = a2 j := fun j j0 j1 => by
  obtain ⟨k, k0, k1, k2, k3⟩ := nt_c_su (b := b) n.toNat j j0 (by rw [show ((n.toNat : Nat) : Int) = n by omega]; exact j1)
  rw [← k3, h k k0 (by omega) k2, g k k0 (by omega) k2]
theorem mm_l.s {b : Int → Int} {l : Int} {m : dc_M} {q : Nat} (h : mm_l b l (m q)) (l0 : 0 ≤ l) (z : b l ≠ 0) {m2 : dc_M} (e : m2 = dc_up m q (nt_c b l) l) : mm_l b (l + 1) (m2 q) := fun k k0 k1 k2 => by
  rw [e]
  by_cases y : k = l
  · rw [y, dc_up_s]
  · have s := nt_c_le (b := b) (h := k + 1) (k := l) (by omega) (by omega)
    have s2 := nt_c_y (b := b) k0 k2
    rw [dc_up_i (by omega)]
    exact h k k0 (by omega) k2
theorem mm_l.n {b : Int → Int} {l : Int} {a : Int → Int} (h : mm_l b l a) (z : b l = 0) : mm_l b (l + 1) a := fun k k0 k1 k2 => by
  by_cases y : k = l
  · rw [y] at k2; exact absurd z k2
  · exact h k k0 (by omega) k2
theorem cm_unl {W : List (Int × Int)} {N : Int → Int} {B : Int → Int → Int → Int} (V : ∀ b k c, bx_v (B b k c)) {k0 : Nat} {x : Int} (hx : 0 ≤ x ∧ x < 8) {m0 : dc_M} (hb : bx_C N B m0) {C0 : Int} (hC : C0 + 20000 ≤ 1800000000) (O : co_0 30 m0 (mp_play W (-1) (B x) (N x) 40)) : ∀ (f c : Nat) (l : Int) (m : dc_M) (v : Int) (m' : dc_M), LM_138 k0 x c 20 l m v m' → N x - 1 - l ≤ (f : Int) → 0 ≤ l → (l = 0 ∨ l ≤ N x - 1) → (∀ (k : Nat) (i : Int), ¬ ck_t k i → ¬ (k = 29 ∧ i = 11) → ¬ (k = 3 ∧ i = 4) → k ≠ 7 → k ≠ 44 → m k i = m0 k i) → ch_N W (-1) (C0 + 320 * l) m → m 29 11 = nt_c (mm_u W (B x) (N x)) l → mm_l (mm_u W (B x) (N x)) l (m 44) → ∃ r, (r = if N x ≤ 1 then 0 else N x - 1) ∧ v = nt_c (mm_u W (B x) (N x)) r ∧ m' 29 11 = nt_c (mm_u W (B x) (N x)) r ∧ mm_l (mm_u W (B x) (N x)) r (m' 44) ∧ ck_S (C0 + 20000) m' ∧ ∀ (k : Nat) (i : Int), ¬ ck_t k i → ¬ (k = 29 ∧ i = 11) → ¬ (k = 3 ∧ i = 4) → k ≠ 7 → k ≠ 44 → m' k i = m0 k i := by
  obtain ⟨nx, n0, n1⟩ := hb.1 x hx.1 hx.2
  have K0 := mp_play.K (W := W) (w := -1) (dk := B x) (n := N x) (room := 40) ⟨n0, n1⟩ (by decide)
  intro f
  induction f with
  | zero =>
    intro c l m v m' h hf l0 lo fr NN e11 hl
    cases c with
    | zero => exact h.elim
    | succ c =>
      replace h := lm_138_20.mp h
      rw [show m 6 x = N x from (fr 6 x (by unfold ck_t; clear h; omega) (by clear h; omega) (by clear h; omega) (by clear h; omega) (by clear h; omega)).trans nx, dw (z := l + 1) (by clear h; omega) (by clear h; omega)] at h
      obtain ⟨-, h⟩ := h
      rcases h with ⟨-, ev, em⟩ | ⟨c1, -⟩
      · rw [em]
        refine ⟨l, ?_, ev.trans e11, e11, hl, NN.s.cg (by omega) (fun _ _ _ => rfl), fr⟩
        split <;> omega
      · exfalso; omega
  | succ f ih =>
    intro c l m v m' h hf l0 lo fr NN e11 hl
    cases c with
    | zero => exact h.elim
    | succ c =>
      replace h := lm_138_20.mp h
      rw [show m 6 x = N x from (fr 6 x (by unfold ck_t; clear h; omega) (by clear h; omega) (by clear h; omega) (by clear h; omega) (by clear h; omega)).trans nx, dw (z := l + 1) (by clear h; omega) (by clear h; omega)] at h
      obtain ⟨-, h⟩ := h
      have r := nt_c_r (b := mm_u W (B x) (N x)) l0
      rcases h with ⟨c1, ev, em⟩ | ⟨c1, v2, m2, h2, v3, m3, h3, h⟩
      · rw [em]
        refine ⟨l, ?_, ev.trans e11, e11, hl, NN.s.cg (by omega) (fun _ _ _ => rfl), fr⟩
        split <;> omega
      · have bm : bx_C N B m := hb.cg (fun k i hk => fr k i (by unfold ck_t; clear h h2 h3; omega) (by clear h h2 h3; omega) (by clear h h2 h3; omega) (by clear h h2 h3; omega) (by clear h h2 h3; omega))
        obtain ⟨D2, f2⟩ := bx_25 bm V hx.1 hx.2 (left := l + 1) (by clear h h2 h3; omega) (by clear h h2 h3; omega) h2
        clear h2
        obtain ⟨n1', n2', n3', n4'⟩ := NN
        have N2 : ch_N W (-1) (C0 + 320 * l) m2 := ⟨n1'.cg (fun k i hk => f2 k i (by clear h h3; omega) (by clear h h3; omega)), n2'.cg (fun k i hk => f2 k i (by clear h h3; omega) (by clear h h3; omega)), by rw [f2 16 7 (by decide) (by decide)]; exact n3', fun i i0 i1 => by rw [f2 16 7 (by decide) (by decide), f2 26 i (by clear h h3; omega) (by clear h h3; omega)]; exact n4' i i0 i1⟩
        have O2 : co_0 30 m2 (mp_play W (-1) (B x) (N x) 40) := O.cg (fun k i k0 k1 => (f2 k i (by clear h h3; omega) (by clear h h3; omega)).trans (fr k i (by unfold ck_t; clear h h3; omega) (by clear h h3; omega) (by clear h h3; omega) (by clear h h3; omega) (by clear h h3; omega)))
        have K := mp_play.K (W := W) (w := -1) (dk := bx_w (B x) (l + 1)) (n := N x - 1) (room := 40) (by clear h h3; omega) (by decide)
        obtain ⟨N3, f3, q⟩ := ck_129 D2 (by clear h h3; omega) N2 O2 K0.1.1.1 h3 K.1.2.1
        clear h3
        have g3 : ∀ (k : Nat) (i : Int), ¬ ck_t k i → ¬ (k = 29 ∧ i = 11) → ¬ (k = 3 ∧ i = 4) → k ≠ 7 → k ≠ 44 → m3 k i = m0 k i := fun k i y1 y2 y3 y4 y5 => (f3 k i y1).trans ((f2 k i y3 y4).trans (fr k i y1 y2 y3 y4 y5))
        have q11 : m3 29 11 = nt_c (mm_u W (B x) (N x)) l := by rw [f3 29 11 (by unfold ck_t; omega), f2 29 11 (by omega) (by omega)]; exact e11
        have q44 : m3 44 = m 44 := funext fun i => (f3 44 i (by unfold ck_t; omega)).trans (f2 44 i (by omega) (by omega))
        rcases h with ⟨c2, h⟩ | ⟨c2, -, m4, e4, m5, e5, h⟩
        · have z : mm_u W (B x) (N x) l = 0 := by
            rcases q with ⟨q, -⟩ | ⟨-, q⟩
            · exfalso; clear h; omega
            · exact mm_n q
          exact ih c (l + 1) m3 v m' h (by clear h; omega) (by clear h; omega) (Or.inr (by clear h; omega)) g3 ⟨N3.1, N3.2.1, ⟨N3.2.2.1.1, by have := N3.2.2.1.2; clear h; omega⟩, N3.2.2.2⟩ (by rw [nt_c_n l0 z]; exact q11) (by rw [q44]; exact hl.n z)
        · have z : mm_u W (B x) (N x) l ≠ 0 := by
            rcases q with ⟨-, q⟩ | ⟨q, -⟩
            · exact mm_y q
            · exact absurd q c2
          rw [q11] at e4
          have q4 : m4 29 11 = nt_c (mm_u W (B x) (N x)) l := by rw [e4, dc_up_k (by decide)]; exact q11
          rw [q4, dw (by clear h; omega) (by clear h; omega)] at e5
          have f5 : ∀ (k : Nat) (i : Int), ¬ (k = 29 ∧ i = 11) → k ≠ 44 → m5 k i = m3 k i := fun k i y2 y3 => by
            rw [e5]
            refine (if_neg y2).trans ?_
            rw [e4, dc_up_k y3]
          have l4 : mm_l (mm_u W (B x) (N x)) (l + 1) (m4 44) := mm_l.s (m := m3) (by rw [q44]; exact hl) l0 z e4
          refine ih c (l + 1) m5 v m' h (by clear h; omega) (by clear h; omega) (Or.inr (by clear h; omega)) (fun k i y1 y2 y3 y4 y5 => (f5 k i y2 y5).trans (g3 k i y1 y2 y3 y4 y5)) ⟨N3.1.cg (fun k i hk => f5 k i (by clear h; omega) (by clear h; omega)), N3.2.1.cg (fun k i hk => f5 k i (by clear h; omega) (by clear h; omega)), by rw [f5 16 7 (by decide) (by decide)]; exact ⟨N3.2.2.1.1, by have := N3.2.2.1.2; clear h; omega⟩, fun i i0 i1 => by rw [f5 16 7 (by decide) (by decide), f5 26 i (by clear h; omega) (by clear h; omega)]; exact N3.2.2.2 i i0 i1⟩ (by rw [e5, dc_up_s, nt_c_y l0 z]) ?_
          rw [show m5 44 = m4 44 from funext fun i => by rw [e5, dc_up_k (by decide)]]
          exact l4
theorem cm_uns {N : Int → Int} {B : Int → Int → Int → Int} (V : ∀ b k c, bx_v (B b k c)) {W : List (Int × Int)} {C : Int} {m : dc_M} (hb : bx_C N B m) (hk : 45 < (m 0 8).toNat) (hW : cz_W m (m 0 8).toNat W) (hC : C + 21000 ≤ 1800000000) (S : ck_S C m) {x v : Int} {m' : dc_M} (h : D_172 x m v m') : ((0 ≤ x ∧ x < 8) ∧ ∃ r, (r = if N x ≤ 1 then 0 else N x - 1) ∧ v = nt_c (mm_u W (B x) (N x)) r ∧ m' 29 11 = nt_c (mm_u W (B x) (N x)) r ∧ mm_l (mm_u W (B x) (N x)) r (m' 44) ∧ ck_S (C + 21000) m' ∧ ∀ (k : Nat) (i : Int), ¬ cm_t k i → m' k i = m k i) ∨ (¬ (0 ≤ x ∧ x < 8) ∧ v = -1 ∧ m' = m) := by
  obtain ⟨v1, m1, h1, h⟩ := h
  obtain ⟨e1, q1⟩ := ck_box h1
  clear h1
  rw [e1] at h
  rcases h with ⟨c1, ev, em⟩ | ⟨c1, v2, m2, h2, ev, em⟩
  · rcases q1 with ⟨q1, -⟩ | ⟨-, q1⟩
    · exfalso; omega
    · exact Or.inr ⟨q1, ev, em⟩
  · have hx : 0 ≤ x ∧ x < 8 := by
      rcases q1 with ⟨-, q1⟩ | ⟨q1, -⟩
      · exact q1
      · exact absurd q1 c1
    obtain ⟨v3, m3, h3, v4, m4, h4, m5, e5, c, h⟩ := h2
    obtain ⟨D3, f3⟩ := bx_23 hb V hx.1 hx.2 h3
    clear h3
    have W3 : cz_W m3 (m 0 8).toNat W := hW.gg (fun j i j0 j1 => f3 j i (by clear h h4; omega) (by clear h h4; omega))
    obtain ⟨N4, f4, O4, -⟩ := ck_128 hk W3 D3 (by clear h h4; omega) (S.cg (Int.le_refl C) (fun j i hj => f3 j i (by clear h h4; omega) (by clear h h4; omega))) h4
    clear h4
    have f5 : ∀ (k : Nat) (i : Int), ¬ (k = 29 ∧ i = 11) → m5 k i = m4 k i := fun k i y => by rw [e5]; exact if_neg y
    have nx := hb.1 x hx.1 hx.2
    obtain ⟨r, r0, r1, r2, r3, r4, r5⟩ := cm_unl (C0 := C + 320) (W := W) V hx (m0 := m5) (hb.cg (fun k i hk => (f5 k i (by clear h; omega)).trans ((f4 k i (by clear h; omega)).trans (f3 k i (by clear h; omega) (by clear h; omega))))) (by clear h; omega) (O4.cg (fun k i k0 k1 => f5 k i (by clear h; omega))) 40 c 0 m5 v2 m2 h (by clear h; omega) (Int.le_refl 0) (Or.inl rfl) (fun _ _ _ _ _ _ _ => rfl) ⟨N4.1.cg (fun k i hk => f5 k i (by clear h; omega)), N4.2.1.cg (fun k i hk => f5 k i (by clear h; omega)), by rw [f5 16 7 (by decide)]; exact ⟨N4.2.2.1.1, by have := N4.2.2.1.2; clear h; omega⟩, fun i i0 i1 => by rw [f5 16 7 (by decide), f5 26 i (by clear h; omega)]; exact N4.2.2.2 i i0 i1⟩ (by rw [e5, dc_up_s]; rfl) (fun k k0 k1 => by exfalso; clear h; omega)
    clear h
    rw [em]
    refine Or.inl ⟨hx, r, r0, ev.trans r1, r2, r3, r4.cg (by omega) (fun _ _ _ => rfl), fun k i y => ?_⟩
    unfold cm_t at y
    rw [r5 k i (fun z => y (by unfold ck_t at z; omega)) (by omega) (by omega) (by omega) (by omega), f5 k i (by omega), f4 k i (by omega)]
    exact f3 k i (by omega) (by omega)
/-! the reference's -/
def rm_t (k : Nat) (i : Int) : Prop := (k = 114 ∧ (i = 42 ∨ i = 43)) ∨ (124 ≤ k ∧ k ≤ 129) ∨ mr_s 0 k i
theorem rm_V {m m2 : dc_M} {W : List (Int × Int)} (h : rz_V m 0 W) (f : ∀ (k : Nat) (i : Int), (k = 118 ∨ k = 119 ∨ k = 120) → m2 k i = m k i) : rz_V m2 0 W := ⟨(f _ _ (by omega)).trans h.1, h.2.1, fun i hi => by rw [f 118 _ (by omega), f 119 _ (by omega)]; exact h.2.2 i hi⟩
/-- the RUN that a question opens with, kept as the second -/
theorem rm_first {N : Int → Int} {B : Int → Int → Int → Int} (V : ∀ b k c, bx_v (B b k c)) {W : List (Int × Int)} {m : dc_M} (hb : bx_R N B m) (hW : rz_V m 0 W) {x : Int} (hx : 0 ≤ x ∧ x < 8) (e42 : m 114 42 = -1) {f0 n left : Int} (p0 : 0 ≤ f0) (pn : 0 ≤ n) (p1 : f0 + n ≤ N x) (hl : left < f0) {v2 v3 v4 : Int} {m2 m3 m4 : dc_M} (h2 : D_210 x f0 n left m v2 m2) (h3 : D_217 40 m2 v3 m3) (h4 : D_223 2 m3 v4 m4) : r5_D (fun j c => B x (f0 + j) c) n m4 ∧ mr_O 2 m4 (mp_play W (-1) (fun j c => B x (f0 + j) c) n 40) ∧ ∀ (k : Nat) (i : Int), ¬ rm_t k i → ¬ (k = 114 ∧ i = 41) → k ≠ 123 → ¬ mr_s 2 k i → m4 k i = m k i := by
  obtain ⟨D2, f2⟩ := rx_load hb V hx.1 hx.2 p0 pn p1 (by omega) h2
  clear h2
  rw [if_pos hl] at D2
  have ed : (fun j c => B x (rx_p f0 left j) c) = fun j c => B x (f0 + j) c := by
    funext j c
    have : rx_p f0 left j = f0 + j := by unfold rx_p; rw [if_pos (Or.inl hl)]
    rw [this]
  rw [ed] at D2
  have V2 : rz_V m2 0 W := rm_V hW (fun k i hk => f2 k i (by clear h3 h4; omega) (by clear h3 h4; omega))
  obtain ⟨O3, E3, K3, f3⟩ := r7_play h3 V2 ((f2 114 42 (by decide) (by decide)).trans e42) D2 (by decide)
  clear h3
  have k1 := K3.1.1
  have k2 := K3.1.2.1
  obtain ⟨O4, f4⟩ := rk_223 (Or.inr rfl) O3 E3 k1.2 (by clear h4; omega) h4
  clear h4
  have g3 : ∀ (k : Nat) (i : Int), ¬ ((k = 114 ∧ i = 43) ∨ (124 ≤ k ∧ k ≤ 129) ∨ mr_s 0 k i) → m3 k i = m2 k i := fun k i z => f3 k i (fun w => z (mr_t_s w))
  refine ⟨D2.cg ?_ ?_, O4, fun k i z1 z2 z3 z4 => ?_⟩
  · rw [f4 114 41 (by unfold mr_s; omega), g3 114 41 (by unfold mr_s; omega)]
  · exact fun i => by rw [f4 123 i (by unfold mr_s; omega), g3 123 i (by unfold mr_s; omega)]
  · rw [f4 k i z4, g3 k i (fun w => z1 (by
      rcases w with w | w | w
      · exact Or.inl ⟨w.1, Or.inr w.2⟩
      · exact Or.inr (Or.inl w)
      · exact Or.inr (Or.inr w)))]
    exact f2 k i z2 z3
theorem rm_idl {W : List (Int × Int)} {dk : Int → Int → Int} {n x0 : Int} {m0 : dc_M} (hV : rz_V m0 0 W) (D : r5_D dk n m0) (O : mr_O 2 m0 (mp_play W (-1) dk n 40)) : ∀ (f c : Nat) (l : Int) (m : dc_M) (v : Int) (m' : dc_M), LM_235 x0 c 50 l m v m' → (W.length : Int) - l = (f : Int) → 0 ≤ l → (∀ (k : Nat) (i : Int), ¬ rm_t k i → ¬ (k = 114 ∧ i = 53) → k ≠ 143 → m k i = m0 k i) → m 114 53 = nt_c (mm_b W dk n) l → v = nt_c (mm_b W dk n) (W.length : Int) ∧ ∀ (k : Nat) (i : Int), ¬ rm_t k i → ¬ (k = 114 ∧ i = 53) → k ≠ 143 → m' k i = m0 k i := by
  have h60 := hV.2.1
  have K0 := mp_play.K (W := W) (w := -1) (dk := dk) (n := n) (room := 40) D.2.1 (by decide)
  intro f
  induction f with
  | zero =>
    intro c l m v m' h hf l0 fr e6
    have el : l = (W.length : Int) := by omega
    cases c with
    | zero => exact h.elim
    | succ c =>
      replace h := lm_235_50.mp h
      have e120 : m 120 0 = (W.length : Int) := (fr 120 0 (by unfold rm_t mr_s; omega) (by omega) (by omega)).trans hV.1
      rw [e120] at h
      obtain ⟨-, h⟩ := h
      rcases h with ⟨-, m2, e2, ev, em⟩ | ⟨c1, -⟩
      · have f2 : ∀ (k : Nat) (i : Int), ¬ (k = 114 ∧ i = 42) → m' k i = m k i := fun k i z => by rw [em, e2]; exact if_neg z
        refine ⟨?_, fun k i z1 z2 z3 => (f2 k i (fun w => z1 (by unfold rm_t; omega))).trans (fr k i z1 z2 z3)⟩
        rw [ev, ← em, f2 114 53 (by omega), e6, el]
      · exfalso; omega
  | succ f ih =>
    intro c l m v m' h hf l0 fr e6
    cases c with
    | zero => exact h.elim
    | succ c =>
      have r := nt_c_r (b := mm_b W dk n) l0
      replace h := lm_235_50.mp h
      have e120 : m 120 0 = (W.length : Int) := (fr 120 0 (by unfold rm_t mr_s; omega) (by omega) (by omega)).trans hV.1
      rw [e120, dw (z := l + 1) (by omega) (by omega)] at h
      obtain ⟨-, h⟩ := h
      rcases h with ⟨c1, -⟩ | ⟨c1, m2, e2, v3, m3, h3, v4, m4, h4, h⟩
      · exfalso; omega
      · have f2 : ∀ (k : Nat) (i : Int), ¬ (k = 114 ∧ i = 42) → m2 k i = m k i := fun k i z => by rw [e2]; exact if_neg z
        have g2 : ∀ (k : Nat) (i : Int), ¬ rm_t k i → ¬ (k = 114 ∧ i = 53) → k ≠ 143 → m2 k i = m0 k i := fun k i z1 z2 z3 => (f2 k i (fun w => z1 (by unfold rm_t; omega))).trans (fr k i z1 z2 z3)
        have V2 : rz_V m2 0 W := rm_V hV (fun k i hk => g2 k i (by unfold rm_t mr_s; clear h h3 h4; omega) (by clear h h3 h4; omega) (by clear h h3 h4; omega))
        have D2 : r5_D dk n m2 := D.cg (g2 114 41 (by unfold rm_t mr_s; clear h h3 h4; omega) (by decide) (by decide)) (fun i => g2 123 i (by unfold rm_t mr_s; clear h h3 h4; omega) (by omega) (by omega))
        obtain ⟨O3, E3, K3, f3⟩ := r7_play h3 V2 (by rw [e2, dc_up_s]) D2 (by decide)
        clear h3
        have k1 := K3.1.1
        have k2 := K3.1.2.1
        have g3 : ∀ (k : Nat) (i : Int), ¬ rm_t k i → ¬ (k = 114 ∧ i = 53) → k ≠ 143 → m3 k i = m0 k i := fun k i z1 z2 z3 => by
          rw [f3 k i (fun w => z1 (by
            have w := mr_t_s w
            unfold rm_t
            rcases w with w | w | w
            · exact Or.inl ⟨w.1, Or.inr w.2⟩
            · exact Or.inr (Or.inl w)
            · exact Or.inr (Or.inr w)))]
          exact g2 k i z1 z2 z3
        have O2 : mr_O 2 m3 (mp_play W (-1) dk n 40) := O.cg K0.1.1.2 (by have := K0.1.2.1; clear h h4; omega) (fun k i z => g3 k i (by unfold mr_s at z; unfold rm_t mr_s; clear h h4; omega) (by unfold mr_s at z; clear h h4; omega) (by unfold mr_s at z; clear h h4; omega))
        obtain ⟨e4, q⟩ := rk_224 O3 E3 O2 k1 k2 h4
        clear h4
        have q6 : m3 114 53 = nt_c (mm_b W dk n) l := by
          rw [f3 114 53 (fun w => by
            have w := mr_t_s w
            unfold mr_s at w
            clear h
            omega), f2 114 53 (by omega)]
          exact e6
        rw [e4] at h
        rcases h with ⟨c2, -, m5, e5, m6, e6', h⟩ | ⟨c2, h⟩
        · have z : mm_b W dk n l ≠ 0 := by
            rcases q with ⟨-, q⟩ | ⟨q, -⟩
            · exact mm_y q
            · exact absurd q c2
          have q5 : m5 114 53 = nt_c (mm_b W dk n) l := by rw [e5, dc_up_k (by decide)]; exact q6
          rw [q5, dw (by clear h; omega) (by clear h; omega)] at e6'
          exact ih c (l + 1) m6 v m' h (by clear h; omega) (by clear h; omega) (fun k i z1 z2 z3 => by
            rw [e6']
            refine (if_neg z2).trans ?_
            rw [e5, dc_up_k z3]
            exact g3 k i z1 z2 z3) (by rw [e6', dc_up_s, nt_c_y l0 z])
        · have z : mm_b W dk n l = 0 := by
            rcases q with ⟨q, -⟩ | ⟨-, q⟩
            · exfalso; clear h; omega
            · exact mm_n q
          exact ih c (l + 1) m3 v m' h (by clear h; omega) (by clear h; omega) g3 (by rw [nt_c_n l0 z]; exact q6)
def rm_f (k : Nat) (i : Int) : Prop := (k = 114 ∧ (i = 0 ∨ (41 ≤ i ∧ i ≤ 43) ∨ i = 53 ∨ i = 54)) ∨ (123 ≤ k ∧ k ≤ 129) ∨ mr_s 0 k i ∨ mr_s 2 k i ∨ k = 143 ∨ k = 144
def rm_fi (k : Nat) (i : Int) : Prop := (k = 114 ∧ (i = 0 ∨ (41 ≤ i ∧ i ≤ 43) ∨ i = 53)) ∨ (123 ≤ k ∧ k ≤ 129) ∨ mr_s 0 k i ∨ mr_s 2 k i ∨ k = 143
theorem rm_dk {B : Int → Int → Int → Int} {x : Int} : (fun j c => B x (0 + j) c) = B x := by
  funext j c
  rw [Int.zero_add]
theorem rm_idle {N : Int → Int} {B : Int → Int → Int → Int} (V : ∀ b k c, bx_v (B b k c)) {W : List (Int × Int)} {m : dc_M} (hb : bx_R N B m) (hW : rz_V m 0 W) {x v : Int} {m' : dc_M} (h : D_235 x m v m') : ((0 ≤ x ∧ x < 8) ∧ v = nt_c (mm_b W (B x) (N x)) (W.length : Int) ∧ ∀ (k : Nat) (i : Int), ¬ rm_fi k i → m' k i = m k i) ∨ (¬ (0 ≤ x ∧ x < 8) ∧ v = -1 ∧ ∀ (k : Nat) (i : Int), ¬ (k = 114 ∧ i = 0) → m' k i = m k i) := by
  obtain ⟨m0, e0, v1, m1, h1, h⟩ := h
  have f0 : ∀ (k : Nat) (i : Int), ¬ (k = 114 ∧ i = 0) → m0 k i = m k i := fun k i z => by rw [e0]; exact if_neg z
  obtain ⟨e1, q1⟩ := rl_box h1
  clear h1
  rw [e1] at h
  rcases h with ⟨c1, m2, e2, -, v3, m3, h3, v4, m4, h4, v5, m5, h5, m6, e6, c, h⟩ | ⟨c1, ev, em⟩
  · have hx : 0 ≤ x ∧ x < 8 := by
      rcases q1 with ⟨-, q1⟩ | ⟨q1, -⟩
      · exact q1
      · exact absurd q1 c1
    have f2 : ∀ (k : Nat) (i : Int), ¬ (k = 114 ∧ (i = 0 ∨ i = 42)) → m2 k i = m k i := fun k i z => by
      rw [e2]
      exact (if_neg (fun w => z ⟨w.1, Or.inr w.2⟩)).trans (f0 k i (fun w => z ⟨w.1, Or.inl w.2⟩))
    have b2 : bx_R N B m2 := hb.cg (fun k i hk => f2 k i (by clear h h3 h4 h5; omega))
    have nx := hb.1 x hx.1 hx.2
    rw [show m2 117 x = N x from (f2 117 x (by clear h h3 h4 h5; omega)).trans nx.1] at h3
    obtain ⟨D5, O5, f5⟩ := rm_first V b2 (rm_V hW (fun k i hk => f2 k i (by clear h h3 h4 h5; omega))) hx (by rw [e2, dc_up_s]) (Int.le_refl 0) nx.2.1 (by clear h h3 h4 h5; omega) (by decide) h3 h4 h5
    clear h3 h4 h5
    rw [rm_dk] at D5 O5
    have f6 : ∀ (k : Nat) (i : Int), ¬ (k = 114 ∧ i = 53) → m6 k i = m5 k i := fun k i z => by rw [e6]; exact if_neg z
    have K0 := mp_play.K (W := W) (w := -1) (dk := B x) (n := N x) (room := 40) nx.2 (by decide)
    obtain ⟨r1, r2⟩ := rm_idl (rm_V hW (fun k i hk => (f6 k i (by clear h; omega)).trans ((f5 k i (by unfold rm_t mr_s; clear h; omega) (by clear h; omega) (by clear h; omega) (by unfold mr_s; clear h; omega)).trans (f2 k i (by clear h; omega))))) (D5.cg (f6 114 41 (by decide)) (fun i => f6 123 i (by omega))) (O5.cg K0.1.1.2 (by have := K0.1.2.1; clear h; omega) (fun k i z => f6 k i (by unfold mr_s at z; clear h; omega))) W.length c 0 m6 v m' h (by clear h; omega) (Int.le_refl 0) (fun _ _ _ _ _ => rfl) (by rw [e6, dc_up_s]; rfl)
    clear h
    refine Or.inl ⟨hx, r1, fun k i y => ?_⟩
    unfold rm_fi at y
    have y1 : ¬ rm_t k i := fun w => y (by
      unfold rm_t at w
      rcases w with w | w | w
      · exact Or.inl (by omega)
      · exact Or.inr (Or.inl (by omega))
      · exact Or.inr (Or.inr (Or.inl w)))
    rw [r2 k i y1 (by omega) (by omega), f6 k i (by omega), f5 k i y1 (by omega) (by omega) (fun w => y (Or.inr (Or.inr (Or.inr (Or.inl w)))))]
    exact f2 k i (by omega)
  · rcases q1 with ⟨q1, -⟩ | ⟨-, q1⟩
    · exfalso; omega
    · exact Or.inr ⟨q1, ev, by rw [em]; exact f0⟩
def rm_g (k : Nat) (i : Int) : Prop := (k = 114 ∧ (i = 41 ∨ i = 43 ∨ i = 54)) ∨ (123 ≤ k ∧ k ≤ 129) ∨ mr_s 0 k i ∨ k = 144
theorem rm_unl {N : Int → Int} {B : Int → Int → Int → Int} (V : ∀ b k c, bx_v (B b k c)) {W : List (Int × Int)} {x : Int} (hx : 0 ≤ x ∧ x < 8) {m0 : dc_M} (hb : bx_R N B m0) (hV : rz_V m0 0 W) (e42 : m0 114 42 = -1) (O : mr_O 2 m0 (mp_play W (-1) (B x) (N x) 40)) : ∀ (f c : Nat) (l : Int) (m : dc_M) (v : Int) (m' : dc_M), LM_243 x c 50 l m v m' → N x - 1 - l ≤ (f : Int) → 0 ≤ l → (l = 0 ∨ l ≤ N x - 1) → (∀ (k : Nat) (i : Int), ¬ rm_g k i → m k i = m0 k i) → m 114 54 = nt_c (mm_u W (B x) (N x)) l → mm_l (mm_u W (B x) (N x)) l (m 144) → ∃ r, (r = if N x ≤ 1 then 0 else N x - 1) ∧ v = nt_c (mm_u W (B x) (N x)) r ∧ m' 114 54 = nt_c (mm_u W (B x) (N x)) r ∧ mm_l (mm_u W (B x) (N x)) r (m' 144) ∧ ∀ (k : Nat) (i : Int), ¬ rm_g k i → m' k i = m0 k i := by
  obtain ⟨nx, n0, n1⟩ := hb.1 x hx.1 hx.2
  have K0 := mp_play.K (W := W) (w := -1) (dk := B x) (n := N x) (room := 40) ⟨n0, n1⟩ (by decide)
  intro f
  induction f with
  | zero =>
    intro c l m v m' h hf l0 lo fr e6 hl
    cases c with
    | zero => exact h.elim
    | succ c =>
      replace h := lm_243_50.mp h
      rw [show m 117 x = N x from (fr 117 x (by unfold rm_g mr_s; omega)).trans nx, dw (z := l + 1) (by omega) (by omega)] at h
      obtain ⟨-, h⟩ := h
      rcases h with ⟨-, ev, em⟩ | ⟨c1, -⟩
      · rw [em]
        refine ⟨l, ?_, ev.trans e6, e6, hl, fr⟩
        split <;> omega
      · exfalso; omega
  | succ f ih =>
    intro c l m v m' h hf l0 lo fr e6 hl
    cases c with
    | zero => exact h.elim
    | succ c =>
      replace h := lm_243_50.mp h
      rw [show m 117 x = N x from (fr 117 x (by unfold rm_g mr_s; omega)).trans nx, dw (z := l + 1) (by omega) (by omega)] at h
      obtain ⟨-, h⟩ := h
      have r := nt_c_r (b := mm_u W (B x) (N x)) l0
      rcases h with ⟨c1, ev, em⟩ | ⟨c1, -, v2, m2, h2, v3, m3, h3, v4, m4, h4, h⟩
      · rw [em]
        refine ⟨l, ?_, ev.trans e6, e6, hl, fr⟩
        split <;> omega
      · have bm : bx_R N B m := hb.cg (fun k i hk => fr k i (by unfold rm_g mr_s; clear h h2 h3 h4; omega))
        obtain ⟨D2, f2⟩ := rx_load bm V hx.1 hx.2 (f0 := 0) (n := N x) (left := l + 1) (Int.le_refl 0) n0 (by clear h h2 h3 h4; omega) (by clear h h2 h3 h4; omega) h2
        clear h2
        rw [if_neg (by clear h h3 h4; omega)] at D2
        have ed : (fun j c => B x (rx_p 0 (l + 1) j) c) = bx_w (B x) (l + 1) := by
          funext j c
          unfold bx_w rx_p
          by_cases y : j < l + 1
          · rw [if_pos (Or.inr (by clear h h3 h4; omega)), if_pos y, Int.zero_add]
          · rw [if_neg (by clear h h3 h4; omega), if_neg y, Int.zero_add]
        rw [ed] at D2
        have g2 : ∀ (k : Nat) (i : Int), ¬ rm_g k i → m2 k i = m0 k i := fun k i z => (f2 k i (fun w => z (by unfold rm_g; clear h h3 h4; omega)) (fun w => z (by unfold rm_g; clear h h3 h4; omega))).trans (fr k i z)
        have V2 : rz_V m2 0 W := rm_V hV (fun k i hk => g2 k i (by unfold rm_g mr_s; clear h h3 h4; omega))
        obtain ⟨O3, E3, K3, f3⟩ := r7_play h3 V2 ((g2 114 42 (by unfold rm_g mr_s; clear h h3 h4; omega)).trans e42) D2 (by decide)
        clear h3
        have k1 := K3.1.1
        have k2 := K3.1.2.1
        have g3 : ∀ (k : Nat) (i : Int), ¬ rm_g k i → m3 k i = m0 k i := fun k i z => by
          rw [f3 k i (fun w => z (by
            have w := mr_t_s w
            unfold rm_g
            rcases w with w | w | w
            · exact Or.inl (by clear h h4; omega)
            · exact Or.inr (Or.inl (by clear h h4; omega))
            · exact Or.inr (Or.inr (Or.inl w))))]
          exact g2 k i z
        have O2 : mr_O 2 m3 (mp_play W (-1) (B x) (N x) 40) := O.cg K0.1.1.2 (by have := K0.1.2.1; clear h h4; omega) (fun k i z => g3 k i (by unfold mr_s at z; unfold rm_g mr_s; clear h h4; omega))
        obtain ⟨e4, q⟩ := rk_224 O3 E3 O2 k1 k2 h4
        clear h4
        have y54 : ¬ mr_t 114 54 := fun w => by
          have w := mr_t_s w
          unfold mr_s at w
          clear h
          omega
        have y144 : ∀ i, ¬ mr_t 144 i := fun i w => by
          have w := mr_t_s w
          unfold mr_s at w
          clear h
          omega
        have q6 : m3 114 54 = nt_c (mm_u W (B x) (N x)) l := by rw [f3 114 54 y54, f2 114 54 (by decide) (by decide)]; exact e6
        have q44 : m3 144 = m 144 := funext fun i => (f3 144 i (y144 i)).trans (f2 144 i (by omega) (by omega))
        rw [e4] at h
        rcases h with ⟨c2, -, m5, e5, m6, e6', h⟩ | ⟨c2, h⟩
        · have z : mm_u W (B x) (N x) l ≠ 0 := by
            rcases q with ⟨-, q⟩ | ⟨q, -⟩
            · exact mm_y q
            · exact absurd q c2
          rw [q6] at e5
          have q5 : m5 114 54 = nt_c (mm_u W (B x) (N x)) l := by rw [e5, dc_up_k (by decide)]; exact q6
          rw [q5, dw (by clear h; omega) (by clear h; omega)] at e6'
          have l5 : mm_l (mm_u W (B x) (N x)) (l + 1) (m5 144) := mm_l.s (m := m3) (by rw [q44]; exact hl) l0 z e5
          refine ih c (l + 1) m6 v m' h (by clear h; omega) (by clear h; omega) (Or.inr (by clear h; omega)) (fun k i z => ?_) (by rw [e6', dc_up_s, nt_c_y l0 z]) ?_
          · have z2 := z
            unfold rm_g at z2
            rw [e6']
            refine (if_neg (by clear h; omega)).trans ?_
            rw [e5, dc_up_k (by clear h; omega)]
            exact g3 k i z
          · rw [show m6 144 = m5 144 from funext fun i => by rw [e6', dc_up_k (by decide)]]
            exact l5
        · have z : mm_u W (B x) (N x) l = 0 := by
            rcases q with ⟨q, -⟩ | ⟨-, q⟩
            · exfalso; clear h; omega
            · exact mm_n q
          exact ih c (l + 1) m3 v m' h (by clear h; omega) (by clear h; omega) (Or.inr (by clear h; omega)) g3 (by rw [nt_c_n l0 z]; exact q6) (by rw [q44]; exact hl.n z)
theorem rm_uns {N : Int → Int} {B : Int → Int → Int → Int} (V : ∀ b k c, bx_v (B b k c)) {W : List (Int × Int)} {m : dc_M} (hb : bx_R N B m) (hW : rz_V m 0 W) {x v : Int} {m' : dc_M} (h : D_243 x m v m') : ((0 ≤ x ∧ x < 8) ∧ ∃ r, (r = if N x ≤ 1 then 0 else N x - 1) ∧ v = nt_c (mm_u W (B x) (N x)) r ∧ m' 114 54 = nt_c (mm_u W (B x) (N x)) r ∧ mm_l (mm_u W (B x) (N x)) r (m' 144) ∧ ∀ (k : Nat) (i : Int), ¬ rm_f k i → m' k i = m k i) ∨ (¬ (0 ≤ x ∧ x < 8) ∧ v = -1 ∧ ∀ (k : Nat) (i : Int), ¬ (k = 114 ∧ i = 0) → m' k i = m k i) := by
  obtain ⟨m0, e0, v1, m1, h1, h⟩ := h
  have f0 : ∀ (k : Nat) (i : Int), ¬ (k = 114 ∧ i = 0) → m0 k i = m k i := fun k i z => by rw [e0]; exact if_neg z
  obtain ⟨e1, q1⟩ := rl_box h1
  clear h1
  rw [e1] at h
  rcases h with ⟨c1, m2, e2, -, v3, m3, h3, v4, m4, h4, v5, m5, h5, m6, e6, c, h⟩ | ⟨c1, ev, em⟩
  · have hx : 0 ≤ x ∧ x < 8 := by
      rcases q1 with ⟨-, q1⟩ | ⟨q1, -⟩
      · exact q1
      · exact absurd q1 c1
    have f2 : ∀ (k : Nat) (i : Int), ¬ (k = 114 ∧ (i = 0 ∨ i = 42)) → m2 k i = m k i := fun k i z => by
      rw [e2]
      exact (if_neg (fun w => z ⟨w.1, Or.inr w.2⟩)).trans (f0 k i (fun w => z ⟨w.1, Or.inl w.2⟩))
    have b2 : bx_R N B m2 := hb.cg (fun k i hk => f2 k i (by clear h h3 h4 h5; omega))
    have nx := hb.1 x hx.1 hx.2
    rw [show m2 117 x = N x from (f2 117 x (by clear h h3 h4 h5; omega)).trans nx.1] at h3
    have h3' := h3
    obtain ⟨D5, O5, f5⟩ := rm_first V b2 (rm_V hW (fun k i hk => f2 k i (by clear h h3 h4 h5; omega))) hx (by rw [e2, dc_up_s]) (Int.le_refl 0) nx.2.1 (by clear h h3 h4 h5; omega) (by decide) h3 h4 h5
    have e542 : m5 114 42 = -1 := by
      obtain ⟨D3, g3⟩ := rx_load b2 V hx.1 hx.2 (f0 := 0) (left := -1) (Int.le_refl 0) nx.2.1 (by clear h h3 h4 h5; omega) (by clear h h3 h4 h5; omega) h3'
      obtain ⟨O4, E4, K4, g4⟩ := r7_play h4 (rm_V hW (fun k i hk => (g3 k i (by clear h h3 h4 h5; omega) (by clear h h3 h4 h5; omega)).trans (f2 k i (by clear h h3 h4 h5; omega)))) (by rw [g3 114 42 (by decide) (by decide), e2, dc_up_s]) D3 (by decide)
      have k1 := K4.1.1
      have k2 := K4.1.2.1
      obtain ⟨-, g5⟩ := rk_223 (Or.inr rfl) O4 E4 k1.2 (by clear h h3 h4 h5; omega) h5
      rw [g5 114 42 (by unfold mr_s; omega), g4 114 42 (fun w => by have w := mr_t_s w; unfold mr_s at w; clear h h3 h4 h5; omega), g3 114 42 (by decide) (by decide), e2, dc_up_s]
    clear h3 h4 h5 h3'
    rw [rm_dk] at D5 O5
    have f6 : ∀ (k : Nat) (i : Int), ¬ (k = 114 ∧ i = 54) → m6 k i = m5 k i := fun k i z => by rw [e6]; exact if_neg z
    have K0 := mp_play.K (W := W) (w := -1) (dk := B x) (n := N x) (room := 40) nx.2 (by decide)
    have F6 : ∀ (k : Nat) (i : Int), (116 ≤ k ∧ k ≤ 120) → m6 k i = m k i := fun k i hk => (f6 k i (by clear h; omega)).trans ((f5 k i (by unfold rm_t mr_s; clear h; omega) (by clear h; omega) (by clear h; omega) (by unfold mr_s; clear h; omega)).trans (f2 k i (by clear h; omega)))
    obtain ⟨r, r0, r1, r2, r3, r4⟩ := rm_unl V hx (hb.cg (fun k i hk => F6 k i (by clear h; omega))) (rm_V hW (fun k i hk => F6 k i (by clear h; omega))) ((f6 114 42 (by decide)).trans e542) (O5.cg K0.1.1.2 (by have := K0.1.2.1; clear h; omega) (fun k i z => f6 k i (by unfold mr_s at z; clear h; omega))) 40 c 0 m6 v m' h (by clear h; omega) (Int.le_refl 0) (Or.inl rfl) (fun _ _ _ => rfl) (by rw [e6, dc_up_s]; rfl) (fun k k0 k1 => by exfalso; clear h; omega)
    clear h
    refine Or.inl ⟨hx, r, r0, r1, r2, r3, fun k i y => ?_⟩
    unfold rm_f at y
    have y1 : ¬ rm_t k i := fun w => y (by
      unfold rm_t at w
      rcases w with w | w | w
      · exact Or.inl (by omega)
      · exact Or.inr (Or.inl (by omega))
      · exact Or.inr (Or.inr (Or.inl w)))
    have y2 : ¬ rm_g k i := fun w => y (by
      unfold rm_g at w
      rcases w with w | w | w | w
      · exact Or.inl (by omega)
      · exact Or.inr (Or.inl (by omega))
      · exact Or.inr (Or.inr (Or.inl w))
      · exact Or.inr (Or.inr (Or.inr (Or.inr (Or.inr w)))))
    rw [r4 k i y2, f6 k i (by omega), f5 k i y1 (by omega) (by omega) (fun w => y (Or.inr (Or.inr (Or.inr (Or.inl w)))))]
    exact f2 k i (by omega)
  · rcases q1 with ⟨q1, -⟩ | ⟨-, q1⟩
    · exfalso; omega
    · exact Or.inr ⟨q1, ev, by rw [em]; exact f0⟩
