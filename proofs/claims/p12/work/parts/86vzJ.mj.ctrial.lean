/-! RUNS AGAIN: plugged, dealt, compared -/
theorem ck_box {x : Int} {m : dc_M} {v : Int} {m' : dc_M} (h : D_14 x m v m') : m' = m ∧ ((v = 1 ∧ 0 ≤ x ∧ x < 8) ∨ (v = 0 ∧ ¬ (0 ≤ x ∧ x < 8))) := by
  rcases h with ⟨c, ev, em⟩ | ⟨c, h⟩
  · exact ⟨em, Or.inr ⟨ev, by omega⟩⟩
  · rcases h with ⟨c2, ev, em⟩ | ⟨c2, ev, em⟩
    · exact ⟨em, Or.inr ⟨ev, by omega⟩⟩
    · exact ⟨em, Or.inl ⟨ev, by omega, by omega⟩⟩
/-- stamps -/
def ck_S (C : Int) (m : dc_M) : Prop := (0 ≤ m 16 7 ∧ m 16 7 ≤ C) ∧ ∀ i, 0 ≤ i → i < 60 → m 26 i ≤ m 16 7
theorem ck_S.cg {C D : Int} {m m2 : dc_M} (h : ck_S C m) (hD : C ≤ D) (f : ∀ (k : Nat) (i : Int), ((k = 16 ∧ i = 7) ∨ k = 26) → m2 k i = m k i) : ck_S D m2 := by
  obtain ⟨h1, h2⟩ := h
  refine ⟨by rw [f 16 7 (Or.inl ⟨rfl, rfl⟩)]; omega, fun i i0 i1 => ?_⟩
  rw [f 16 7 (Or.inl ⟨rfl, rfl⟩), f 26 i (Or.inr rfl)]
  exact h2 i i0 i1
theorem ch_N.s {W : List (Int × Int)} {w C : Int} {m : dc_M} (h : ch_N W w C m) : ck_S C m := h.2.2
/-- plug(board, without) -/
theorem ck_plug {k : Nat} {w : Int} {W : List (Int × Int)} {C : Int} {m : dc_M} (hk : 45 < k) (hW : cz_W m k W) (S : ck_S C m) {v : Int} {m' : dc_M} (h : D_46 k w m v m') : ch_N W w C m' ∧ ∀ (j : Nat) (i : Int), ¬ (17 ≤ j ∧ j ≤ 25) → m' j i = m j i := by
  obtain ⟨v1, m1, hb, m2, e2, -, em⟩ := h
  obtain ⟨b1, b2, b3, b4, b5⟩ := c9_build (Or.inr (by omega)) (Or.inr (by omega)) hW hb
  clear hb
  have f2 : ∀ (j : Nat) (i : Int), j ≠ 25 → m' j i = m1 j i := fun j i hj => by
    rw [em, e2]
    exact if_neg (fun y => hj y.1)
  have F : ∀ (j : Nat) (i : Int), ¬ (17 ≤ j ∧ j ≤ 25) → m' j i = m j i := fun j i hj => (f2 j i (by omega)).trans (b5 j i (by omega) (by omega) (by omega) (by omega) (by omega) (by omega))
  have N1 : cb_N W w m1 := ⟨b1, b2, b3, 0, by decide, b4, fun y _ yb => absurd (cc_b0 y) yb⟩
  refine ⟨⟨N1.cg (fun j i hj => f2 j i (by omega)), fun t t0 t1 _ => ?_, S.cg (Int.le_refl C) (fun j i hj => F j i (by omega))⟩, F⟩
  rw [em, e2]
  exact if_pos ⟨rfl, by omega, by omega⟩
/-- OUTCOMES that are the same -/
def mp_lk (F R : dc_M) : Prop := F 0 0 = R 0 0 ∧ F 0 1 = R 0 1 ∧ F 0 2 = R 0 2 ∧ (∀ w, 0 ≤ w → w < 4 → F 2 w = R 2 w) ∧ (∀ i, 0 ≤ i → i < 12 * F 0 1 → F 1 i = R 1 i) ∧ ∀ i, 0 ≤ i → i < 20 * F 0 2 → F 3 i = R 3 i
theorem ck_77l {a b : Nat} {F R : dc_M} {m : dc_M} (A : co_0 a m F) (B : co_0 b m R) (h2 : F 0 2 = R 0 2) (hc : 0 ≤ F 0 2 ∧ F 0 2 ≤ 40) : ∀ c : Nat, (∀ (l v : Int) (m' : dc_M), LM_77 a b c 26 l m v m' → 0 ≤ l → l ≤ 4 → (∀ w, 0 ≤ w → w < l → F 2 w = R 2 w) → m' = m ∧ ((v = 1 ∧ (∀ w, 0 ≤ w → w < 4 → F 2 w = R 2 w) ∧ ∀ i, 0 ≤ i → i < 20 * F 0 2 → F 3 i = R 3 i) ∨ (v = 0 ∧ ¬ ((∀ w, 0 ≤ w → w < 4 → F 2 w = R 2 w) ∧ ∀ i, 0 ≤ i → i < 20 * F 0 2 → F 3 i = R 3 i)))) ∧
    (∀ (l v : Int) (m' : dc_M), LM_77 a b c 56 l m v m' → 0 ≤ l → l ≤ 20 * F 0 2 → (∀ w, 0 ≤ w → w < 4 → F 2 w = R 2 w) → (∀ i, 0 ≤ i → i < l → F 3 i = R 3 i) → m' = m ∧ ((v = 1 ∧ (∀ w, 0 ≤ w → w < 4 → F 2 w = R 2 w) ∧ ∀ i, 0 ≤ i → i < 20 * F 0 2 → F 3 i = R 3 i) ∨ (v = 0 ∧ ¬ ((∀ w, 0 ≤ w → w < 4 → F 2 w = R 2 w) ∧ ∀ i, 0 ≤ i → i < 20 * F 0 2 → F 3 i = R 3 i)))) := by
  obtain ⟨-, A3, -, -, -, -, -, -, Aw, Ap, -⟩ := A
  obtain ⟨-, B3, -, -, -, -, -, -, Bw, Bp, -⟩ := B
  intro c
  induction c with
  | zero => exact ⟨fun _ _ _ h => h.elim, fun _ _ _ h => h.elim⟩
  | succ c ih =>
    obtain ⟨ih1, ih2⟩ := ih
    refine ⟨fun l v m' h l0 l1 hw => ?_, fun l v m' h l0 l1 hw hp => ?_⟩
    · have w1 : dc_w (l + 1) = l + 1 := dw (by omega) (by omega)
      replace h := lm_77_26.mp h
      rw [w1] at h
      rcases h with ⟨c1, h⟩ | ⟨c1, -, -, h⟩
      · exact ih2 0 v m' h (Int.le_refl 0) (by clear h; omega) (fun w w0 w1 => hw w w0 (by clear h; omega)) (fun i i0 i1 => by exfalso; clear h; omega)
      · rw [Aw l l0 (by clear h; omega), Bw l l0 (by clear h; omega)] at h
        rcases h with ⟨c2, h⟩ | ⟨c2, ev, em⟩
        · refine ih1 (l + 1) v m' h (by clear h; omega) (by clear h; omega) (fun w w0 w1 => ?_)
          by_cases z : w = l
          · rw [z]; exact c2
          · exact hw w w0 (by clear h; omega)
        · exact ⟨em, Or.inr ⟨ev, fun y => c2 (y.1 l l0 (by omega))⟩⟩
    · have w1 : dc_w (l + 1) = l + 1 := dw (by omega) (by omega)
      have w2 : dc_w (m a 3 * 20) = 20 * F 0 2 := by rw [A3, dw (by omega) (by omega)]; omega
      replace h := lm_77_56.mp h
      rw [w1, w2] at h
      rcases h with ⟨c1, ev, em⟩ | ⟨c1, -, -, h⟩
      · exact ⟨em, Or.inl ⟨ev, hw, fun i i0 i1 => hp i i0 (by omega)⟩⟩
      · rw [Ap l l0 (by clear h; omega), Bp l l0 (by clear h; omega)] at h
        rcases h with ⟨c2, h⟩ | ⟨c2, ev, em⟩
        · refine ih2 (l + 1) v m' h (by clear h; omega) (by clear h; omega) hw (fun i i0 i1 => ?_)
          by_cases z : i = l
          · rw [z]; exact c2
          · exact hp i i0 (by clear h; omega)
        · exact ⟨em, Or.inr ⟨ev, fun y => c2 (y.2 l l0 (by omega))⟩⟩
/-- endsLike -/
theorem ck_77 {a b : Nat} {F R : dc_M} {m : dc_M} (A : co_0 a m F) (B : co_0 b m R) (hc : 0 ≤ F 0 2 ∧ F 0 2 ≤ 40) (hl : F 0 1 = R 0 1 ∧ ∀ i, 0 ≤ i → i < 12 * F 0 1 → F 1 i = R 1 i) {v : Int} {m' : dc_M} (h : D_77 a b m v m') : m' = m ∧ ((v = 1 ∧ mp_lk F R) ∨ (v = 0 ∧ ¬ mp_lk F R)) := by
  have A4 : m a 4 = F 0 0 := A.2.2.2.2.2.2.2.2.2.2
  have B4 : m b 4 = R 0 0 := B.2.2.2.2.2.2.2.2.2.2
  have A3 : m a 3 = F 0 2 := A.2.1
  have B3 : m b 3 = R 0 2 := B.2.1
  unfold D_77 at h
  rw [A4, B4, A3, B3] at h
  rcases h with ⟨c, ev, em⟩ | ⟨c, h⟩
  · exact ⟨em, Or.inr ⟨ev, fun y => c y.1⟩⟩
  · rcases h with ⟨c2, d, h⟩ | ⟨c2, ev, em⟩
    · obtain ⟨e, q⟩ := (ck_77l A B c2 hc d).1 0 v m' h (Int.le_refl 0) (by decide) (fun w w0 w1 => by exfalso; clear h; omega)
      refine ⟨e, ?_⟩
      rcases q with ⟨q1, q2, q3⟩ | ⟨q1, q2⟩
      · exact Or.inl ⟨q1, Classical.not_not.mp c, hl.1, c2, q2, hl.2, q3⟩
      · exact Or.inr ⟨q1, fun y => q2 ⟨y.2.2.2.1, y.2.2.2.2.2⟩⟩
    · exact ⟨em, Or.inr ⟨ev, fun y => c2 y.2.2.1⟩⟩
/-- what a RUN tried again changes -/
def ck_t (k : Nat) (i : Int) : Prop := (16 ≤ k ∧ k ≤ 28) ∨ (35 ≤ k ∧ k ≤ 39)
/-- endsAsWhole -/
theorem ck_129 {W : List (Int × Int)} {w : Int} {dk : Int → Int → Int} {n : Int} {R m : dc_M} (D : cg_D dk n m) {C : Int} (hC : C + 320 ≤ 1800000000) (N : ch_N W w C m) (B : co_0 30 m R) (hR : 0 ≤ R 0 1) {v : Int} {m' : dc_M} (h : D_129 m v m') (hb : 0 ≤ mp_play W w dk n 40 0 2 ∧ mp_play W w dk n 40 0 2 ≤ 40) : ch_N W w (C + 320) m' ∧ (∀ (k : Nat) (i : Int), ¬ ck_t k i → m' k i = m k i) ∧ ((v = 1 ∧ mp_lk (mp_play W w dk n 40) R) ∨ (v = 0 ∧ ¬ mp_lk (mp_play W w dk n 40) R)) := by
  obtain ⟨v1, m1, hp, h⟩ := h
  have B1 : m 31 1 = R 0 1 := B.1
  obtain ⟨f, N1, q⟩ := ci_perf (o := 35) (z := ((31 : Nat) : Int)) (Or.inr (Or.inr rfl)) (Or.inr ⟨rfl, Or.inl rfl⟩) ⟨by decide, by decide⟩ D (fun _ => by show 0 ≤ m 31 1; rw [B1]; exact hR) hC N hp
  clear hp
  have F : ∀ (k : Nat) (i : Int), ¬ ck_t k i → m1 k i = m k i := fun k i y => f k i (fun z => y (by unfold ch_t at z; unfold ck_t; omega)) (fun z => y (by unfold ck_t; omega))
  have t : ci_t ((31 : Nat) : Int) m (mp_play W w dk n 40) ↔ (mp_play W w dk n 40 0 1 = R 0 1 ∧ ∀ i, 0 ≤ i → i < 12 * mp_play W w dk n 40 0 1 → mp_play W w dk n 40 1 i = R 1 i) := by
    show (mp_play W w dk n 40 0 1 = m 31 1 ∧ ∀ i, 0 ≤ i → i < 12 * mp_play W w dk n 40 0 1 → mp_play W w dk n 40 1 i = m 32 i) ↔ _
    rw [B1]
    refine ⟨fun y => ⟨y.1, fun i i0 i1 => (y.2 i i0 i1).trans (B.2.2.2.2.2.2.2.1 i i0 (by rw [← y.1]; exact i1))⟩, fun y => ⟨y.1, fun i i0 i1 => (y.2 i i0 i1).trans (B.2.2.2.2.2.2.2.1 i i0 (by rw [← y.1]; exact i1)).symm⟩⟩
  rcases q with ⟨q1, -⟩ | ⟨-, q2, q3, q4⟩ | ⟨-, q2, q3⟩
  · exact absurd q1 (by decide)
  · have B2 : co_0 30 m1 R := B.cg (fun k i k0 k1 => F k i (by unfold ck_t; omega))
    rw [q2] at h
    rcases h with ⟨d, -⟩ | ⟨-, v2, m2, hd, h⟩
    · exact absurd d (by decide)
    · obtain ⟨e2, q5⟩ := ck_77 q3 B2 hb (t.mp q4) hd
      clear hd
      rw [e2] at h
      rcases h with ⟨d, ev, em⟩ | ⟨d, ev, em⟩
      · rw [em]
        rcases q5 with ⟨q5, -⟩ | ⟨-, q5⟩
        · exfalso; omega
        · exact ⟨N1, F, Or.inr ⟨ev, q5⟩⟩
      · rw [em]
        rcases q5 with ⟨-, q5⟩ | ⟨q5, -⟩
        · exact ⟨N1, F, Or.inl ⟨ev, q5⟩⟩
        · exact absurd q5 d
  · rw [q2] at h
    rcases h with ⟨-, ev, em⟩ | ⟨d, -⟩
    · rw [em]
      exact ⟨N1, F, Or.inr ⟨ev, fun y => q3 (t.mpr ⟨y.2.1, y.2.2.2.2.1⟩)⟩⟩
    · exact absurd rfl d
/-- performWhole -/
theorem ck_128 {k : Nat} {W : List (Int × Int)} {dk : Int → Int → Int} {n : Int} {m : dc_M} (hk : 45 < k) (hW : cz_W m k W) (D : cg_D dk n m) {C : Int} (hC : C + 320 ≤ 1800000000) (S : ck_S C m) {v : Int} {m' : dc_M} (h : D_128 k m v m') : ch_N W (-1) (C + 320) m' ∧ (∀ (j : Nat) (i : Int), ¬ (16 ≤ j ∧ j ≤ 34 ∧ j ≠ 29) → m' j i = m j i) ∧ co_0 30 m' (mp_play W (-1) dk n 40) ∧ ∀ i, m' 29 i = m 29 i := by
  obtain ⟨v1, m1, h1, v2, m2, h2, -, em⟩ := h
  obtain ⟨N1, f1⟩ := ck_plug hk hW S h1
  clear h1
  obtain ⟨f, N2, q⟩ := ci_perf (o := 30) (z := -1) (Or.inr (Or.inl rfl)) (Or.inl (by decide)) ⟨by decide, by decide⟩ (D.cg (fun j i hj => f1 j i (by clear h2; omega))) (fun y => absurd y (by decide)) hC N1 h2
  clear h2
  rw [em]
  refine ⟨N2, fun j i y => ?_, ?_, fun i => ?_⟩
  · rw [f j i (fun z => by unfold ch_t at z; omega) (fun z => by omega)]
    exact f1 j i (by omega)
  · rcases q with ⟨-, -, q⟩ | ⟨d, -⟩ | ⟨d, -⟩
    · exact q
    · exact absurd d (by decide)
    · exact absurd d (by decide)
  · rw [f 29 i (fun z => by unfold ch_t at z; omega) (fun z => by omega)]
    exact f1 29 i (by omega)
/-- the reference: a RUN kept aside -/
def mr_O (s : Int) (m S : dc_M) : Prop := m 130 s = S 0 0 ∧ m 131 s = S 0 1 ∧ m 132 s = S 0 2 ∧ m 136 s = S 0 3 ∧ m 137 s = S 0 4 ∧ m 138 s = S 0 5 ∧ m 139 s = S 0 6 ∧ m 140 s = S 0 7 ∧ (∀ i, 0 ≤ i → i < 12 * S 0 1 → m 133 (720 * s + i) = S 1 i) ∧ (∀ w, 0 ≤ w → w < 4 → m 134 (4 * s + w) = S 2 w) ∧ ∀ i, 0 ≤ i → i < 20 * S 0 2 → m 135 (800 * s + i) = S 3 i
/-- its cells -/
def mr_s (s : Int) (k : Nat) (i : Int) : Prop := ((k = 130 ∨ k = 131 ∨ k = 132 ∨ (136 ≤ k ∧ k ≤ 140)) ∧ i = s) ∨ (k = 133 ∧ 720 * s ≤ i ∧ i < 720 * s + 720) ∨ (k = 134 ∧ 4 * s ≤ i ∧ i < 4 * s + 4) ∨ (k = 135 ∧ 800 * s ≤ i ∧ i < 800 * s + 800)
theorem mr_O.cg {s : Int} {m m2 S : dc_M} (h : mr_O s m S) (hl : S 0 1 ≤ 60) (hp : S 0 2 ≤ 40) (f : ∀ (k : Nat) (i : Int), mr_s s k i → m2 k i = m k i) : mr_O s m2 S := by
  obtain ⟨h0, h1, h2, h3, h4, h5, h6, h7, h8, h9, h10⟩ := h
  refine ⟨(f _ _ (by unfold mr_s; omega)).trans h0, (f _ _ (by unfold mr_s; omega)).trans h1, (f _ _ (by unfold mr_s; omega)).trans h2, (f _ _ (by unfold mr_s; omega)).trans h3, (f _ _ (by unfold mr_s; omega)).trans h4, (f _ _ (by unfold mr_s; omega)).trans h5, (f _ _ (by unfold mr_s; omega)).trans h6, (f _ _ (by unfold mr_s; omega)).trans h7, fun i i0 i1 => (f _ _ (by unfold mr_s; omega)).trans (h8 i i0 i1), fun i i0 i1 => (f _ _ (by unfold mr_s; omega)).trans (h9 i i0 i1), fun i i0 i1 => (f _ _ (by unfold mr_s; omega)).trans (h10 i i0 i1)⟩
/-- keepRun(to) -/
theorem rk_223l {s : Int} (hs : s = 1 ∨ s = 2) {m0 : dc_M} : ∀ c : Nat, (∀ (l : Int) (m : dc_M) (v : Int) (m' : dc_M), LM_223 s c 98 l m v m' → 0 ≤ l → l ≤ 720 → (∀ (k : Nat) (i : Int), ¬ (k = 133 ∧ 720 * s ≤ i ∧ i < 720 * s + 720) → m k i = m0 k i) → (∀ i, 0 ≤ i → i < l → m 133 (720 * s + i) = m0 133 i) → (∀ (k : Nat) (i : Int), ¬ (k = 133 ∧ 720 * s ≤ i ∧ i < 720 * s + 720) → ¬ (k = 134 ∧ 4 * s ≤ i ∧ i < 4 * s + 4) → ¬ (k = 135 ∧ 800 * s ≤ i ∧ i < 800 * s + 800) → m' k i = m0 k i) ∧ (∀ i, 0 ≤ i → i < 720 → m' 133 (720 * s + i) = m0 133 i) ∧ (∀ i, 0 ≤ i → i < 4 → m' 134 (4 * s + i) = m0 134 i) ∧ ∀ i, 0 ≤ i → i < 800 → m' 135 (800 * s + i) = m0 135 i) ∧
    (∀ (l : Int) (m : dc_M) (v : Int) (m' : dc_M), LM_223 s c 131 l m v m' → 0 ≤ l → l ≤ 4 → (∀ (k : Nat) (i : Int), ¬ (k = 133 ∧ 720 * s ≤ i ∧ i < 720 * s + 720) → ¬ (k = 134 ∧ 4 * s ≤ i ∧ i < 4 * s + 4) → m k i = m0 k i) → (∀ i, 0 ≤ i → i < 720 → m 133 (720 * s + i) = m0 133 i) → (∀ i, 0 ≤ i → i < l → m 134 (4 * s + i) = m0 134 i) → (∀ (k : Nat) (i : Int), ¬ (k = 133 ∧ 720 * s ≤ i ∧ i < 720 * s + 720) → ¬ (k = 134 ∧ 4 * s ≤ i ∧ i < 4 * s + 4) → ¬ (k = 135 ∧ 800 * s ≤ i ∧ i < 800 * s + 800) → m' k i = m0 k i) ∧ (∀ i, 0 ≤ i → i < 720 → m' 133 (720 * s + i) = m0 133 i) ∧ (∀ i, 0 ≤ i → i < 4 → m' 134 (4 * s + i) = m0 134 i) ∧ ∀ i, 0 ≤ i → i < 800 → m' 135 (800 * s + i) = m0 135 i) ∧
    (∀ (l : Int) (m : dc_M) (v : Int) (m' : dc_M), LM_223 s c 160 l m v m' → 0 ≤ l → l ≤ 800 → (∀ (k : Nat) (i : Int), ¬ (k = 133 ∧ 720 * s ≤ i ∧ i < 720 * s + 720) → ¬ (k = 134 ∧ 4 * s ≤ i ∧ i < 4 * s + 4) → ¬ (k = 135 ∧ 800 * s ≤ i ∧ i < 800 * s + 800) → m k i = m0 k i) → (∀ i, 0 ≤ i → i < 720 → m 133 (720 * s + i) = m0 133 i) → (∀ i, 0 ≤ i → i < 4 → m 134 (4 * s + i) = m0 134 i) → (∀ i, 0 ≤ i → i < l → m 135 (800 * s + i) = m0 135 i) → (∀ (k : Nat) (i : Int), ¬ (k = 133 ∧ 720 * s ≤ i ∧ i < 720 * s + 720) → ¬ (k = 134 ∧ 4 * s ≤ i ∧ i < 4 * s + 4) → ¬ (k = 135 ∧ 800 * s ≤ i ∧ i < 800 * s + 800) → m' k i = m0 k i) ∧ (∀ i, 0 ≤ i → i < 720 → m' 133 (720 * s + i) = m0 133 i) ∧ (∀ i, 0 ≤ i → i < 4 → m' 134 (4 * s + i) = m0 134 i) ∧ ∀ i, 0 ≤ i → i < 800 → m' 135 (800 * s + i) = m0 135 i) := by
  intro c
  induction c with
  | zero => exact ⟨fun _ _ _ _ h => h.elim, fun _ _ _ _ h => h.elim, fun _ _ _ _ h => h.elim⟩
  | succ c ih =>
    obtain ⟨ih1, ih2, ih3⟩ := ih
    refine ⟨fun l m v m' h l0 l1 fr h1 => ?_, fun l m v m' h l0 l1 fr h1 h2 => ?_, fun l m v m' h l0 l1 fr h1 h2 h3 => ?_⟩
    · have w1 : dc_w (l + 1) = l + 1 := dw (by omega) (by omega)
      have w2 : dc_w (720 * s) = 720 * s := dw (by omega) (by omega)
      have w3 : dc_w (720 * s + l) = 720 * s + l := dw (by omega) (by omega)
      replace h := lm_223_98.mp h
      rw [w1, w2, w3] at h
      rcases h with ⟨c1, h⟩ | ⟨c1, -, -, m1, e1, h⟩
      · exact ih2 0 m v m' h (Int.le_refl 0) (by decide) (fun k i z1 _ => fr k i z1) (fun i i0 i1 => h1 i i0 (by clear h; omega)) (fun i i0 i1 => by exfalso; clear h; omega)
      · refine ih1 (l + 1) m1 v m' h (by clear h; omega) (by clear h; omega) (fun k i z => ?_) (fun i i0 i1 => ?_)
        · rw [e1]
          exact (if_neg (fun y => z ⟨y.1, by clear h; omega, by clear h; omega⟩)).trans (fr k i z)
        · rw [e1]
          by_cases z : i = l
          · rw [z, dc_up_s]; exact fr 133 l (by clear h; omega)
          · rw [dc_up_i (by clear h; omega)]; exact h1 i i0 (by clear h; omega)
    · have w1 : dc_w (l + 1) = l + 1 := dw (by omega) (by omega)
      have w2 : dc_w (4 * s) = 4 * s := dw (by omega) (by omega)
      have w3 : dc_w (4 * s + l) = 4 * s + l := dw (by omega) (by omega)
      replace h := lm_223_131.mp h
      rw [w1, w2, w3] at h
      rcases h with ⟨c1, h⟩ | ⟨c1, -, -, m1, e1, h⟩
      · exact ih3 0 m v m' h (Int.le_refl 0) (by decide) (fun k i z1 z2 _ => fr k i z1 z2) h1 (fun i i0 i1 => h2 i i0 (by clear h; omega)) (fun i i0 i1 => by exfalso; clear h; omega)
      · refine ih2 (l + 1) m1 v m' h (by clear h; omega) (by clear h; omega) (fun k i z1 z2 => ?_) (fun i i0 i1 => ?_) (fun i i0 i1 => ?_)
        · rw [e1]
          exact (if_neg (fun y => z2 ⟨y.1, by clear h; omega, by clear h; omega⟩)).trans (fr k i z1 z2)
        · rw [e1, dc_up_k (by decide)]; exact h1 i i0 i1
        · rw [e1]
          by_cases z : i = l
          · rw [z, dc_up_s]; exact fr 134 l (by clear h; omega) (by clear h; omega)
          · rw [dc_up_i (by clear h; omega)]; exact h2 i i0 (by clear h; omega)
    · have w1 : dc_w (l + 1) = l + 1 := dw (by omega) (by omega)
      have w2 : dc_w (800 * s) = 800 * s := dw (by omega) (by omega)
      have w3 : dc_w (800 * s + l) = 800 * s + l := dw (by omega) (by omega)
      replace h := lm_223_160.mp h
      rw [w1, w2, w3] at h
      rcases h with ⟨c1, -, em⟩ | ⟨c1, -, -, m1, e1, h⟩
      · rw [em]
        exact ⟨fr, h1, h2, fun i i0 i1 => h3 i i0 (by omega)⟩
      · refine ih3 (l + 1) m1 v m' h (by clear h; omega) (by clear h; omega) (fun k i z1 z2 z3 => ?_) (fun i i0 i1 => ?_) (fun i i0 i1 => ?_) (fun i i0 i1 => ?_)
        · rw [e1]
          exact (if_neg (fun y => z3 ⟨y.1, by clear h; omega, by clear h; omega⟩)).trans (fr k i z1 z2 z3)
        · rw [e1, dc_up_k (by decide)]; exact h1 i i0 i1
        · rw [e1, dc_up_k (by decide)]; exact h2 i i0 i1
        · rw [e1]
          by_cases z : i = l
          · rw [z, dc_up_s]; exact fr 135 l (by clear h; omega) (by clear h; omega) (by clear h; omega)
          · rw [dc_up_i (by clear h; omega)]; exact h3 i i0 (by clear h; omega)
theorem rk_223 {s : Int} (hs : s = 1 ∨ s = 2) {m S : dc_M} (O : mr_0 m S) (eE : m 130 0 = S 0 0) (hl : S 0 1 ≤ 60) (hp : S 0 2 ≤ 40) {v : Int} {m' : dc_M} (h : D_223 s m v m') : mr_O s m' S ∧ ∀ (k : Nat) (i : Int), ¬ mr_s s k i → m' k i = m k i := by
  obtain ⟨-, -, m1, e1, -, -, m2, e2, -, -, m3, e3, -, -, m4, e4, -, -, m5, e5, -, -, m6, e6, -, -, m7, e7, -, -, m8, e8, c, h⟩ := h
  have s0 : s ≠ 0 := by omega
  obtain ⟨q1, q2, q3, q4⟩ := (rk_223l hs c).1 0 m8 v m' h (Int.le_refl 0) (by decide) (fun _ _ _ => rfl) (fun i i0 i1 => by exfalso; clear h; omega)
  clear h
  have g8 : ∀ (k : Nat) (i : Int), k ≠ 130 → k ≠ 131 → k ≠ 132 → k ≠ 136 → k ≠ 137 → k ≠ 138 → k ≠ 139 → k ≠ 140 → m8 k i = m k i := fun k i a1 a2 a3 a4 a5 a6 a7 a8 => by
    rw [e8, dc_up_k a8, e7, dc_up_k a7, e6, dc_up_k a6, e5, dc_up_k a5, e4, dc_up_k a4, e3, dc_up_k a3, e2, dc_up_k a2, e1, dc_up_k a1]
  have f8 : ∀ (k : Nat) (i : Int), ¬ mr_s s k i → m8 k i = m k i := fun k i y => by
    unfold mr_s at y
    rw [e8, show dc_up m7 140 s (m7 140 0) k i = m7 k i from if_neg (by omega), e7, show dc_up m6 139 s (m6 139 0) k i = m6 k i from if_neg (by omega), e6, show dc_up m5 138 s (m5 138 0) k i = m5 k i from if_neg (by omega), e5, show dc_up m4 137 s (m4 137 0) k i = m4 k i from if_neg (by omega), e4, show dc_up m3 136 s (m3 136 0) k i = m3 k i from if_neg (by omega), e3, show dc_up m2 132 s (m2 132 0) k i = m2 k i from if_neg (by omega), e2, show dc_up m1 131 s (m1 131 0) k i = m1 k i from if_neg (by omega), e1]
    exact if_neg (by omega)
  obtain ⟨O1, O2, O3, O4, O5, O6, O7, O8, O9, O10⟩ := O
  have x130 : m8 130 s = m 130 0 := by rw [e8, dc_up_k (by decide), e7, dc_up_k (by decide), e6, dc_up_k (by decide), e5, dc_up_k (by decide), e4, dc_up_k (by decide), e3, dc_up_k (by decide), e2, dc_up_k (by decide), e1, dc_up_s]
  have x131 : m8 131 s = m 131 0 := by rw [e8, dc_up_k (by decide), e7, dc_up_k (by decide), e6, dc_up_k (by decide), e5, dc_up_k (by decide), e4, dc_up_k (by decide), e3, dc_up_k (by decide), e2, dc_up_s, e1, dc_up_k (by decide)]
  have x132 : m8 132 s = m 132 0 := by rw [e8, dc_up_k (by decide), e7, dc_up_k (by decide), e6, dc_up_k (by decide), e5, dc_up_k (by decide), e4, dc_up_k (by decide), e3, dc_up_s, e2, dc_up_k (by decide), e1, dc_up_k (by decide)]
  have x136 : m8 136 s = m 136 0 := by rw [e8, dc_up_k (by decide), e7, dc_up_k (by decide), e6, dc_up_k (by decide), e5, dc_up_k (by decide), e4, dc_up_s, e3, dc_up_k (by decide), e2, dc_up_k (by decide), e1, dc_up_k (by decide)]
  have x137 : m8 137 s = m 137 0 := by rw [e8, dc_up_k (by decide), e7, dc_up_k (by decide), e6, dc_up_k (by decide), e5, dc_up_s, e4, dc_up_k (by decide), e3, dc_up_k (by decide), e2, dc_up_k (by decide), e1, dc_up_k (by decide)]
  have x138 : m8 138 s = m 138 0 := by rw [e8, dc_up_k (by decide), e7, dc_up_k (by decide), e6, dc_up_s, e5, dc_up_k (by decide), e4, dc_up_k (by decide), e3, dc_up_k (by decide), e2, dc_up_k (by decide), e1, dc_up_k (by decide)]
  have x139 : m8 139 s = m 139 0 := by rw [e8, dc_up_k (by decide), e7, dc_up_s, e6, dc_up_k (by decide), e5, dc_up_k (by decide), e4, dc_up_k (by decide), e3, dc_up_k (by decide), e2, dc_up_k (by decide), e1, dc_up_k (by decide)]
  have x140 : m8 140 s = m 140 0 := by rw [e8, dc_up_s, e7, dc_up_k (by decide), e6, dc_up_k (by decide), e5, dc_up_k (by decide), e4, dc_up_k (by decide), e3, dc_up_k (by decide), e2, dc_up_k (by decide), e1, dc_up_k (by decide)]
  refine ⟨⟨?_, ?_, ?_, ?_, ?_, ?_, ?_, ?_, fun i i0 i1 => ?_, fun i i0 i1 => ?_, fun i i0 i1 => ?_⟩, fun k i y => ?_⟩
  · rw [q1 130 s (by omega) (by omega) (by omega), x130]; exact eE
  · rw [q1 131 s (by omega) (by omega) (by omega), x131]; exact O1
  · rw [q1 132 s (by omega) (by omega) (by omega), x132]; exact O2
  · rw [q1 136 s (by omega) (by omega) (by omega), x136]; exact O3
  · rw [q1 137 s (by omega) (by omega) (by omega), x137]; exact O4
  · rw [q1 138 s (by omega) (by omega) (by omega), x138]; exact O5
  · rw [q1 139 s (by omega) (by omega) (by omega), x139]; exact O6
  · rw [q1 140 s (by omega) (by omega) (by omega), x140]; exact O7
  · rw [q2 i i0 (by omega), g8 133 i (by decide) (by decide) (by decide) (by decide) (by decide) (by decide) (by decide) (by decide)]; exact O8 i i0 i1
  · rw [q3 i i0 (by omega), g8 134 i (by decide) (by decide) (by decide) (by decide) (by decide) (by decide) (by decide) (by decide)]; exact O9 i i0 i1
  · rw [q4 i i0 (by omega), g8 135 i (by decide) (by decide) (by decide) (by decide) (by decide) (by decide) (by decide) (by decide)]; exact O10 i i0 i1
  · rw [q1 k i (fun z => y (by unfold mr_s; omega)) (fun z => y (by unfold mr_s; omega)) (fun z => y (by unfold mr_s; omega))]
    exact f8 k i y
/-- isLike(2) -/
theorem rk_224l {F R m : dc_M} (A : mr_0 m F) (B : mr_O 2 m R) (h1 : F 0 1 = R 0 1) (h2 : F 0 2 = R 0 2) (hl : 0 ≤ F 0 1 ∧ F 0 1 ≤ 60) (hc : 0 ≤ F 0 2 ∧ F 0 2 ≤ 40) (P : Prop) (hP : P ↔ ((∀ w, 0 ≤ w → w < 4 → F 2 w = R 2 w) ∧ (∀ i, 0 ≤ i → i < 12 * F 0 1 → F 1 i = R 1 i) ∧ ∀ i, 0 ≤ i → i < 20 * F 0 2 → F 3 i = R 3 i)) : ∀ c : Nat, (∀ (l v : Int) (m' : dc_M), LM_224 2 c 49 l m v m' → 0 ≤ l → l ≤ 4 → (∀ w, 0 ≤ w → w < l → F 2 w = R 2 w) → m' = m ∧ ((v = 1 ∧ P) ∨ (v = 0 ∧ ¬ P))) ∧
    (∀ (l v : Int) (m' : dc_M), LM_224 2 c 83 l m v m' → 0 ≤ l → l ≤ 720 → (∀ w, 0 ≤ w → w < 4 → F 2 w = R 2 w) → (∀ i, 0 ≤ i → i < l → i < 12 * F 0 1 → F 1 i = R 1 i) → m' = m ∧ ((v = 1 ∧ P) ∨ (v = 0 ∧ ¬ P))) ∧
    (∀ (l v : Int) (m' : dc_M), LM_224 2 c 127 l m v m' → 0 ≤ l → l ≤ 800 → (∀ w, 0 ≤ w → w < 4 → F 2 w = R 2 w) → (∀ i, 0 ≤ i → i < 12 * F 0 1 → F 1 i = R 1 i) → (∀ i, 0 ≤ i → i < l → i < 20 * F 0 2 → F 3 i = R 3 i) → m' = m ∧ ((v = 1 ∧ P) ∨ (v = 0 ∧ ¬ P))) := by
  obtain ⟨A1, A2, -, -, -, -, -, A8, A9, A10⟩ := A
  obtain ⟨-, B1, B2, -, -, -, -, -, B8, B9, B10⟩ := B
  intro c
  induction c with
  | zero => exact ⟨fun _ _ _ h => h.elim, fun _ _ _ h => h.elim, fun _ _ _ h => h.elim⟩
  | succ c ih =>
    obtain ⟨ih1, ih2, ih3⟩ := ih
    refine ⟨fun l v m' h l0 l1 hw => ?_, fun l v m' h l0 l1 hw hi => ?_, fun l v m' h l0 l1 hw hi hp => ?_⟩
    · replace h := lm_224_49.mp h
      rw [dw (z := l + 1) (by omega) (by omega), dw (z := 4 * 2) (by omega) (by omega), dw (z := 4 * 2 + l) (by omega) (by omega)] at h
      rcases h with ⟨c1, h⟩ | ⟨c1, -, -, h⟩
      · exact ih2 0 v m' h (Int.le_refl 0) (by decide) (fun w w0 w1 => hw w w0 (by clear h; omega)) (fun i i0 i1 => by exfalso; clear h; omega)
      · rw [A9 l l0 (by clear h; omega), B9 l l0 (by clear h; omega)] at h
        rcases h with ⟨c2, h⟩ | ⟨c2, ev, em⟩
        · refine ih1 (l + 1) v m' h (by clear h; omega) (by clear h; omega) (fun w w0 w1 => ?_)
          by_cases z : w = l
          · rw [z]; exact c2
          · exact hw w w0 (by clear h; omega)
        · exact ⟨em, Or.inr ⟨ev, fun y => c2 ((hP.mp y).1 l l0 (by omega))⟩⟩
    · replace h := lm_224_83.mp h
      rw [A1, dw (z := l + 1) (by omega) (by omega), dw (z := 12 * F 0 1) (by omega) (by omega), dw (z := 720 * 2) (by omega) (by omega), dw (z := 720 * 2 + l) (by omega) (by omega)] at h
      obtain ⟨-, h⟩ := h
      rcases h with ⟨c1, h⟩ | ⟨c1, -, -, h⟩
      · exact ih3 0 v m' h (Int.le_refl 0) (by decide) hw (fun i i0 i1 => hi i i0 (by clear h; omega) i1) (fun i i0 i1 => by exfalso; clear h; omega)
      · rw [A8 l l0 (by clear h; omega), B8 l l0 (by clear h; omega)] at h
        rcases h with ⟨c2, h⟩ | ⟨c2, ev, em⟩
        · refine ih2 (l + 1) v m' h (by clear h; omega) (by clear h; omega) hw (fun i i0 i1 i2 => ?_)
          by_cases z : i = l
          · rw [z]; exact c2
          · exact hi i i0 (by clear h; omega) i2
        · exact ⟨em, Or.inr ⟨ev, fun y => c2 ((hP.mp y).2.1 l l0 (by omega))⟩⟩
    · replace h := lm_224_127.mp h
      rw [A2, dw (z := l + 1) (by omega) (by omega), dw (z := 20 * F 0 2) (by omega) (by omega), dw (z := 800 * 2) (by omega) (by omega), dw (z := 800 * 2 + l) (by omega) (by omega)] at h
      obtain ⟨-, h⟩ := h
      rcases h with ⟨c1, ev, em⟩ | ⟨c1, -, -, h⟩
      · exact ⟨em, Or.inl ⟨ev, hP.mpr ⟨hw, hi, fun i i0 i1 => hp i i0 (by omega) i1⟩⟩⟩
      · rw [A10 l l0 (by clear h; omega), B10 l l0 (by clear h; omega)] at h
        rcases h with ⟨c2, h⟩ | ⟨c2, ev, em⟩
        · refine ih3 (l + 1) v m' h (by clear h; omega) (by clear h; omega) hw hi (fun i i0 i1 i2 => ?_)
          by_cases z : i = l
          · rw [z]; exact c2
          · exact hp i i0 (by clear h; omega) i2
        · exact ⟨em, Or.inr ⟨ev, fun y => c2 ((hP.mp y).2.2 l l0 (by omega))⟩⟩
theorem rk_224 {F R m : dc_M} (A : mr_0 m F) (eE : m 130 0 = F 0 0) (B : mr_O 2 m R) (hl : 0 ≤ F 0 1 ∧ F 0 1 ≤ 60) (hc : 0 ≤ F 0 2 ∧ F 0 2 ≤ 40) {v : Int} {m' : dc_M} (h : D_224 2 m v m') : m' = m ∧ ((v = 1 ∧ mp_lk F R) ∨ (v = 0 ∧ ¬ mp_lk F R)) := by
  have A1 := A.1
  have A2 := A.2.1
  have B0 := B.1
  have B1 := B.2.1
  have B2 := B.2.2.1
  unfold D_224 at h
  rw [eE, A1, A2, B0, B1, B2] at h
  obtain ⟨-, -, h⟩ := h
  rcases h with ⟨c, ev, em⟩ | ⟨c, -, -, h⟩
  · exact ⟨em, Or.inr ⟨ev, fun y => c y.1⟩⟩
  · rcases h with ⟨c2, ev, em⟩ | ⟨c2, -, -, h⟩
    · exact ⟨em, Or.inr ⟨ev, fun y => c2 y.2.1⟩⟩
    · rcases h with ⟨c3, d, h⟩ | ⟨c3, ev, em⟩
      · have c := Classical.not_not.mp c
        have c2 := Classical.not_not.mp c2
        exact (rk_224l A B c2 c3 hl hc (mp_lk F R) ⟨fun y => ⟨y.2.2.2.1, y.2.2.2.2.1, y.2.2.2.2.2⟩, fun y => ⟨c, c2, c3, y.1, y.2.1, y.2.2⟩⟩ d).1 0 v m' h (Int.le_refl 0) (by decide) (fun w w0 w1 => by exfalso; clear h; omega)
      · exact ⟨em, Or.inr ⟨ev, fun y => c3 y.2.2.1⟩⟩
