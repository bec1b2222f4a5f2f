/-! WHAT missing() AND moves() LEAVE AS IT WAS: the class -/
theorem cv_5 {x0 : Int} : ∀ (c : Nat) (l : Int) (m : dc_M) (v : Int) (m' : dc_M), LM_5 x0 c 2 l m v m' → m' = m := by
  intro c
  induction c with
  | zero => intro l m v m' h; exact h.elim
  | succ c ih =>
    intro l m v m' h
    replace h := lm_5_2.mp h
    rcases h with ⟨-, -, em⟩ | ⟨-, -, h⟩
    · exact em
    · rcases h with ⟨-, -, em⟩ | ⟨-, h⟩
      · exact em
      · exact ih _ m v m' h
def cv_f (a b : dc_M) : Prop := ∀ (k : Nat) (i : Int), ¬ (k = 40 ∧ i = 1) → k ≠ 41 → b k i = a k i
theorem cv_100l {m0 : dc_M} : ∀ c : Nat, (∀ (l : Int) (m : dc_M) (v : Int) (m' : dc_M), LM_100 40 c 2 l m v m' → 0 ≤ m 1 1 → cv_f m0 m → cv_f m0 m' ∧ (v ≠ 0 → 0 ≤ m' 40 1)) ∧ ∀ (l : Int) (m : dc_M) (v : Int) (m' : dc_M), LM_100 40 c 65 l m v m' → 0 ≤ m 40 1 → cv_f m0 m → cv_f m0 m' ∧ (v ≠ 0 → 0 ≤ m' 40 1) := by
  intro c
  induction c with
  | zero => exact ⟨fun l m v m' h => h.elim, fun l m v m' h => h.elim⟩
  | succ c ih =>
    obtain ⟨ih2, ih65⟩ := ih
    refine ⟨fun l m v m' h h1 fr => ?_, fun l m v m' h h1 fr => ?_⟩
    · replace h := lm_100_2.mp h
      rcases h with ⟨-, h⟩ | ⟨-, -, h⟩
      · rcases h with ⟨-, m2, e2, h⟩ | ⟨-, ev, em⟩
        · refine ih65 0 m2 v m' h ?_ (fun k i y1 y2 => ?_)
          · rw [e2, dc_up_s]
            unfold dc_div
            rw [if_pos h1]
            exact Int.ediv_nonneg h1 (by decide)
          · rw [e2]
            exact (if_neg y1).trans (fr k i y1 y2)
        · rw [em]
          exact ⟨fr, fun y => absurd ev y⟩
      · rcases h with ⟨-, h⟩ | ⟨-, -, h⟩
        · exact ih2 _ m v m' h h1 fr
        · rcases h with ⟨-, h⟩ | ⟨-, ev, em⟩
          · exact ih2 _ m v m' h h1 fr
          · rw [em]
            exact ⟨fr, fun y => absurd ev y⟩
    · replace h := lm_100_65.mp h
      obtain ⟨v2, m2, h2, h⟩ := h
      have e2 : m2 = m := h2.2
      rw [e2] at h
      rcases h with ⟨-, ev, em⟩ | ⟨-, -, -, m3, e3, h⟩
      · rw [em]
        exact ⟨fr, fun _ => h1⟩
      · refine ih65 _ m3 v m' h ?_ (fun k i y1 y2 => ?_)
        · rw [e3, dc_up_k (by decide)]
          exact h1
        · rw [e3, dc_up_k y2]
          exact fr k i y1 y2
theorem cv_100 {m : dc_M} (h1 : 0 ≤ m 1 1) {v : Int} {m' : dc_M} (h : D_100 40 m v m') : cv_f m m' ∧ (v ≠ 0 → 0 ≤ m' 40 1) := by
  obtain ⟨c, h⟩ := h
  exact (cv_100l c).1 0 m v m' h h1 (fun _ _ _ _ => rfl)
theorem cv_ex {m : dc_M} {k n : Nat} (hn : n ≤ 60) (e : m k 2 = (n : Int)) : ∃ W : List (Int × Int), cz_W m k W := by
  refine ⟨(List.range n).map (fun i : Nat => (m (k + 1) (i : Int), m (k + 2) (i : Int))), ?_, ?_, fun i hi => ?_⟩
  · rw [List.length_map, List.length_range]; exact e
  · rw [List.length_map, List.length_range]; exact hn
  · rw [List.length_map, List.length_range] at hi
    rw [List.getD_eq_getElem?_getD, List.getElem?_map, List.getElem?_range hi]
    exact ⟨rfl, rfl⟩
theorem cv_130 {k : Nat} {w : Int} {W : List (Int × Int)} {dk : Int → Int → Int} {n : Int} {m : dc_M} (hk : 45 < k) (hW : cz_W m k W) (D : cg_D dk n m) (hl : 0 ≤ m 40 1) {C : Int} (hC : C + 320 ≤ 1800000000) (S : ck_S C m) {v : Int} {m' : dc_M} (h : D_130 k w m v m') : ck_S (C + 320) m' ∧ ∀ (j : Nat) (i : Int), ¬ ck_t j i → m' j i = m j i := by
  obtain ⟨v1, m1, h1, v2, m2, h2, -, em⟩ := h
  obtain ⟨N1, f1⟩ := ck_plug hk hW S h1
  clear h1
  obtain ⟨f, N2, -⟩ := ci_perf (o := 35) (z := ((40 : Nat) : Int)) (Or.inr (Or.inr rfl)) (Or.inr ⟨rfl, Or.inr rfl⟩) ⟨by decide, by decide⟩ (D.cg (fun j i hj => f1 j i (by clear h2; omega))) (fun _ => by show 0 ≤ m1 40 1; rw [f1 40 1 (by omega)]; exact hl) hC N1 h2
  clear h2
  rw [em]
  exact ⟨N2.s, fun j i y => (f j i (fun z => y (by unfold ch_t at z; unfold ck_t; omega)) (fun z => y (by unfold ck_t; omega))).trans (f1 j i (fun z => y (by unfold ck_t; omega)))⟩
theorem cv_133 {W : List (Int × Int)} {dk : Int → Int → Int} {n : Int} {k0 : Nat} {x0 : Int} (hk : 45 < k0) {m0 : dc_M} (hW : cz_W m0 k0 W) (D : cg_D dk n m0) (hl : 0 ≤ m0 40 1) {C0 : Int} (hC : C0 + 20000 ≤ 1800000000) : ∀ (f c : Nat) (l : Int) (m : dc_M) (v : Int) (m' : dc_M), LM_133 k0 x0 c 15 l m v m' → (W.length : Int) - l = (f : Int) → 0 ≤ l → (∀ (k : Nat) (i : Int), ¬ ck_t k i → ¬ (k = 29 ∧ i = 6) → k ≠ 42 → m k i = m0 k i) → ck_S (C0 + 320 * l) m → ck_S (C0 + 20000) m' ∧ ∀ (k : Nat) (i : Int), ¬ ck_t k i → ¬ (k = 29 ∧ i = 6) → k ≠ 42 → m' k i = m0 k i := by
  have h60 := hW.2.1
  intro f
  induction f with
  | zero =>
    intro c l m v m' h hf l0 fr S
    cases c with
    | zero => exact h.elim
    | succ c =>
      replace h := lm_133_15.mp h
      rw [show m k0 2 = (W.length : Int) from (fr k0 2 (by unfold ck_t; omega) (by omega) (by omega)).trans hW.1] at h
      rcases h with ⟨-, ev, em⟩ | ⟨c1, -⟩
      · rw [em]
        exact ⟨S.cg (by omega) (fun _ _ _ => rfl), fr⟩
      · exfalso; omega
  | succ f ih =>
    intro c l m v m' h hf l0 fr S
    cases c with
    | zero => exact h.elim
    | succ c =>
      replace h := lm_133_15.mp h
      rw [show m k0 2 = (W.length : Int) from (fr k0 2 (by unfold ck_t; omega) (by omega) (by omega)).trans hW.1, dw (z := l + 1) (by omega) (by omega)] at h
      rcases h with ⟨c1, -⟩ | ⟨c1, v2, m2, h2, h⟩
      · exfalso; omega
      · have Wm : cz_W m k0 W := hW.gg (fun j i j0 j1 => fr j i (by unfold ck_t; clear h h2; omega) (by clear h h2; omega) (by clear h h2; omega))
        have D2 : cg_D dk n m := D.cg (fun k i hk => fr k i (by unfold ck_t; clear h h2; omega) (by clear h h2; omega) (by clear h h2; omega))
        obtain ⟨S2, f2⟩ := cv_130 hk Wm D2 (by rw [fr 40 1 (by unfold ck_t; omega) (by omega) (by omega)]; exact hl) (by clear h h2; omega) S h2
        clear h2
        have g2 : ∀ (k : Nat) (i : Int), ¬ ck_t k i → ¬ (k = 29 ∧ i = 6) → k ≠ 42 → m2 k i = m0 k i := fun k i y1 y2 y3 => (f2 k i y1).trans (fr k i y1 y2 y3)
        rcases h with ⟨c2, h⟩ | ⟨c2, -, m4, e4, m5, e5, h⟩
        · exact ih c (l + 1) m2 v m' h (by clear h; omega) (by clear h; omega) g2 (S2.cg (by clear h; omega) (fun _ _ _ => rfl))
        · have f5 : ∀ (k : Nat) (i : Int), ¬ (k = 29 ∧ i = 6) → k ≠ 42 → m5 k i = m2 k i := fun k i y2 y3 => by
            rw [e5]
            refine (if_neg y2).trans ?_
            rw [e4, dc_up_k y3]
          exact ih c (l + 1) m5 v m' h (by clear h; omega) (by clear h; omega) (fun k i y1 y2 y3 => (f5 k i y2 y3).trans (g2 k i y1 y2 y3)) (S2.cg (by clear h; omega) (fun k i hk => f5 k i (by clear h; omega) (by clear h; omega)))
def cv_t (k : Nat) (i : Int) : Prop := (k = 1 ∧ i = 1) ∨ (k = 40 ∧ i = 1) ∨ k = 41 ∨ (k = 3 ∧ i = 4) ∨ k = 7 ∨ (16 ≤ k ∧ k ≤ 28) ∨ (35 ≤ k ∧ k ≤ 39) ∨ (k = 29 ∧ (i = 6 ∨ i = 13)) ∨ k = 42 ∨ k = 45
/-- missing() -/
theorem cv_158 {N : Int → Int} {B : Int → Int → Int → Int} (V : ∀ b k c, bx_v (B b k c)) {W : List (Int × Int)} {C : Int} {m : dc_M} (hb : bx_C N B m) (hk : 45 < (m 0 8).toNat) (hW : cz_W m (m 0 8).toNat W) (hC : C + 21000 ≤ 1800000000) (S : ck_S C m) (h1 : 0 ≤ m 1 1) {x v : Int} {m' : dc_M} (h : D_158 x m v m') : ck_S (C + 21000) m' ∧ ∀ (k : Nat) (i : Int), ¬ cv_t k i → m' k i = m k i := by
  obtain ⟨v2, m2, h2, m3, e3, h⟩ := h
  obtain ⟨f2, l2⟩ := cv_100 h1 h2
  clear h2
  have f3 : ∀ (k : Nat) (i : Int), ¬ (k = 1 ∧ i = 1) → ¬ (k = 40 ∧ i = 1) → k ≠ 41 → m3 k i = m k i := fun k i y1 y2 y3 => by
    rw [e3]
    exact (if_neg y1).trans (f2 k i y2 y3)
  have S3 : ck_S C m3 := S.cg (Int.le_refl C) (fun k i hk => f3 k i (by clear h; omega) (by clear h; omega) (by clear h; omega))
  have out : ck_S (C + 21000) m3 ∧ ∀ (k : Nat) (i : Int), ¬ cv_t k i → m3 k i = m k i := ⟨S3.cg (by omega) (fun _ _ _ => rfl), fun k i y => f3 k i (fun z => y (by unfold cv_t; omega)) (fun z => y (by unfold cv_t; omega)) (fun z => y (by unfold cv_t; omega))⟩
  rcases h with ⟨-, -, em⟩ | ⟨c2, v4, m4, h4, h⟩
  · rw [em]; exact out
  · obtain ⟨e4, q4⟩ := ck_box h4
    clear h4
    rw [e4] at h
    rcases h with ⟨-, -, em⟩ | ⟨c4, v5, m5, h5, -, em⟩
    · rw [em]; exact out
    · have hx : 0 ≤ x ∧ x < 8 := by
        rcases q4 with ⟨-, q⟩ | ⟨q, -⟩
        · exact q
        · exact absurd q c4
      have e8 : m3 0 8 = m 0 8 := f3 0 8 (by decide) (by decide) (by decide)
      rw [e8] at h5
      obtain ⟨v6, m6, h6, m7, e7, c, h⟩ := h5
      obtain ⟨D6, f6⟩ := bx_23 (hb.cg (fun k i hk => f3 k i (by clear h h6; omega) (by clear h h6; omega) (by clear h h6; omega))) V hx.1 hx.2 h6
      clear h6
      have f7 : ∀ (k : Nat) (i : Int), ¬ (k = 29 ∧ i = 6) → m7 k i = m6 k i := fun k i y => by rw [e7]; exact if_neg y
      have g7 : ∀ (k : Nat) (i : Int), ¬ (k = 29 ∧ i = 6) → ¬ (k = 3 ∧ i = 4) → k ≠ 7 → m7 k i = m3 k i := fun k i y1 y2 y3 => (f7 k i y1).trans (f6 k i y2 y3)
      obtain ⟨r1, r2⟩ := cv_133 (C0 := C) hk (hW.gg (fun j i j0 j1 => (g7 j i (by clear h; omega) (by clear h; omega) (by clear h; omega)).trans (f3 j i (by clear h; omega) (by clear h; omega) (by clear h; omega)))) (D6.cg (fun k i hk => f7 k i (by clear h; omega))) (by
        rw [g7 40 1 (by decide) (by decide) (by decide), e3, dc_up_k (by decide)]
        exact l2 c2) (by clear h; omega) W.length c 0 m7 v5 m5 h (by clear h; omega) (Int.le_refl 0) (fun _ _ _ _ _ => rfl) (S3.cg (by clear h; omega) (fun k i hk => g7 k i (by clear h; omega) (by clear h; omega) (by clear h; omega)))
      clear h
      rw [em]
      refine ⟨r1.cg (by omega) (fun _ _ _ => rfl), fun k i y => ?_⟩
      unfold cv_t at y
      rw [r2 k i (fun z => y (by unfold ck_t at z; omega)) (by omega) (by omega), g7 k i (by omega) (by omega) (by omega)]
      exact f3 k i (by omega) (by omega) (by omega)
/-! moves() -/
theorem cv_141 {a b d : Int} {m : dc_M} {v : Int} {m' : dc_M} (h : D_141 a b d m v m') : ∀ (k : Nat) (i : Int), ¬ (k = 29 ∧ i = 13) → k ≠ 45 → m' k i = m k i := by
  intro k i y1 y2
  rcases h with ⟨-, m2, e2, -, em⟩ | ⟨-, -, m2, e2, -, m3, e3, -, m4, e4, m5, e5, -, em⟩
  · rw [em, e2]; exact if_neg y1
  · rw [em, e5]
    refine (if_neg y1).trans ?_
    rw [e4, dc_up_k y2, e3, dc_up_k y2, e2, dc_up_k y2]
theorem cv_row : ∀ l : Nat, l + 1 < 24 → sv_g ((ae_xr9 0).getD (l + 1) 0) - sv_g ((ae_xr9 0).getD l 0) ≤ 24 ∧ 0 ≤ sv_g ((ae_xr9 0).getD l 0) ∧ sv_g ((ae_xr9 0).getD (l + 1) 0) ≤ 1000 := by
  have key : ∀ l : Nat, l < 23 → sv_g ((ae_xr9 0).getD (l + 1) 0) - sv_g ((ae_xr9 0).getD l 0) ≤ 24 ∧ 0 ≤ sv_g ((ae_xr9 0).getD l 0) ∧ sv_g ((ae_xr9 0).getD (l + 1) 0) ≤ 1000 := by decide +kernel
  exact fun l hl => key l (by omega)
def cv_g (a b : dc_M) : Prop := ∀ (k : Nat) (i : Int), ¬ ck_t k i → ¬ (k = 29 ∧ i = 13) → k ≠ 45 → b k i = a k i
theorem cv_140l {k0 : Nat} (hk : 45 < k0) {x1 x2 : Int} {r : Nat} (hr : r = k0 + 1 ∨ r = k0 + 2) {W : List (Int × Int)} {dk : Int → Int → Int} {n : Int} {m0 : dc_M} (hW : cz_W m0 k0 W) (D : cg_D dk n m0) (hl : 0 ≤ m0 40 1) {C0 : Int} (hC : C0 + 8000 ≤ 1800000000) {l5 l6 l7 l8 E : Int} (e6 : l6 = m0 r x1) (hE : sv_g ((ae_xr9 0).getD (dc_w (l7 + 1)).toNat 0) = E) (hE2 : E ≤ 1000) : ∀ (f c : Nat) (l : Int) (m : dc_M) (v : Int) (m' : dc_M), LM_140 k0 x1 x2 c 63 r l5 l6 l7 l8 l m v m' → E - l ≤ (f : Int) → (f : Int) ≤ 24 → 0 ≤ l → cv_g m0 m → ck_S (C0 + 320 * (24 - (f : Int))) m → ck_S (C0 + 7680) m' ∧ cv_g m0 m' := by
  intro f
  induction f with
  | zero =>
    intro c l m v m' h hf f24 l0 fr S
    cases c with
    | zero => exact h.elim
    | succ c =>
      replace h := lm_140_63.mp h
      rw [hE] at h
      obtain ⟨-, h⟩ := h
      rcases h with ⟨-, -, em⟩ | ⟨c1, -⟩
      · rw [em]
        exact ⟨S.cg (by omega) (fun _ _ _ => rfl), fr⟩
      · exfalso; omega
  | succ f ih =>
    intro c l m v m' h hf f24 l0 fr S
    cases c with
    | zero => exact h.elim
    | succ c =>
      replace h := lm_140_63.mp h
      rw [hE] at h
      obtain ⟨-, h⟩ := h
      rcases h with ⟨-, -, em⟩ | ⟨c1, h⟩
      · rw [em]
        exact ⟨S.cg (by omega) (fun _ _ _ => rfl), fr⟩
      · rw [dw (z := l + 1) (by clear h; omega) (by clear h; omega)] at h
        have nx : ∀ {m2 : dc_M}, LM_140 k0 x1 x2 c 63 r l5 l6 l7 l8 (l + 1) m2 v m' → cv_g m0 m2 → ck_S (C0 + 320 * (24 - ((f + 1 : Nat) : Int)) + 320) m2 → ck_S (C0 + 7680) m' ∧ cv_g m0 m' := fun {m2} h2 fr2 S2 => ih c (l + 1) m2 v m' h2 (by clear h h2; omega) (by clear h h2; omega) (by clear h h2; omega) fr2 (S2.cg (by clear h h2; omega) (fun _ _ _ => rfl))
        have S1 : ck_S (C0 + 320 * (24 - ((f + 1 : Nat) : Int)) + 320) m := S.cg (by clear h; omega) (fun _ _ _ => rfl)
        rcases h with ⟨-, h⟩ | ⟨-, h⟩
        · exact nx h fr S1
        · rcases h with ⟨-, h⟩ | ⟨-, v2, m2, h2, h⟩
          · exact nx h fr S1
          · have Wm : cz_W m k0 W := hW.gg (fun j i j0 j1 => fr j i (by unfold ck_t; clear h h2; omega) (by clear h h2; omega) (by clear h h2; omega))
            have e2 := (cz_more h2 Wm).1
            clear h2
            rw [e2] at h
            rcases h with ⟨-, h⟩ | ⟨-, -, m3, e3, v4, m4, h4, v5, m5, h5, h⟩
            · exact nx h fr S1
            · have f3 : ∀ (k : Nat) (i : Int), ¬ (k = r ∧ i = x1) → m3 k i = m k i := fun k i y => by rw [e3]; exact if_neg y
              obtain ⟨W3, hW3⟩ := cv_ex (m := m3) (k := k0) hW.2.1 (by
                rw [f3 k0 2 (by clear h h4 h5; omega)]
                exact Wm.1)
              have D3 : cg_D dk n m3 := D.cg (fun k i hk => (f3 k i (by clear h h4 h5; omega)).trans (fr k i (by unfold ck_t; clear h h4 h5; omega) (by clear h h4 h5; omega) (by clear h h4 h5; omega)))
              obtain ⟨S5, f5⟩ := cv_130 (w := -1) hk hW3 D3 (by
                rw [f3 40 1 (by clear h h4 h5; omega), fr 40 1 (by unfold ck_t; omega) (by omega) (by omega)]
                exact hl) (by clear h h4 h5; omega) (S.cg (Int.le_refl _) (fun k i hk => f3 k i (by clear h h4 h5; omega))) ⟨v4, m4, h4, v5, m5, h5, rfl, rfl⟩
              clear h4 h5
              have back : ∀ {a b : dc_M}, (∀ (k : Nat) (i : Int), ¬ ck_t k i → ¬ (k = 29 ∧ i = 13) → k ≠ 45 → a k i = m5 k i) → b = dc_up a r x1 l6 → cv_g m0 b := fun {a b} fa eb k i y1 y2 y3 => by
                by_cases z : k = r ∧ i = x1
                · rw [eb, z.1, z.2, dc_up_s]
                  exact e6
                · rw [eb]
                  refine (if_neg z).trans ?_
                  rw [fa k i y1 y2 y3, f5 k i y1, f3 k i z]
                  exact fr k i y1 y2 y3
              rcases h with ⟨-, -, m6, e6', h⟩ | ⟨-, v6, m6, h6, -, m7, e7, h⟩
              · exact nx h (back (fun _ _ _ _ _ => rfl) e6') (S5.cg (Int.le_refl _) (fun k i hk => by rw [e6']; exact if_neg (by clear h; omega)))
              · have f6 := cv_141 h6
                clear h6
                exact nx h (back (fun k i _ y2 y3 => f6 k i y2 y3) e7) (S5.cg (Int.le_refl _) (fun k i hk => by
                  rw [e7]
                  refine (if_neg (by clear h; omega)).trans ?_
                  exact f6 k i (by clear h; omega) (by clear h; omega)))
theorem cv_140 {k0 : Nat} (hk : 45 < k0) {x1 x2 : Int} {W : List (Int × Int)} {dk : Int → Int → Int} {n : Int} {m : dc_M} (hW : cz_W m k0 W) (D : cg_D dk n m) (hl : 0 ≤ m 40 1) {C : Int} (hC : C + 8000 ≤ 1800000000) (S : ck_S C m) {v : Int} {m' : dc_M} (h : D_140 k0 x1 x2 m v m') : ck_S (C + 7680) m' ∧ cv_g m m' := by
  have go : ∀ {r : Nat}, (r = k0 + 1 ∨ r = k0 + 2) → ∀ {y l5 w : Int} {m2 : dc_M}, D_5 y m w m2 → (0 ≤ w ∧ w < 24) → (∃ c, LM_140 k0 x1 x2 c 63 r l5 (m r x1) w (sv_g ((ae_xr9 0).getD (w : Int).toNat 0)) (sv_g ((ae_xr9 0).getD (w : Int).toNat 0)) m2 v m') → ck_S (C + 7680) m' ∧ cv_g m m' := by
    intro r hr y l5 w m2 h5 hw h
    obtain ⟨c5, h5⟩ := h5
    have e2 := cv_5 c5 0 m w m2 h5
    clear h5
    rw [e2] at h
    obtain ⟨c, h⟩ := h
    obtain ⟨j, ej⟩ := Int.eq_ofNat_of_zero_le hw.1
    have hb : 0 ≤ dc_w (w + 1) ∧ dc_w (w + 1) < 24 := by
      cases c with
      | zero => exact h.elim
      | succ c => exact (lm_140_63.mp h).1
    have ew : dc_w (w + 1) = w + 1 := dw (by clear h; omega) (by clear h; omega)
    rw [ew] at hb
    obtain ⟨q1, q2, q3⟩ := cv_row j (by clear h; omega)
    have en : (dc_w (w + 1)).toNat = j + 1 := by rw [ew, ej]; clear h; omega
    have ew0 : w.toNat = j := by rw [ej]; rfl
    rw [ew0] at h
    exact cv_140l hk hr hW D hl hC rfl (congrArg (fun z => sv_g ((ae_xr9 0).getD z 0)) en) q3 24 c _ m v m' h (by clear h; omega) (by decide) q2 (fun _ _ _ _ _ => rfl) (S.cg (by clear h; omega) (fun _ _ _ => rfl))
  rcases h with ⟨c1, h⟩ | ⟨c1, h⟩
  · rcases h with ⟨-, -, -, v2, m2, h2, hv, h⟩ | ⟨c2, -⟩
    · exact go (Or.inr rfl) h2 hv h
    · exact absurd c1 c2
  · rcases h with ⟨c2, -⟩ | ⟨-, -, -, v2, m2, h2, hv, h⟩
    · exact absurd c2 c1
    · exact go (Or.inl rfl) h2 hv h
theorem cv_139 {W : List (Int × Int)} {dk : Int → Int → Int} {n : Int} {k0 : Nat} {x0 : Int} (hk : 45 < k0) {m0 : dc_M} (hW : cz_W m0 k0 W) (D : cg_D dk n m0) (hl : 0 ≤ m0 40 1) {C0 : Int} (hC : C0 + 930000 ≤ 1800000000) : ∀ (f c : Nat) (l : Int) (m : dc_M) (v : Int) (m' : dc_M), LM_139 k0 x0 c 16 l m v m' → (W.length : Int) - l = (f : Int) → 0 ≤ l → cv_g m0 m → ck_S (C0 + 15360 * l) m → ck_S (C0 + 930000) m' ∧ cv_g m0 m' := by
  have h60 := hW.2.1
  intro f
  induction f with
  | zero =>
    intro c l m v m' h hf l0 fr S
    cases c with
    | zero => exact h.elim
    | succ c =>
      replace h := lm_139_16.mp h
      rw [show m k0 2 = (W.length : Int) from (fr k0 2 (by unfold ck_t; omega) (by omega) (by omega)).trans hW.1] at h
      rcases h with ⟨-, ev, em⟩ | ⟨c1, -⟩
      · rw [em]
        exact ⟨S.cg (by omega) (fun _ _ _ => rfl), fr⟩
      · exfalso; omega
  | succ f ih =>
    intro c l m v m' h hf l0 fr S
    cases c with
    | zero => exact h.elim
    | succ c =>
      replace h := lm_139_16.mp h
      rw [show m k0 2 = (W.length : Int) from (fr k0 2 (by unfold ck_t; omega) (by omega) (by omega)).trans hW.1, dw (z := l + 1) (by omega) (by omega)] at h
      rcases h with ⟨c1, -⟩ | ⟨c1, v2, m2, h2, v3, m3, h3, h⟩
      · exfalso; omega
      · have st : ∀ {a : dc_M}, cv_g m0 a → cz_W a k0 W ∧ cg_D dk n a ∧ 0 ≤ a 40 1 := fun {a} g => ⟨hW.gg (fun j i j0 j1 => g j i (by unfold ck_t; clear h h2 h3; omega) (by clear h h2 h3; omega) (by clear h h2 h3; omega)), D.cg (fun k i hk => g k i (by unfold ck_t; clear h h2 h3; omega) (by clear h h2 h3; omega) (by clear h h2 h3; omega)), by rw [g 40 1 (by unfold ck_t; omega) (by omega) (by omega)]; exact hl⟩
        obtain ⟨w1, w2, w3⟩ := st fr
        obtain ⟨S2, f2⟩ := cv_140 hk w1 w2 w3 (by clear h h2 h3; omega) S h2
        clear h2
        have g2 : cv_g m0 m2 := fun k i y1 y2 y3 => (f2 k i y1 y2 y3).trans (fr k i y1 y2 y3)
        obtain ⟨u1, u2, u3⟩ := st g2
        obtain ⟨S3, f3⟩ := cv_140 hk u1 u2 u3 (by clear h h3; omega) S2 h3
        clear h3
        exact ih c (l + 1) m3 v m' h (by clear h; omega) (by clear h; omega) (fun k i y1 y2 y3 => (f3 k i y1 y2 y3).trans (g2 k i y1 y2 y3)) (S3.cg (by clear h; omega) (fun _ _ _ => rfl))
theorem cv_174 {N : Int → Int} {B : Int → Int → Int → Int} (V : ∀ b k c, bx_v (B b k c)) {W : List (Int × Int)} {C : Int} {m : dc_M} (hb : bx_C N B m) (hk : 45 < (m 0 8).toNat) (hW : cz_W m (m 0 8).toNat W) (hC : C + 930000 ≤ 1800000000) (S : ck_S C m) (h1 : 0 ≤ m 1 1) {x v : Int} {m' : dc_M} (h : D_174 x m v m') : ck_S (C + 930000) m' ∧ ∀ (k : Nat) (i : Int), ¬ cv_t k i → m' k i = m k i := by
  obtain ⟨v2, m2, h2, m3, e3, h⟩ := h
  obtain ⟨f2, l2⟩ := cv_100 h1 h2
  clear h2
  have f3 : ∀ (k : Nat) (i : Int), ¬ (k = 1 ∧ i = 1) → ¬ (k = 40 ∧ i = 1) → k ≠ 41 → m3 k i = m k i := fun k i y1 y2 y3 => by
    rw [e3]
    exact (if_neg y1).trans (f2 k i y2 y3)
  have S3 : ck_S C m3 := S.cg (Int.le_refl C) (fun k i hk => f3 k i (by clear h; omega) (by clear h; omega) (by clear h; omega))
  have out : ck_S (C + 930000) m3 ∧ ∀ (k : Nat) (i : Int), ¬ cv_t k i → m3 k i = m k i := ⟨S3.cg (by omega) (fun _ _ _ => rfl), fun k i y => f3 k i (fun z => y (by unfold cv_t; omega)) (fun z => y (by unfold cv_t; omega)) (fun z => y (by unfold cv_t; omega))⟩
  rcases h with ⟨-, -, em⟩ | ⟨c2, v4, m4, h4, h⟩
  · rw [em]; exact out
  · obtain ⟨e4, q4⟩ := ck_box h4
    clear h4
    rw [e4] at h
    rcases h with ⟨-, -, em⟩ | ⟨c4, v5, m5, h5, -, em⟩
    · rw [em]; exact out
    · have hx : 0 ≤ x ∧ x < 8 := by
        rcases q4 with ⟨-, q⟩ | ⟨q, -⟩
        · exact q
        · exact absurd q c4
      have e8 : m3 0 8 = m 0 8 := f3 0 8 (by decide) (by decide) (by decide)
      rw [e8] at h5
      obtain ⟨v6, m6, h6, m7, e7, c, h⟩ := h5
      obtain ⟨D6, f6⟩ := bx_22 (hb.cg (fun k i hk => f3 k i (by clear h h6; omega) (by clear h h6; omega) (by clear h h6; omega))) V hx.1 hx.2 ⟨by decide, by decide⟩ h6
      clear h6
      have f7 : ∀ (k : Nat) (i : Int), ¬ (k = 29 ∧ i = 13) → m7 k i = m6 k i := fun k i y => by rw [e7]; exact if_neg y
      have g7 : ∀ (k : Nat) (i : Int), ¬ (k = 29 ∧ i = 13) → ¬ (k = 3 ∧ i = 4) → k ≠ 7 → m7 k i = m3 k i := fun k i y1 y2 y3 => (f7 k i y1).trans (f6 k i y2 y3)
      obtain ⟨r1, r2⟩ := cv_139 (C0 := C) hk (hW.gg (fun j i j0 j1 => (g7 j i (by clear h; omega) (by clear h; omega) (by clear h; omega)).trans (f3 j i (by clear h; omega) (by clear h; omega) (by clear h; omega)))) (D6.cg (fun k i hk => f7 k i (by clear h; omega))) (by
        rw [g7 40 1 (by decide) (by decide) (by decide), e3, dc_up_k (by decide)]
        exact l2 c2) (by clear h; omega) W.length c 0 m7 v5 m5 h (by clear h; omega) (Int.le_refl 0) (fun _ _ _ _ _ => rfl) (S3.cg (by clear h; omega) (fun k i hk => g7 k i (by clear h; omega) (by clear h; omega) (by clear h; omega)))
      clear h
      rw [em]
      refine ⟨r1, fun k i y => ?_⟩
      unfold cv_t at y
      rw [r2 k i (fun z => y (by unfold ck_t at z; omega)) (by omega) (by omega), g7 k i (by omega) (by omega) (by omega)]
      exact f3 k i (by omega) (by omega) (by omega)
