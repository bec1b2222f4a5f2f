/-! THE CLASS'S NETS: built, listed -/
theorem nt_U.iff {P L : Int → Int} {N : Int} {E : Int → Int → Prop} (U : nt_U P L N E) {a b : Int} (wa : nt_w P a) (wb : nt_w P b) : mp_q (nt_l L N) (P a) (P b) ↔ mp_q E a b := by
  obtain ⟨u1, u2, u3, u4⟩ := U
  refine ⟨fun q f hf => ?_, fun q F hF => ?_⟩
  · obtain ⟨F, F1, F2⟩ := u4 f hf
    rw [← F2 a wa, ← F2 b wb]
    exact q F (fun x y ⟨x0, x1, e⟩ => by rw [e]; exact (F1 x x0 x1).symm)
  · exact q (fun h => F (P h)) (fun x y e => (u3 x y e).2.2 F hF)
theorem c9_bl {k : Nat} {w : Int} {W : List (Int × Int)} {m0 : dc_M} (hk : k ≠ 17 ∧ k ≠ 18 ∧ k ≠ 19 ∧ k + 1 ≠ 17 ∧ k + 1 ≠ 18 ∧ k + 1 ≠ 19 ∧ k + 2 ≠ 17 ∧ k + 2 ≠ 18 ∧ k + 2 ≠ 19) (hW : cz_W m0 k W) {Q : dc_M → Int → dc_M → Prop} : ∀ (c : Nat) (l : Int) (m : dc_M) (v : Int) (m' : dc_M), LM_65 k w c 20 l m v m' → 0 ≤ l → l ≤ (W.length : Int) → c8_f m0 m → c8_U m (fun x y => ∃ i : Nat, (i : Int) < l ∧ i < W.length ∧ (i : Int) ≠ w ∧ W.getD i (0, 0) = (x, y)) → (∀ x, nt_w (m 18) x ↔ ∃ i : Nat, (i : Int) < l ∧ i < W.length ∧ (i : Int) ≠ w ∧ (x = (W.getD i (0, 0)).1 ∨ x = (W.getD i (0, 0)).2)) → ∃ m1 v2 m2 v3 m3 v4, c8_f m0 m1 ∧ c8_U m1 (mp_W W w) ∧ (∀ x, nt_w (m1 18) x ↔ ∃ y, mp_W W w x y ∨ mp_W W w y x) ∧ (∀ i : Nat, i < W.length → (i : Int) ≠ w → (0 ≤ (W.getD i (0, 0)).1 ∧ (W.getD i (0, 0)).1 < 217) ∧ (0 ≤ (W.getD i (0, 0)).2 ∧ (W.getD i (0, 0)).2 < 217)) ∧ D_68 m1 v2 m2 ∧ D_70 m2 v3 m3 ∧ D_71 m3 v4 m' := by
  obtain ⟨W1, W2, W3⟩ := hW
  intro c
  induction c with
  | zero => intro l m v m' h; exact h.elim
  | succ c ih =>
    intro l m v m' h l0 l1 fr U hw
    have w1 : dc_w (l + 1) = l + 1 := dw (by omega) (by omega)
    have e2 : m k 2 = (W.length : Int) := (fr k 2 (fun z => hk.1 z.1) hk.2.1 hk.2.2.1).trans W1
    replace h := lm_65_20.mp h
    rw [w1, e2] at h
    rcases h with ⟨c1, v2, m2, h2, v3, m3, h3, v4, m4, h4, -, em⟩ | ⟨c1, h⟩
    · have el : l = (W.length : Int) := by omega
      have hE : ∀ x y, (∃ i : Nat, (i : Int) < l ∧ i < W.length ∧ (i : Int) ≠ w ∧ W.getD i (0, 0) = (x, y)) ↔ mp_W W w x y := fun x y => ⟨fun ⟨i, _, i2, i3, i4⟩ => ⟨i, i2, i3, i4⟩, fun ⟨i, i2, i3, i4⟩ => ⟨i, by omega, i2, i3, i4⟩⟩
      refine ⟨m, v2, m2, v3, m3, v4, fr, ⟨U.1, U.2.e hE⟩, fun x => (hw x).trans ⟨fun ⟨i, i1, i2, i3, i4⟩ => ?_, fun ⟨y, hy⟩ => ?_⟩, fun i i2 i3 => ?_, h2, h3, by rw [em]; exact h4⟩
      · rcases i4 with e | e
        · exact ⟨(W.getD i (0, 0)).2, Or.inl ⟨i, i2, i3, by rw [e]⟩⟩
        · exact ⟨(W.getD i (0, 0)).1, Or.inr ⟨i, i2, i3, by rw [e]⟩⟩
      · rcases hy with ⟨i, i2, i3, i4⟩ | ⟨i, i2, i3, i4⟩
        · exact ⟨i, by omega, i2, i3, Or.inl (by rw [i4])⟩
        · exact ⟨i, by omega, i2, i3, Or.inr (by rw [i4])⟩
      · have a := (hw (W.getD i (0, 0)).1).mpr ⟨i, by omega, i2, i3, Or.inl rfl⟩
        have b := (hw (W.getD i (0, 0)).2).mpr ⟨i, by omega, i2, i3, Or.inr rfl⟩
        exact ⟨⟨a.1, a.2.1⟩, b.1, b.2.1⟩
    · have hl : l.toNat < W.length := by clear h; omega
      have el : ((l.toNat : Nat) : Int) = l := by clear h; omega
      have V := W3 l.toNat hl
      rw [el] at V
      rw [← fr (k + 1) l (fun z => hk.2.2.2.1 z.1) hk.2.2.2.2.1 hk.2.2.2.2.2.1, ← fr (k + 2) l (fun z => hk.2.2.2.2.2.2.1 z.1) hk.2.2.2.2.2.2.2.1 hk.2.2.2.2.2.2.2.2] at V
      rcases h with ⟨c2, h⟩ | ⟨c2, -, -, v2, m2, hd, h⟩
      · refine ih (l + 1) m v m' h (by clear h; omega) (by clear h; omega) fr ⟨U.1, U.2.e (fun x y => ⟨fun ⟨i, i1, i2⟩ => ⟨i, by clear h; omega, i2⟩, fun ⟨i, i1, i2, i3, i4⟩ => ⟨i, by clear h; omega, i2, i3, i4⟩⟩)⟩ (fun x => (hw x).trans ⟨fun ⟨i, i1, i2⟩ => ⟨i, by clear h; omega, i2⟩, fun ⟨i, i1, i2, i3, i4⟩ => ⟨i, by clear h; omega, i2, i3, i4⟩⟩)
      · rw [V.1, V.2] at hd
        obtain ⟨U2, f2, w2, -, -⟩ := c8_join hd U
        clear hd
        have fr2 : c8_f m0 m2 := fun j i z1 z2 z3 => (f2 j i z1 z2 z3).trans (fr j i z1 z2 z3)
        refine ih (l + 1) m2 v m' h (by clear h; omega) (by clear h; omega) fr2 ⟨U2.1, U2.2.e (fun x y => ⟨fun z => ?_, fun ⟨i, i1, i2, i3, i4⟩ => ?_⟩)⟩ (fun x => (w2 x).trans ⟨fun z => ?_, fun ⟨i, i1, i2, i3, i4⟩ => ?_⟩)
        · rcases z with ⟨i, i1, i2⟩ | ⟨z1, z2⟩
          · exact ⟨i, by clear h; omega, i2⟩
          · exact ⟨l.toNat, by clear h; omega, hl, by rw [el]; exact c2, by rw [z1, z2]⟩
        · by_cases z : i = l.toNat
          · rw [z] at i4
            exact Or.inr (by rw [i4]; exact ⟨rfl, rfl⟩)
          · exact Or.inl ⟨i, by clear h; omega, i2, i3, i4⟩
        · rcases z with z | z | z
          · obtain ⟨i, i1, i2⟩ := (hw x).mp z
            exact ⟨i, by clear h; omega, i2⟩
          · exact ⟨l.toNat, by clear h; omega, hl, by rw [el]; exact c2, Or.inl z⟩
          · exact ⟨l.toNat, by clear h; omega, hl, by rw [el]; exact c2, Or.inr z⟩
        · by_cases z : i = l.toNat
          · rw [z] at i4
            exact Or.inr i4
          · exact Or.inl ((hw x).mpr ⟨i, by clear h; omega, i2, i3, i4⟩)
/-- listGiversBelow -/
theorem c9_69 {x0 x1 : Int} {P : Int → Int} (h96 : x0 ≤ 96) : ∀ (f c : Nat) (l : Int) (m : dc_M) (v : Int) (m' : dc_M), LM_69 x0 x1 c 2 l m v m' → x0 - l = (f : Int) → 0 ≤ l → m 18 = P → m 17 8 = nt_c (nt_b P) l → (∀ h, 0 ≤ h → h < l → P h ≠ -1 → m 21 (nt_c (nt_b P) h) = h) → m' 17 8 = nt_c (nt_b P) x0 ∧ (∀ h, 0 ≤ h → h < x0 → P h ≠ -1 → m' 21 (nt_c (nt_b P) h) = h) ∧ ∀ (k : Nat) (i : Int), ¬ (k = 17 ∧ i = 8) → k ≠ 21 → m' k i = m k i := by
  intro f
  induction f with
  | zero =>
    intro c l m v m' h hf l0 e18 e8 hh
    have el : l = x0 := by omega
    cases c with
    | zero => exact h.elim
    | succ c =>
      replace h := lm_69_2.mp h
      rcases h with ⟨c1, -, em⟩ | ⟨c1, -⟩
      · rw [em, ← el]
        exact ⟨e8, hh, fun _ _ _ _ => rfl⟩
      · exfalso; omega
  | succ f ih =>
    intro c l m v m' h hf l0 e18 e8 hh
    cases c with
    | zero => exact h.elim
    | succ c =>
      have w1 : dc_w (l + 1) = l + 1 := dw (by omega) (by omega)
      have r := nt_c_r (b := nt_b P) l0
      replace h := lm_69_2.mp h
      rw [w1, e18] at h
      rcases h with ⟨c1, -⟩ | ⟨c1, -, h⟩
      · exfalso; omega
      · rcases h with ⟨c2, h⟩ | ⟨c2, -, m1, e1, m2, e2, h⟩
        · exact ih c (l + 1) m v m' h (by clear h; omega) (by clear h; omega) e18 (by rw [nt_c_n l0 (nt_b_n c2)]; exact e8) (fun x y0 y1 yP => by
            by_cases z : x = l
            · rw [z] at yP; exact absurd c2 yP
            · exact hh x y0 (by clear h; omega) yP)
        · have g1 : m1 17 8 = nt_c (nt_b P) l := by rw [e1, dc_up_k (by decide)]; exact e8
          rw [g1, dw (by clear h; omega) (by clear h; omega)] at e2
          rw [e8] at e1
          obtain ⟨i1, i2, i3⟩ := ih c (l + 1) m2 v m' h (by clear h; omega) (by clear h; omega) (by rw [e2, e1]; exact (funext fun i => (dc_up_k (by decide)).trans (dc_up_k (by decide))).trans e18) (by rw [e2, dc_up_s, nt_c_y l0 (nt_b_y c2)]) (fun x y0 y1 yP => by
            rw [e2, dc_up_k (by decide), e1]
            by_cases z : x = l
            · rw [z, dc_up_s]
            · have q := nt_c_le (b := nt_b P) (h := x + 1) (k := l) (by clear h; omega) (by clear h; omega)
              have q2 := nt_c_y (b := nt_b P) y0 (nt_b_y yP)
              rw [dc_up_i (by clear h; omega)]
              exact hh x y0 (by clear h; omega) yP)
          exact ⟨i1, i2, fun k i z1 z2 => by
            rw [i3 k i z1 z2, e2]
            refine (if_neg z1).trans ?_
            rw [e1, dc_up_k z2]⟩
theorem c9_68 {P : Int → Int} {m : dc_M} {v : Int} {m' : dc_M} (h : D_68 m v m') (e18 : m 18 = P) : m' 17 6 = nt_c (nt_b P) 61 ∧ m' 17 7 = nt_c (nt_b P) 65 ∧ m' 17 8 = nt_c (nt_b P) 96 ∧ (∀ h, 0 ≤ h → h < 96 → P h ≠ -1 → m' 21 (nt_c (nt_b P) h) = h) ∧ ∀ (k : Nat) (i : Int), ¬ (k = 17 ∧ (i = 6 ∨ i = 7 ∨ i = 8)) → k ≠ 21 → m' k i = m k i := by
  obtain ⟨m1, e1, v2, m2, ⟨c2, h2⟩, m3, e3, v4, m4, ⟨c4, h4⟩, m5, e5, v6, m6, ⟨c6, h6⟩, -, em⟩ := h
  have a1 : m1 18 = P := by rw [e1]; exact (funext fun i => dc_up_k (by decide)).trans e18
  obtain ⟨p1, p2, p3⟩ := c9_69 (P := P) (by decide) 61 c2 0 m1 v2 m2 h2 rfl (by decide) a1 (by rw [e1, dc_up_s]; rfl) (fun x y0 y1 => by exfalso; clear h2 h4 h6; omega)
  clear h2
  have b3 : m3 18 = P := by rw [e3]; exact (funext fun i => (dc_up_k (by decide)).trans (p3 18 i (by omega) (by decide))).trans a1
  obtain ⟨q1, q2, q3⟩ := c9_69 (P := P) (by decide) 4 c4 61 m3 v4 m4 h4 rfl (by decide) b3 (by rw [e3, dc_up_i (by decide)]; exact p1) (fun x y0 y1 yP => by rw [e3, dc_up_k (by decide)]; exact p2 x y0 y1 yP)
  clear h4
  have b5 : m5 18 = P := by rw [e5]; exact (funext fun i => (dc_up_k (by decide)).trans (q3 18 i (by omega) (by decide))).trans b3
  obtain ⟨r1, r2, r3⟩ := c9_69 (P := P) (by decide) 31 c6 65 m5 v6 m6 h6 rfl (by decide) b5 (by rw [e5, dc_up_i (by decide)]; exact q1) (fun x y0 y1 yP => by rw [e5, dc_up_k (by decide)]; exact q2 x y0 y1 yP)
  clear h6
  rw [em]
  refine ⟨?_, ?_, r1, r2, fun k i z1 z2 => ?_⟩
  · rw [r3 17 6 (by decide) (by decide), e5, dc_up_i (by decide), q3 17 6 (by decide) (by decide), e3, dc_up_s]; exact p1
  · rw [r3 17 7 (by decide) (by decide), e5, dc_up_s]; exact q1
  · rw [r3 k i (fun y => z1 ⟨y.1, Or.inr (Or.inr y.2)⟩) z2, e5]
    refine (if_neg (fun y => z1 ⟨y.1, Or.inr (Or.inl y.2)⟩)).trans ?_
    rw [q3 k i (fun y => z1 ⟨y.1, Or.inr (Or.inr y.2)⟩) z2, e3]
    refine (if_neg (fun y => z1 ⟨y.1, Or.inl y.2⟩)).trans ?_
    rw [p3 k i (fun y => z1 ⟨y.1, Or.inr (Or.inr y.2)⟩) z2, e1]
    exact if_neg (fun y => z1 ⟨y.1, Or.inr (Or.inr y.2)⟩)
/-- how many that take come ahead -/
def c9_t (P : Int → Int) (h : Int) : Int := nt_c (nt_b P) h - nt_c (nt_b P) 96
theorem bo0 {s : Nat} (h : s < 2) : sv_g (sv_u ((s : Nat) : Int) ||| sv_u 0) = (s : Int) := by
  rcases (show s = 0 ∨ s = 1 by omega) with e | e <;> rw [e] <;> decide
theorem bo1 {s : Nat} (h : s < 2) : sv_g (sv_u ((s : Nat) : Int) ||| sv_u 1) = 1 := by
  rcases (show s = 0 ∨ s = 1 by omega) with e | e <;> rw [e] <;> decide
theorem c9_70 {P : Int → Int} {m0 : dc_M} (e180 : m0 18 = P) : ∀ (f c : Nat) (l : Int) (m : dc_M) (v : Int) (m' : dc_M) (s : Nat), LM_70 c 13 l m v m' → 181 - l = (f : Int) → 96 ≤ l → (∀ (k : Nat) (i : Int), ¬ (k = 17 ∧ (i = 10 ∨ i = 11)) → k ≠ 22 → m k i = m0 k i) → m 17 10 = c9_t P l → (∀ h, 96 ≤ h → h < l → P h ≠ -1 → m 22 (c9_t P h) = h) → m 17 11 = (s : Int) → s < 2 → (s = 1 ↔ ∃ h, 144 ≤ h ∧ h < 148 ∧ h < l ∧ P h ≠ -1) → m' 17 10 = c9_t P 181 ∧ (∀ h, 96 ≤ h → h < 181 → P h ≠ -1 → m' 22 (c9_t P h) = h) ∧ (m' 17 11 ≠ 0 ↔ ∃ h, 144 ≤ h ∧ h < 148 ∧ P h ≠ -1) ∧ ∀ (k : Nat) (i : Int), ¬ (k = 17 ∧ (i = 10 ∨ i = 11)) → k ≠ 22 → m' k i = m0 k i := by
  intro f
  induction f with
  | zero =>
    intro c l m v m' s h hf l0 fr e10 hh e11 s2 hs
    have el : l = 181 := by omega
    cases c with
    | zero => exact h.elim
    | succ c =>
      replace h := lm_70_13.mp h
      rcases h with ⟨c1, -, em⟩ | ⟨c1, -⟩
      · rw [em, ← el]
        refine ⟨e10, hh, ?_, fr⟩
        rw [e11]
        exact ⟨fun z => by
          obtain ⟨h, h1, h2, -, h3⟩ := hs.mp (by omega)
          exact ⟨h, h1, h2, h3⟩, fun ⟨h, h1, h2, h3⟩ => by
          have := hs.mpr ⟨h, h1, h2, by omega, h3⟩
          omega⟩
      · exfalso; omega
  | succ f ih =>
    intro c l m v m' s h hf l0 fr e10 hh e11 s2 hs
    cases c with
    | zero => exact h.elim
    | succ c =>
      have w1 : dc_w (l + 1) = l + 1 := dw (by omega) (by omega)
      have e18 : m 18 = P := (funext fun i => fr 18 i (by omega) (by decide)).trans e180
      have r := nt_c_le (b := nt_b P) (h := 96) (k := l) (by decide) l0
      replace h := lm_70_13.mp h
      rw [w1, e18] at h
      rcases h with ⟨c1, -⟩ | ⟨c1, -, h⟩
      · exfalso; omega
      · rcases h with ⟨c2, h⟩ | ⟨c2, -, m1, e1, m2, e2, h⟩
        · refine ih c (l + 1) m v m' s h (by clear h; omega) (by clear h; omega) fr ?_ (fun x y0 y1 yP => ?_) e11 s2 (hs.trans ⟨fun ⟨x, y1, y2, y3, y4⟩ => ⟨x, y1, y2, by clear h; omega, y4⟩, fun ⟨x, y1, y2, y3, y4⟩ => ⟨x, y1, y2, ?_, y4⟩⟩)
          · unfold c9_t; rw [nt_c_n (by clear h; omega) (nt_b_n c2)]; exact e10
          · by_cases z : x = l
            · rw [z] at yP; exact absurd c2 yP
            · exact hh x y0 (by clear h; omega) yP
          · by_cases z : x = l
            · rw [z] at y4; exact absurd c2 y4
            · clear h; omega
        · have r10 : 0 ≤ c9_t P l ∧ c9_t P l ≤ 100 := by unfold c9_t; clear h; omega
          have g1 : m1 17 10 = c9_t P l := by rw [e1, dc_up_k (by decide)]; exact e10
          rw [g1, dw (by clear h; omega) (by clear h; omega)] at e2
          rw [e10] at e1
          have g11 : m2 17 11 = (s : Int) := by rw [e2, dc_up_i (by decide), e1, dc_up_k (by decide)]; exact e11
          have step : ∀ (t : Nat) (m3 : dc_M), m3 = dc_up m2 17 11 (t : Int) → t < 2 → (t = 1 ↔ ∃ h, 144 ≤ h ∧ h < 148 ∧ h < l + 1 ∧ P h ≠ -1) → LM_70 c 13 (l + 1) m3 v m' → m' 17 10 = c9_t P 181 ∧ (∀ h, 96 ≤ h → h < 181 → P h ≠ -1 → m' 22 (c9_t P h) = h) ∧ (m' 17 11 ≠ 0 ↔ ∃ h, 144 ≤ h ∧ h < 148 ∧ P h ≠ -1) ∧ ∀ (k : Nat) (i : Int), ¬ (k = 17 ∧ (i = 10 ∨ i = 11)) → k ≠ 22 → m' k i = m0 k i := by
            intro t m3 e3 t2 ht h
            refine ih c (l + 1) m3 v m' t h (by clear h; omega) (by clear h; omega) (fun k i z1 z2 => ?_) ?_ (fun x y0 y1 yP => ?_) (by rw [e3, dc_up_s]) t2 ht
            · rw [e3]
              refine (if_neg (fun y => z1 ⟨y.1, Or.inr y.2⟩)).trans ?_
              rw [e2]
              refine (if_neg (fun y => z1 ⟨y.1, Or.inl y.2⟩)).trans ?_
              rw [e1, dc_up_k z2]
              exact fr k i z1 z2
            · rw [e3, dc_up_i (by decide), e2, dc_up_s]
              unfold c9_t
              rw [nt_c_y (by clear h; omega) (nt_b_y c2)]
              clear h; omega
            · rw [e3, dc_up_k (by decide), e2, dc_up_k (by decide), e1]
              by_cases z : x = l
              · rw [z, dc_up_s]
              · have q := nt_c_le (b := nt_b P) (h := x + 1) (k := l) (by clear h; omega) (by clear h; omega)
                have q2 := nt_c_y (b := nt_b P) (h := x) (by clear h; omega) (nt_b_y yP)
                rw [dc_up_i (by unfold c9_t; clear h; omega)]
                exact hh x y0 (by clear h; omega) yP
          have s0 : ¬ (144 ≤ l ∧ l < 148) → (s = 1 ↔ ∃ h, 144 ≤ h ∧ h < 148 ∧ h < l + 1 ∧ P h ≠ -1) := fun z => hs.trans ⟨fun ⟨x, y1, y2, y3, y4⟩ => ⟨x, y1, y2, by clear h; omega, y4⟩, fun ⟨x, y1, y2, y3, y4⟩ => ⟨x, y1, y2, by clear h; omega, y4⟩⟩
          rw [g11] at h
          rcases h with ⟨c3, m3, e3, h⟩ | ⟨c3, h⟩
          · rw [bo0 s2] at e3
            exact step s m3 e3 s2 (s0 (by clear h; omega)) h
          · rcases h with ⟨c4, m3, e3, h⟩ | ⟨c4, m3, e3, h⟩
            · rw [bo0 s2] at e3
              exact step s m3 e3 s2 (s0 (by clear h; omega)) h
            · rw [bo1 s2] at e3
              exact step 1 m3 e3 (by decide) ⟨fun _ => ⟨l, by clear h; omega, by clear h; omega, by clear h; omega, c2⟩, fun _ => rfl⟩ h
/-- a point that leads -/
def c9_p (P : Int → Int) (p : Int) : Int := if (P (193 + p) ≠ -1 ∨ P (205 + p) ≠ -1) ∧ P (181 + p) ≠ -1 then 1 else 0
theorem c9_71 {P : Int → Int} {m0 : dc_M} (e180 : m0 18 = P) : ∀ (f c : Nat) (l : Int) (m : dc_M) (v : Int) (m' : dc_M), LM_71 c 7 l m v m' → 12 - l = (f : Int) → 0 ≤ l → (∀ (k : Nat) (i : Int), ¬ (k = 17 ∧ i = 13) → k ≠ 23 → m k i = m0 k i) → m 17 13 = nt_c (c9_p P) l → (∀ p, 0 ≤ p → p < l → c9_p P p ≠ 0 → m 23 (nt_c (c9_p P) p) = p) → m' 17 13 = nt_c (c9_p P) 12 ∧ (∀ p, 0 ≤ p → p < 12 → c9_p P p ≠ 0 → m' 23 (nt_c (c9_p P) p) = p) ∧ ∀ (k : Nat) (i : Int), ¬ (k = 17 ∧ i = 13) → k ≠ 23 → m' k i = m0 k i := by
  intro f
  induction f with
  | zero =>
    intro c l m v m' h hf l0 fr e13 hh
    have el : l = 12 := by omega
    cases c with
    | zero => exact h.elim
    | succ c =>
      replace h := lm_71_7.mp h
      rcases h with ⟨c1, -, em⟩ | ⟨c1, -⟩
      · rw [em, ← el]
        exact ⟨e13, hh, fr⟩
      · exfalso; omega
  | succ f ih =>
    intro c l m v m' h hf l0 fr e13 hh
    cases c with
    | zero => exact h.elim
    | succ c =>
      have w1 : dc_w (l + 1) = l + 1 := dw (by omega) (by omega)
      have w2 : dc_w (193 + l) = 193 + l := dw (by omega) (by omega)
      have w3 : dc_w (205 + l) = 205 + l := dw (by omega) (by omega)
      have w4 : dc_w (181 + l) = 181 + l := dw (by omega) (by omega)
      have e18 : m 18 = P := (funext fun i => fr 18 i (by omega) (by decide)).trans e180
      have r := nt_c_r (b := c9_p P) l0
      have no : c9_p P l = 0 → LM_71 c 7 (l + 1) m v m' → m' 17 13 = nt_c (c9_p P) 12 ∧ (∀ p, 0 ≤ p → p < 12 → c9_p P p ≠ 0 → m' 23 (nt_c (c9_p P) p) = p) ∧ ∀ (k : Nat) (i : Int), ¬ (k = 17 ∧ i = 13) → k ≠ 23 → m' k i = m0 k i := fun z h => ih c (l + 1) m v m' h (by clear h; omega) (by clear h; omega) fr (by rw [nt_c_n l0 z]; exact e13) (fun p p0 p1 p2 => by
        by_cases y : p = l
        · rw [y] at p2; exact absurd z p2
        · exact hh p p0 (by clear h; omega) p2)
      have yes : c9_p P l ≠ 0 → (∃ m1, m1 = dc_up m 23 (m 17 13) l ∧ (∃ m2, m2 = dc_up m1 17 13 (dc_w ((m1 17 13) + 1)) ∧ (LM_71 c 7 (l + 1) m2 v m'))) → m' 17 13 = nt_c (c9_p P) 12 ∧ (∀ p, 0 ≤ p → p < 12 → c9_p P p ≠ 0 → m' 23 (nt_c (c9_p P) p) = p) ∧ ∀ (k : Nat) (i : Int), ¬ (k = 17 ∧ i = 13) → k ≠ 23 → m' k i = m0 k i := by
        intro z ⟨m1, e1, m2, e2, h⟩
        have g1 : m1 17 13 = nt_c (c9_p P) l := by rw [e1, dc_up_k (by decide)]; exact e13
        rw [g1, dw (by clear h; omega) (by clear h; omega)] at e2
        rw [e13] at e1
        refine ih c (l + 1) m2 v m' h (by clear h; omega) (by clear h; omega) (fun k i z1 z2 => ?_) (by rw [e2, dc_up_s, nt_c_y l0 z]) (fun p p0 p1 p2 => ?_)
        · rw [e2]
          refine (if_neg z1).trans ?_
          rw [e1, dc_up_k z2]
          exact fr k i z1 z2
        · rw [e2, dc_up_k (by decide), e1]
          by_cases y : p = l
          · rw [y, dc_up_s]
          · have q := nt_c_le (b := c9_p P) (h := p + 1) (k := l) (by clear h; omega) (by clear h; omega)
            have q2 := nt_c_y (b := c9_p P) p0 p2
            rw [dc_up_i (by clear h; omega)]
            exact hh p p0 (by clear h; omega) p2
      replace h := lm_71_7.mp h
      rw [w1, w2, w3, w4, e18] at h
      rcases h with ⟨c1, -⟩ | ⟨c1, -, h⟩
      · exfalso; omega
      · rcases h with ⟨c2, -, h⟩ | ⟨c2, -, h⟩
        · rcases h with ⟨c3, h⟩ | ⟨c3, -, h⟩
          · exact no (if_neg (fun y => y.2 c3)) h
          · exact yes (by unfold c9_p; rw [if_pos ⟨Or.inl c2, c3⟩]; decide) h
        · rcases h with ⟨c3, h⟩ | ⟨c3, -, h⟩
          · refine no (if_neg (fun y => ?_)) h
            rcases y.1 with y | y
            · exact c2 y
            · exact y c3
          · rcases h with ⟨c4, h⟩ | ⟨c4, -, h⟩
            · exact no (if_neg (fun y => y.2 c4)) h
            · exact yes (by unfold c9_p; rw [if_pos ⟨Or.inr c3, c4⟩]; decide) h
/-- what is listed -/
def c9_L (m : dc_M) : Prop := m 17 6 = nt_c (nt_b (m 18)) 61 ∧ m 17 7 = nt_c (nt_b (m 18)) 65 ∧ m 17 8 = nt_c (nt_b (m 18)) 96 ∧ (∀ h, 0 ≤ h → h < 96 → m 18 h ≠ -1 → m 21 (nt_c (nt_b (m 18)) h) = h) ∧ m 17 10 = c9_t (m 18) 181 ∧ (∀ h, 96 ≤ h → h < 181 → m 18 h ≠ -1 → m 22 (c9_t (m 18) h) = h) ∧ (m 17 11 ≠ 0 ↔ ∃ h, 144 ≤ h ∧ h < 148 ∧ m 18 h ≠ -1) ∧ m 17 13 = nt_c (c9_p (m 18)) 12 ∧ ∀ p, 0 ≤ p → p < 12 → c9_p (m 18) p ≠ 0 → m 23 (nt_c (c9_p (m 18)) p) = p
theorem c9_L.cg {m m2 : dc_M} (h : c9_L m) (f : ∀ (k : Nat) (i : Int), ((k = 17 ∧ i ≠ 4) ∨ k = 18 ∨ k = 21 ∨ k = 22 ∨ k = 23) → m2 k i = m k i) : c9_L m2 := by
  have e18 : m2 18 = m 18 := funext fun i => f 18 i (by omega)
  have e21 : m2 21 = m 21 := funext fun i => f 21 i (by omega)
  have e22 : m2 22 = m 22 := funext fun i => f 22 i (by omega)
  have e23 : m2 23 = m 23 := funext fun i => f 23 i (by omega)
  unfold c9_L
  rw [e18, e21, e22, e23, f 17 6 (by omega), f 17 7 (by omega), f 17 8 (by omega), f 17 10 (by omega), f 17 11 (by omega), f 17 13 (by omega)]
  exact h
def c9_W (W : List (Int × Int)) (w : Int) (m : dc_M) : Prop := (∀ x, nt_w (m 18) x ↔ ∃ y, mp_W W w x y ∨ mp_W W w y x)
/-- build(board, without) -/
theorem c9_build {k : Nat} {w : Int} {W : List (Int × Int)} {m : dc_M} (hk : k < 17 ∨ 23 < k) (hk2 : k + 2 < 17 ∨ 23 < k) (hW : cz_W m k W) {v : Int} {m' : dc_M} (h : D_65 k w m v m') : c8_U m' (mp_W W w) ∧ c9_W W w m' ∧ c9_L m' ∧ m' 17 4 = 0 ∧ ∀ (j : Nat) (i : Int), ¬ (j = 17 ∧ (i = 2 ∨ i = 4 ∨ i = 6 ∨ i = 7 ∨ i = 8 ∨ i = 10 ∨ i = 11 ∨ i = 13)) → j ≠ 18 → j ≠ 19 → j ≠ 21 → j ≠ 22 → j ≠ 23 → m' j i = m j i := by
  obtain ⟨m1, e1, m2, e2, m3, e3, c, h⟩ := h
  have e18 : ∀ x, 0 ≤ x → x < 217 → m3 18 x = -1 := fun x x0 x1 => by
    rw [e3, dc_up_k (by decide), e2, dc_up_k (by decide), e1]
    exact if_pos ⟨rfl, x0, x1⟩
  have e172 : m3 17 2 = 0 := by rw [e3, dc_up_i (by decide), e2, dc_up_s]
  have f3 : ∀ (j : Nat) (i : Int), ¬ (j = 17 ∧ (i = 2 ∨ i = 4)) → j ≠ 18 → m3 j i = m j i := fun j i z1 z2 => by
    rw [e3]
    refine (if_neg (fun y => z1 ⟨y.1, Or.inr y.2⟩)).trans ?_
    rw [e2]
    refine (if_neg (fun y => z1 ⟨y.1, Or.inl y.2⟩)).trans ?_
    rw [e1]
    exact if_neg (fun y => z2 y.1)
  have W3 : cz_W m3 k W := ⟨(f3 k 2 (by clear h; omega) (by clear h; omega)).trans hW.1, hW.2.1, fun i hi => by
    rw [f3 (k + 1) _ (by clear h; omega) (by clear h; omega), f3 (k + 2) _ (by clear h; omega) (by clear h; omega)]
    exact hW.2.2 i hi⟩
  have nw : ∀ x, ¬ nt_w (m3 18) x := fun x y => y.2.2 (e18 x y.1 y.2.1)
  have U3 : c8_U m3 (fun x y => ∃ i : Nat, (i : Int) < 0 ∧ i < W.length ∧ (i : Int) ≠ w ∧ W.getD i (0, 0) = (x, y)) := by
    refine ⟨by rw [e172]; decide, fun x x0 x1 => ?_, fun x y => absurd y (nw x), fun x y ⟨i, i1, _⟩ => by exfalso; clear h; omega, fun f _ => ⟨fun _ => 0, fun _ _ _ => rfl, fun x y => absurd y (nw x)⟩⟩
    rw [e172] at x1
    exfalso; clear h; omega
  obtain ⟨m4, v5, m5, v6, m6, v7, f4, U4, w4, -, h5, h6, h7⟩ := c9_bl (Q := fun _ _ _ => True) (by clear h; omega) W3 c 0 m3 v m' h (by decide) (by clear h; omega) (fun _ _ _ _ _ => rfl) U3 (fun x => ⟨fun y => absurd y (nw x), fun ⟨i, i1, _⟩ => by exfalso; clear h; omega⟩)
  clear h
  obtain ⟨p1, p2, p3, p4, p5⟩ := c9_68 h5 rfl
  clear h5
  have a18 : m5 18 = m4 18 := funext fun i => p5 18 i (by omega) (by decide)
  obtain ⟨m7, e7, m8, e8, c8, h6⟩ := h6
  have b18 : m8 18 = m4 18 := by rw [e8, e7]; exact (funext fun i => (dc_up_k (by decide)).trans (dc_up_k (by decide))).trans a18
  obtain ⟨q1, q2, q3, q4⟩ := c9_70 b18 85 c8 96 m8 v6 m6 0 h6 rfl (by decide) (fun _ _ _ _ => rfl) (by rw [e8, dc_up_i (by decide), e7, dc_up_s]; unfold c9_t; omega) (fun x y0 y1 => by exfalso; clear h6 h7; omega) (by rw [e8, dc_up_s]; rfl) (by decide) ⟨fun y => absurd y (by decide), fun ⟨x, y1, y2, y3, _⟩ => by exfalso; clear h6 h7; omega⟩
  clear h6
  have c18 : m6 18 = m4 18 := (funext fun i => q4 18 i (by omega) (by decide)).trans b18
  obtain ⟨m9, e9, c9, h7⟩ := h7
  have d18 : m9 18 = m4 18 := by rw [e9]; exact (funext fun i => dc_up_k (by decide)).trans c18
  obtain ⟨r1, r2, r3⟩ := c9_71 d18 12 c9 0 m9 v7 m' h7 rfl (by decide) (fun _ _ _ _ => rfl) (by rw [e9, dc_up_s]; rfl) (fun p p0 p1 => by exfalso; clear h7; omega)
  clear h7
  have g18 : m' 18 = m4 18 := (funext fun i => r3 18 i (by omega) (by decide)).trans d18
  have F : ∀ (j : Nat) (i : Int), ¬ (j = 17 ∧ (i = 6 ∨ i = 7 ∨ i = 8 ∨ i = 10 ∨ i = 11 ∨ i = 13)) → j ≠ 21 → j ≠ 22 → j ≠ 23 → m' j i = m4 j i := fun j i z1 z2 z3 z4 => by
    rw [r3 j i (by omega) z4, e9]
    refine (if_neg (by omega)).trans ?_
    rw [q4 j i (by omega) z3, e8]
    refine (if_neg (by omega)).trans ?_
    rw [e7]
    exact (if_neg (by omega)).trans (p5 j i (by omega) z2)
  refine ⟨?_, ?_, ?_, ?_, fun j i z1 z2 z3 z4 z5 z6 => ?_⟩
  · unfold c8_U
    rw [g18, show m' 19 = m4 19 from funext fun i => F 19 i (by omega) (by decide) (by decide) (by decide), F 17 2 (by omega) (by decide) (by decide) (by decide)]
    exact U4
  · unfold c9_W
    rw [g18]
    exact w4
  · unfold c9_L
    rw [g18]
    have s9 : ∀ i : Int, i ≠ 13 → m9 17 i = m6 17 i := fun i hi => by rw [e9, dc_up_i hi]
    have s8 : ∀ i : Int, i ≠ 10 → i ≠ 11 → m8 17 i = m5 17 i := fun i h1 h2 => by rw [e8, dc_up_i h2, e7, dc_up_i h1]
    refine ⟨?_, ?_, ?_, fun x y0 y1 yP => ?_, ?_, fun x y0 y1 yP => ?_, ?_, r1, r2⟩
    · rw [r3 17 6 (by decide) (by decide), s9 6 (by decide), q4 17 6 (by decide) (by decide), s8 6 (by decide) (by decide)]; exact p1
    · rw [r3 17 7 (by decide) (by decide), s9 7 (by decide), q4 17 7 (by decide) (by decide), s8 7 (by decide) (by decide)]; exact p2
    · rw [r3 17 8 (by decide) (by decide), s9 8 (by decide), q4 17 8 (by decide) (by decide), s8 8 (by decide) (by decide)]; exact p3
    · rw [r3 21 _ (by omega) (by decide), e9, dc_up_k (by decide), q4 21 _ (by omega) (by decide), e8, dc_up_k (by decide), e7, dc_up_k (by decide)]
      exact p4 x y0 y1 yP
    · rw [r3 17 10 (by decide) (by decide), s9 10 (by decide)]; exact q1
    · rw [r3 22 _ (by omega) (by decide), e9, dc_up_k (by decide)]
      exact q2 x y0 y1 yP
    · rw [r3 17 11 (by decide) (by decide), s9 11 (by decide)]; exact q3
  · rw [F 17 4 (by omega) (by decide) (by decide) (by decide), f4 17 4 (by decide) (by decide) (by decide), e3, dc_up_s]
  · rw [F j i (by omega) z4 z5 z6, f4 j i (by omega) z2 z3, f3 j i (by omega) z2]
