/-! needed: pure, the class -/
/-- which of two cards comes behind the other, by the columns from l on -/
def nd_gt (B : Int → Int → Int) (t : Int → Int) (L l a b : Int) : Prop := ∃ i, l ≤ i ∧ i < L ∧ (∀ k, l ≤ k → k < i → so_r (B a (t k - 1)) = so_r (B b (t k - 1))) ∧ so_r (B b (t i - 1)) < so_r (B a (t i - 1))
/-- the order of the cards behind a pass by column c -/
def nd_r (B : Int → Int → Int) (c : Int) (f : Int → Int) (j : Int) : Int := so_r (B (f j) (c - 1))
noncomputable def nd_1 (B : Int → Int → Int) (n c : Int) (f : Int → Int) (p : Int) : Int := f (so_q (nd_r B c f) n p)
/-- the passes of a set, the last column first -/
noncomputable def nd_f (B : Int → Int → Int) (t : Int → Int) (n : Int) (s : Nat) : Nat → (Int → Int) → Int → Int
  | 0, f => f
  | l + 1, f => nd_f B t n s l (if s / 2 ^ l % 2 = 1 then nd_1 B n (t ((l : Nat) : Int)) f else f)
def nd_ok (B : Int → Int → Int) (t : Int → Int) (n L : Int) (f : Int → Int) : Prop := ∀ j, 1 ≤ j → j < n → ¬ nd_gt B t L 0 (f (j - 1)) (f j)
def nd_i (n : Int) (f : Int → Int) : Prop := ∀ p, 0 ≤ p → p < n → 0 ≤ f p ∧ f p < n
theorem nd_k {B : Int → Int → Int} (V : ∀ k c, bx_v (B k c)) {c n : Int} {f : Int → Int} : so_k (nd_r B c f) n := fun _ _ _ => so_r_v (V _ _)
theorem nd_1_i {B : Int → Int → Int} (V : ∀ k c, bx_v (B k c)) {n c : Int} {f : Int → Int} (h : nd_i n f) : nd_i n (nd_1 B n c f) := fun p p0 p1 => by
  obtain ⟨s1, s2, s3⟩ := so_q_s (by omega) (nd_k V (c := c) (f := f)) p0 p1
  exact h _ s1 s2
/-- the columns from l on are in order -/
def nd_s (B : Int → Int → Int) (t : Int → Int) (n L l : Int) (f : Int → Int) : Prop := ∀ p q, 0 ≤ p → p < q → q < n → ¬ nd_gt B t L l (f p) (f q)
theorem nd_step {B : Int → Int → Int} (V : ∀ k c, bx_v (B k c)) {t : Int → Int} {n L l : Int} {f : Int → Int} (h : nd_s B t n L (l + 1) f) : nd_s B t n L l (nd_1 B n (t l) f) := fun p q p0 pq q1 => by
  have hn : 0 ≤ n := by omega
  obtain ⟨s1, s2, s3⟩ := so_q_s hn (nd_k V (c := t l) (f := f)) p0 (by omega)
  obtain ⟨u1, u2, u3⟩ := so_q_s hn (nd_k V (c := t l) (f := f)) (p := q) (by omega) q1
  rintro ⟨i, i0, i1, ie, il⟩
  have il : so_r (B (f (so_q (nd_r B (t l) f) n q)) (t i - 1)) < so_r (B (f (so_q (nd_r B (t l) f) n p)) (t i - 1)) := il
  have ord : nd_r B (t l) f (so_q (nd_r B (t l) f) n p) < nd_r B (t l) f (so_q (nd_r B (t l) f) n q) ∨ (nd_r B (t l) f (so_q (nd_r B (t l) f) n p) = nd_r B (t l) f (so_q (nd_r B (t l) f) n q) ∧ so_q (nd_r B (t l) f) n p < so_q (nd_r B (t l) f) n q) := by
    rcases Int.lt_trichotomy (nd_r B (t l) f (so_q (nd_r B (t l) f) n p)) (nd_r B (t l) f (so_q (nd_r B (t l) f) n q)) with a | a | a
    · exact Or.inl a
    · refine Or.inr ⟨a, ?_⟩
      rcases Int.lt_trichotomy (so_q (nd_r B (t l) f) n p) (so_q (nd_r B (t l) f) n q) with b | b | b
      · exact b
      · rw [b] at s3; omega
      · have := so_p_lt (rk := nd_r B (t l) f) u1 u2 s1 s2 (Or.inr ⟨a.symm, b⟩); omega
    · have := so_p_lt (rk := nd_r B (t l) f) u1 u2 s1 s2 (Or.inl a); omega
  by_cases e : i = l
  · rw [e] at il
    have a : nd_r B (t l) f (so_q (nd_r B (t l) f) n q) < nd_r B (t l) f (so_q (nd_r B (t l) f) n p) := il
    omega
  · have e0 : nd_r B (t l) f (so_q (nd_r B (t l) f) n p) = nd_r B (t l) f (so_q (nd_r B (t l) f) n q) := ie l (Int.le_refl l) (by omega)
    rcases ord with a | ⟨-, b⟩
    · omega
    · exact h _ _ s1 b u2 ⟨i, by omega, i1, fun k k0 k1 => ie k (by omega) k1, il⟩
theorem nd_full {B : Int → Int → Int} (V : ∀ k c, bx_v (B k c)) {t : Int → Int} {n : Int} {L : Nat} (hL : L < 11) : ∀ (l : Nat) (f : Int → Int), l ≤ L → nd_s B t n ((L : Nat) : Int) ((l : Nat) : Int) f → nd_s B t n ((L : Nat) : Int) 0 (nd_f B t n (2 ^ L - 1) l f) := by
  intro l
  induction l with
  | zero => intro f _ h; exact h
  | succ l ih =>
    intro f hl h
    show nd_s B t n ((L : Nat) : Int) 0 (nd_f B t n (2 ^ L - 1) l (if (2 ^ L - 1) / 2 ^ l % 2 = 1 then nd_1 B n (t ((l : Nat) : Int)) f else f))
    rw [if_pos (tt_f1 L hL l (by omega))]
    exact ih _ (by omega) (nd_step V (by rw [show ((l : Nat) : Int) + 1 = ((l + 1 : Nat) : Int) by omega]; exact h))
theorem nd_all {B : Int → Int → Int} (V : ∀ k c, bx_v (B k c)) {t : Int → Int} {n : Int} {L : Nat} (hL : L < 11) : nd_ok B t n ((L : Nat) : Int) (nd_f B t n (2 ^ L - 1) L (fun j => j)) := fun j j1 jn => nd_full V hL L (fun j => j) (Nat.le_refl L) (fun p q _ _ _ => by
  rintro ⟨i, i0, i1, -⟩
  omega) (j - 1) j (by omega) (by omega) jn
/-- the least of the sets with the fewest columns, of those below s -/
noncomputable def nd_b (P : Nat → Prop) (L : Nat) : Nat → Nat
  | 0 => 2 ^ L - 1
  | s + 1 => @ite Nat (pb_s 8 s < pb_s 8 (nd_b P L s) ∧ P s) (Classical.propDecidable _) s (nd_b P L s)
theorem nd_b_le {P : Nat → Prop} {L : Nat} : ∀ s, s ≤ 2 ^ L → nd_b P L s ≤ 2 ^ L - 1
  | 0, _ => Nat.le_refl _
  | s + 1, h => by
    show @ite Nat (pb_s 8 s < pb_s 8 (nd_b P L s) ∧ P s) (Classical.propDecidable _) s (nd_b P L s) ≤ 2 ^ L - 1
    split
    · omega
    · exact nd_b_le s (by omega)
theorem nd_b_s {P : Nat → Prop} {L s : Nat} (h1 : pb_s 8 s < pb_s 8 (nd_b P L s)) (h2 : P s) : nd_b P L (s + 1) = s := if_pos ⟨h1, h2⟩
theorem nd_b_n1 {P : Nat → Prop} {L s : Nat} (h : ¬ pb_s 8 s < pb_s 8 (nd_b P L s)) : nd_b P L (s + 1) = nd_b P L s := if_neg (fun z => h z.1)
theorem nd_b_n2 {P : Nat → Prop} {L s : Nat} (h : ¬ P s) : nd_b P L (s + 1) = nd_b P L s := if_neg (fun z => h z.2)
def nd_P (B : Int → Int → Int) (t : Int → Int) (n : Int) (L s : Nat) : Prop := nd_ok B t n ((L : Nat) : Int) (nd_f B t n s L (fun j => j))
def nd_c (t : Int → Int) (L : Int) : Prop := (1 ≤ L ∧ L ≤ 8) ∧ ∀ i, 0 ≤ i → i < L → 1 ≤ t i ∧ t i ≤ 20
/-! the class -/
theorem cs_15 {x : Int} {m : dc_M} {v : Int} {m' : dc_M} (h : D_15 x m v m') : m' = m ∧ ((v = 1 ∧ 1 ≤ x ∧ x ≤ 20) ∨ (v = 0 ∧ ¬ (1 ≤ x ∧ x ≤ 20))) := by
  rcases h with ⟨c2, ev, em⟩ | ⟨c2, ⟨c3, ev, em⟩ | ⟨c3, ev, em⟩⟩
  · exact ⟨em, Or.inr ⟨ev, fun z => by omega⟩⟩
  · exact ⟨em, Or.inr ⟨ev, fun z => by omega⟩⟩
  · exact ⟨em, Or.inl ⟨ev, by omega, by omega⟩⟩
theorem cs_115 {m : dc_M} (hl : 0 ≤ m 1 1 ∧ m 1 1 ≤ 740) {v : Int} {m' : dc_M} (h : D_115 m v m') : m' = m ∧ ((v = 1 ∧ nd_c (m 2) (m 1 1)) ∨ (v = 0 ∧ ¬ nd_c (m 2) (m 1 1))) := by
  have main : ∀ (c : Nat) (l v : Int) (m' : dc_M), LM_115 c 2 l m v m' → 0 ≤ l → l ≤ m 1 1 → (∀ i, 0 ≤ i → i < l → 1 ≤ m 2 i ∧ m 2 i ≤ 20) → m' = m ∧ ((v = 1 ∧ nd_c (m 2) (m 1 1)) ∨ (v = 0 ∧ ¬ nd_c (m 2) (m 1 1))) := by
    intro c
    induction c with
    | zero => intro l v m' h; exact h.elim
    | succ c ih =>
      intro l v m' h l0 l1 hv
      replace h := lm_115_2.mp h
      rw [dw (z := l + 1) (by omega) (by omega)] at h
      rcases h with ⟨c1, ⟨c2, ev, em⟩ | ⟨c2, ⟨c3, ev, em⟩ | ⟨c3, ev, em⟩⟩⟩ | ⟨c1, -, v2, m2, h2, h⟩
      · exact ⟨em, Or.inr ⟨ev, fun z => by have := z.1.1; omega⟩⟩
      · exact ⟨em, Or.inr ⟨ev, fun z => by have := z.1.2; omega⟩⟩
      · exact ⟨em, Or.inl ⟨ev, ⟨by omega, by omega⟩, fun i i0 i1 => hv i i0 (by omega)⟩⟩
      · obtain ⟨e2, q⟩ := cs_15 h2
        clear h2
        rw [e2] at h
        rcases h with ⟨c2, h⟩ | ⟨c2, ev, em⟩
        · refine ih (l + 1) v m' h (by clear h; omega) (by clear h; omega) (fun i i0 i1 => ?_)
          by_cases y : i = l
          · rw [y]
            rcases q with ⟨-, q⟩ | ⟨q, -⟩
            · exact q
            · exact absurd q c2
          · exact hv i i0 (by clear h; omega)
        · refine ⟨em, Or.inr ⟨ev, fun z => ?_⟩⟩
          rcases q with ⟨q, -⟩ | ⟨-, q⟩
          · omega
          · exact q (z.2 l l0 (by omega))
  obtain ⟨c, h⟩ := h
  exact main c 0 v m' h (Int.le_refl 0) hl.1 (fun i i0 i1 => by omega)
/-- which of two cards comes behind: the class -/
theorem cs_33 {B : Int → Int → Int} (V : ∀ k c, bx_v (B k c)) {t : Int → Int} {L : Int} (hc : nd_c t L) {a b x y : Int} {m : dc_M} (e1 : m 1 1 = L) (e2 : ∀ i, 0 ≤ i → i < L → m 2 i = t i) (ha : 0 ≤ x ∧ x ≤ 6380) (hb : 0 ≤ y ∧ y ≤ 6380) (ca : ∀ d, 0 ≤ d → d < 20 → m 4 (x + d) = B a d) (cb : ∀ d, 0 ≤ d → d < 20 → m 4 (y + d) = B b d) {v : Int} {m' : dc_M} (h : D_33 x y m v m') : m' = m ∧ ((v = 1 ∧ nd_gt B t L 0 a b) ∨ (v = 0 ∧ ¬ nd_gt B t L 0 a b)) := by
  have main : ∀ (c : Nat) (l v : Int) (m' : dc_M), LM_33 x y c 3 l m v m' → 0 ≤ l → l ≤ L → (∀ k, 0 ≤ k → k < l → so_r (B a (t k - 1)) = so_r (B b (t k - 1))) → m' = m ∧ ((v = 1 ∧ nd_gt B t L 0 a b) ∨ (v = 0 ∧ ¬ nd_gt B t L 0 a b)) := by
    intro c
    induction c with
    | zero => intro l v m' h; exact h.elim
    | succ c ih =>
      intro l v m' h l0 l1 heq
      replace h := lm_33_3.mp h
      have l8 := hc.1.2
      rw [e1, dw (z := l + 1) (by omega) (by omega)] at h
      rcases h with ⟨c1, ev, em⟩ | ⟨c1, -, v2, m2, h2, -, v3, m3, h3, h⟩
      · refine ⟨em, Or.inr ⟨ev, ?_⟩⟩
        rintro ⟨i, i0, i1, ie, il⟩
        have := heq i i0 (by omega)
        omega
      · have tl := hc.2 l l0 (by clear h h2 h3; omega)
        have el := e2 l l0 (by clear h h2 h3; omega)
        rw [el] at h2
        obtain ⟨a2, b2⟩ := cs_28 (by rw [ca _ (by clear h h2 h3; omega) (by clear h h2 h3; omega)]; exact V _ _) ⟨ha.1, by clear h h2 h3; omega⟩ tl h2
        clear h2
        rw [a2, el] at h3
        obtain ⟨a3, b3⟩ := cs_28 (by rw [cb _ (by clear h h3; omega) (by clear h h3; omega)]; exact V _ _) ⟨hb.1, by clear h h3; omega⟩ tl h3
        clear h3
        rw [ca _ (by clear h; omega) (by clear h; omega)] at b2
        rw [cb _ (by clear h; omega) (by clear h; omega)] at b3
        have r1 := so_r_v (V a (t l - 1))
        have r2 := so_r_v (V b (t l - 1))
        rw [a3, b2, b3, dw (by clear h; omega) (by clear h; omega)] at h
        rcases h with ⟨c2, h⟩ | ⟨c2, ⟨c3, ev, em⟩ | ⟨c3, ev, em⟩⟩
        · refine ih (l + 1) v m' h (by clear h; omega) (by clear h; omega) (fun k k0 k1 => ?_)
          by_cases w : k = l
          · rw [w]; clear h; omega
          · exact heq k k0 (by clear h; omega)
        · refine ⟨em, Or.inr ⟨ev, ?_⟩⟩
          rintro ⟨i, i0, i1, ie, il⟩
          rcases Int.lt_trichotomy i l with w | w | w
          · have := heq i i0 w; omega
          · rw [w] at il; omega
          · have := ie l l0 w; omega
        · exact ⟨em, Or.inl ⟨ev, l, l0, by omega, heq, by omega⟩⟩
  obtain ⟨c, h⟩ := h
  exact main c 0 v m' h (Int.le_refl 0) (by have := hc.1.1; omega) (fun k k0 k1 => by omega)
/-- the passes of a set, and whether the cards are then in order: the class -/
theorem cs_32 {N : Int → Int} {B : Int → Int → Int → Int} (V : ∀ b k c, bx_v (B b k c)) {t : Int → Int} {L : Nat} (hc : nd_c t ((L : Nat) : Int)) {x : Int} (hx : 0 ≤ x ∧ x < 8) {m0 : dc_M} (hb : bx_C N B m0) (e1 : m0 1 1 = ((L : Nat) : Int)) (e2 : ∀ i, 0 ≤ i → i < ((L : Nat) : Int) → m0 2 i = t i) {s : Nat} (hs : s < 1024) {v : Int} {m' : dc_M} (h : D_32 x ((s : Nat) : Int) m0 v m') : ((v = 1 ∧ nd_P (B x) t (N x) L s) ∨ (v = 0 ∧ ¬ nd_P (B x) t (N x) L s)) ∧ ∀ (k : Nat) (i : Int), k ≠ 8 → k ≠ 9 → k ≠ 10 → m' k i = m0 k i := by
  obtain ⟨nx, n0, n40⟩ := hb.1 x hx.1 hx.2
  have B2 := hb.2.1
  have B4 := hb.2.2.2
  have L8 := hc.1.2
  have Vx : ∀ k c, bx_v (B x k c) := fun k c => V x k c
  obtain ⟨-, -, m1, h1, c, h⟩ := h
  rw [nx, dw (z := x * 40) (by clear h; omega) (by clear h; omega), show x * 40 = 40 * x by clear h; omega] at h1
  have f1 : ∀ (k : Nat) (i : Int), k ≠ 8 → m1 k i = m0 k i := fun k i y => by rw [h1, dc_cpy_k y]
  rw [nx, f1 1 1 (by decide), e1, dw (by clear h; omega) (by clear h; omega)] at h
  have cell : ∀ (m : dc_M) (f : Int → Int), (∀ (k : Nat) (i : Int), k ≠ 8 → k ≠ 9 → k ≠ 10 → m k i = m0 k i) → nd_i (N x) f → (∀ j, 0 ≤ j → j < N x → m 8 j = m0 5 (40 * x + f j)) → ∀ j, 0 ≤ j → j < N x → (0 ≤ m 8 j ∧ m 8 j ≤ 6380) ∧ ∀ d, 0 ≤ d → d < 20 → m 4 (m 8 j + d) = B x (f j) d := fun m f fr fi f8 j j0 j1 => by
    have q := fi j j0 j1
    have st := hb.st hx.1 hx.2 (k := f j) q.1 (by omega)
    rw [f8 j j0 j1]
    exact ⟨st, fun d d0 d1 => by rw [fr 4 _ (by decide) (by decide) (by decide)]; exact B4 x (f j) d hx.1 hx.2 q.1 q.2 d0 d1⟩
  have chk : ∀ (c : Nat) (l : Int) (f : Int → Int) (m : dc_M) (v : Int) (m' : dc_M), LM_32 x ((s : Nat) : Int) c 70 (N x) l m v m' → 1 ≤ l → (l = 1 ∨ l ≤ N x) → nd_i (N x) f → (∀ (k : Nat) (i : Int), k ≠ 8 → k ≠ 9 → k ≠ 10 → m k i = m0 k i) → (∀ j, 0 ≤ j → j < N x → m 8 j = m0 5 (40 * x + f j)) → (∀ j, 1 ≤ j → j < l → ¬ nd_gt (B x) t ((L : Nat) : Int) 0 (f (j - 1)) (f j)) → ((v = 1 ∧ nd_ok (B x) t (N x) ((L : Nat) : Int) f) ∨ (v = 0 ∧ ¬ nd_ok (B x) t (N x) ((L : Nat) : Int) f)) ∧ m' = m := by
    intro c
    induction c with
    | zero => intro l f m v m' h; exact h.elim
    | succ c ih =>
      intro l f m v m' h l0 l1 fi fr f8 hok
      replace h := lm_32_70.mp h
      rw [dw (z := l + 1) (by omega) (by omega), dw (z := l - 1) (by omega) (by omega)] at h
      rcases h with ⟨c1, ev, em⟩ | ⟨c1, -, -, v2, m2, h2, h⟩
      · exact ⟨Or.inl ⟨ev, fun j j0 j1 => hok j j0 (by omega)⟩, em⟩
      · obtain ⟨a1, a2⟩ := cell m f fr fi f8 (l - 1) (by clear h h2; omega) (by clear h h2; omega)
        obtain ⟨b1, b2⟩ := cell m f fr fi f8 l (by clear h h2; omega) (by clear h h2; omega)
        obtain ⟨e3, q⟩ := cs_33 Vx hc ((fr 1 1 (by decide) (by decide) (by decide)).trans e1) (fun i i0 i1 => (fr 2 i (by decide) (by decide) (by decide)).trans (e2 i i0 i1)) a1 b1 a2 b2 h2
        clear h2
        rw [e3] at h
        rcases h with ⟨c2, h⟩ | ⟨c2, ev, em⟩
        · refine ih (l + 1) f m v m' h (by clear h; omega) (by clear h; omega) fi fr f8 (fun j j0 j1 => ?_)
          by_cases y : j = l
          · rw [y]
            rcases q with ⟨q, -⟩ | ⟨-, q⟩
            · exfalso; clear h; omega
            · exact q
          · exact hok j j0 (by clear h; omega)
        · refine ⟨Or.inr ⟨ev, fun z => ?_⟩, em⟩
          rcases q with ⟨-, q⟩ | ⟨q, -⟩
          · exact z l l0 (by omega) q
          · exact c2 q
  have main : ∀ (c l : Nat) (f : Int → Int) (m : dc_M) (v : Int) (m' : dc_M), LM_32 x ((s : Nat) : Int) c 34 (N x) (((l : Nat) : Int) - 1) m v m' → l ≤ L → nd_i (N x) f → (∀ (k : Nat) (i : Int), k ≠ 8 → k ≠ 9 → k ≠ 10 → m k i = m0 k i) → (∀ j, 0 ≤ j → j < N x → m 8 j = m0 5 (40 * x + f j)) → ((v = 1 ∧ nd_ok (B x) t (N x) ((L : Nat) : Int) (nd_f (B x) t (N x) s l f)) ∨ (v = 0 ∧ ¬ nd_ok (B x) t (N x) ((L : Nat) : Int) (nd_f (B x) t (N x) s l f))) ∧ ∀ (k : Nat) (i : Int), k ≠ 8 → k ≠ 9 → k ≠ 10 → m' k i = m0 k i := by
    intro c
    induction c with
    | zero => intro l f m v m' h; exact h.elim
    | succ c ih =>
      intro l f m v m' h hl fi fr f8
      replace h := lm_32_34.mp h
      rw [dw (z := ((l : Nat) : Int) - 1 + (-1)) (by omega) (by omega)] at h
      rcases h with ⟨c1, h⟩ | ⟨c1, h⟩
      · have el : l = 0 := by clear h; omega
        rw [el]
        obtain ⟨r1, r2⟩ := chk c 1 f m v m' h (by decide) (Or.inl rfl) fi fr f8 (fun j j0 j1 => by exfalso; clear h; omega)
        exact ⟨r1, by rw [r2]; exact fr⟩
      · obtain ⟨l', rfl⟩ : ∃ l', l = l' + 1 := ⟨l - 1, by clear h; omega⟩
        rw [show ((l' + 1 : Nat) : Int) - 1 = ((l' : Nat) : Int) by omega, tt_f5 s hs l' (by clear h; omega)] at h
        rw [show ((l' : Nat) : Int) + (-1) = ((l' : Nat) : Int) - 1 by omega] at h
        show ((v = 1 ∧ nd_ok (B x) t (N x) ((L : Nat) : Int) (nd_f (B x) t (N x) s l' (if s / 2 ^ l' % 2 = 1 then nd_1 (B x) (N x) (t ((l' : Nat) : Int)) f else f))) ∨ (v = 0 ∧ ¬ nd_ok (B x) t (N x) ((L : Nat) : Int) (nd_f (B x) t (N x) s l' (if s / 2 ^ l' % 2 = 1 then nd_1 (B x) (N x) (t ((l' : Nat) : Int)) f else f)))) ∧ _
        rcases h with ⟨c2, h⟩ | ⟨c2, -, v2, m2, h2, h⟩
        · have z : ¬ s / 2 ^ l' % 2 = 1 := fun z => by
            rw [if_pos z] at c2
            exact absurd c2 (by decide)
          rw [if_neg z]
          exact ih l' f m v m' h (by clear h; omega) fi fr f8
        · have z : s / 2 ^ l' % 2 = 1 := by
            by_cases z : s / 2 ^ l' % 2 = 1
            · exact z
            · rw [if_neg z] at c2
              exact absurd rfl c2
          rw [if_pos z]
          have tl := hc.2 ((l' : Nat) : Int) (by omega) (by clear h h2; omega)
          rw [fr 2 _ (by decide) (by decide) (by decide), e2 _ (by omega) (by clear h h2; omega)] at h2
          obtain ⟨s1, s2⟩ := cs_30 ⟨n0, n40⟩ tl (nd_k Vx (c := t ((l' : Nat) : Int)) (f := f) (n := N x)) (fun j j0 j1 => by
            obtain ⟨a1, a2⟩ := cell m f fr fi f8 j j0 j1
            rw [a2 _ (by clear h h2; omega) (by clear h h2; omega)]
            exact ⟨⟨a1.1, by clear h h2; omega⟩, Vx _ _, rfl⟩) h2
          clear h2
          refine ih l' _ m2 v m' h (by clear h; omega) (nd_1_i Vx fi) (fun k i y1 y2 y3 => (s2 k i y2 y3 (fun w => y1 w.1)).trans (fr k i y1 y2 y3)) (fun j j0 j1 => ?_)
          obtain ⟨u1, u2, u3⟩ := so_q_s n0 (nd_k Vx (c := t ((l' : Nat) : Int)) (f := f) (n := N x)) j0 j1
          have a := s1 _ u1 u2
          rw [u3, f8 _ u1 u2] at a
          exact a
  exact main c L (fun j => j) m1 v m' h (Nat.le_refl L) (fun p p0 p1 => ⟨p0, p1⟩) (fun k i y1 _ _ => f1 k i y1) (fun j j0 j1 => by
    rw [h1, dc_cpy_i j0 (by clear h; omega), show 40 * x + (j - 0) = 40 * x + j by clear h; omega])
theorem cs_31 {N : Int → Int} {B : Int → Int → Int → Int} (V : ∀ b k c, bx_v (B b k c)) {t : Int → Int} {L : Nat} (hc : nd_c t ((L : Nat) : Int)) {x : Int} (hx : 0 ≤ x ∧ x < 8) {m0 : dc_M} (hb : bx_C N B m0) (e1 : m0 1 1 = ((L : Nat) : Int)) (e2 : ∀ i, 0 ≤ i → i < ((L : Nat) : Int) → m0 2 i = t i) {v : Int} {m' : dc_M} (h : D_31 x m0 v m') : v = ((nd_b (nd_P (B x) t (N x) L) L (2 ^ L - 1) : Nat) : Int) ∧ ∀ (k : Nat) (i : Int), k ≠ 8 → k ≠ 9 → k ≠ 10 → m' k i = m0 k i := by
  have L8 := hc.1.2
  have f3 := tt_f3 L (by omega)
  obtain ⟨c, h⟩ := h
  have e : dc_w ((sv_g (ae_shl (sv_u 1) (sv_u (m0 1 1)))) - 1) = ((2 ^ L - 1 : Nat) : Int) := by
    rw [e1, f3.1, dw (by omega) (by omega)]
    omega
  rw [e] at h
  have main : ∀ (c s : Nat) (m : dc_M) (v : Int) (m' : dc_M), LM_31 x c 15 ((2 ^ L - 1 : Nat) : Int) ((nd_b (nd_P (B x) t (N x) L) L s : Nat) : Int) ((s : Nat) : Int) m v m' → s ≤ 2 ^ L - 1 → (∀ (k : Nat) (i : Int), k ≠ 8 → k ≠ 9 → k ≠ 10 → m k i = m0 k i) → v = ((nd_b (nd_P (B x) t (N x) L) L (2 ^ L - 1) : Nat) : Int) ∧ ∀ (k : Nat) (i : Int), k ≠ 8 → k ≠ 9 → k ≠ 10 → m' k i = m0 k i := by
    intro c
    induction c with
    | zero => intro s m v m' h; exact h.elim
    | succ c ih =>
      intro s m v m' h hs fr
      have bl := nd_b_le (P := nd_P (B x) t (N x) L) (L := L) s (by omega)
      replace h := lm_31_15.mp h
      rw [dw (z := ((s : Nat) : Int) + 1) (by omega) (by omega), show ((s : Nat) : Int) + 1 = ((s + 1 : Nat) : Int) by omega] at h
      rcases h with ⟨c1, ev, em⟩ | ⟨c1, v2, m2, h2, v3, m3, h3, h⟩
      · have e : s = 2 ^ L - 1 := by omega
        rw [ev, em, e]
        exact ⟨rfl, fr⟩
      · obtain ⟨a2, b2⟩ := pb_283 (by clear h h2 h3; omega) h2
        subst b2
        obtain ⟨a3, b3⟩ := pb_283 (by clear h h2 h3; omega) h3
        subst b3
        rw [a2, a3] at h
        rcases h with ⟨c2, h⟩ | ⟨c2, v4, m4, h4, h⟩
        · have e : nd_b (nd_P (B x) t (N x) L) L (s + 1) = nd_b (nd_P (B x) t (N x) L) L s := nd_b_n1 (by omega)
          exact ih (s + 1) m3 v m' (by rw [e]; exact h) (by omega) fr
        · obtain ⟨q, f4⟩ := cs_32 V hc hx (hb.cg (fun k i hk => fr k i (by clear h h2 h3 h4; omega) (by clear h h2 h3 h4; omega) (by clear h h2 h3 h4; omega))) ((fr 1 1 (by decide) (by decide) (by decide)).trans e1) (fun i i0 i1 => (fr 2 i (by decide) (by decide) (by decide)).trans (e2 i i0 i1)) (by clear h h2 h3 h4; omega) h4
          clear h4
          have g4 : ∀ (k : Nat) (i : Int), k ≠ 8 → k ≠ 9 → k ≠ 10 → m4 k i = m0 k i := fun k i y1 y2 y3 => (f4 k i y1 y2 y3).trans (fr k i y1 y2 y3)
          rcases h with ⟨c5, h⟩ | ⟨c5, h⟩
          · have np : ¬ nd_P (B x) t (N x) L s := by
              rcases q with ⟨q, -⟩ | ⟨-, q⟩
              · exfalso; clear h h2 h3; omega
              · exact q
            have e : nd_b (nd_P (B x) t (N x) L) L (s + 1) = nd_b (nd_P (B x) t (N x) L) L s := nd_b_n2 np
            exact ih (s + 1) m4 v m' (by rw [e]; exact h) (by omega) g4
          · have yp : nd_P (B x) t (N x) L s := by
              rcases q with ⟨-, q⟩ | ⟨q, -⟩
              · exact q
              · exact absurd q c5
            have e : nd_b (nd_P (B x) t (N x) L) L (s + 1) = s := nd_b_s (by clear h h2 h3; omega) yp
            exact ih (s + 1) m4 v m' (by rw [e]; exact h) (by omega) g4
  exact main c 0 m0 v m' h (Nat.zero_le _) (fun _ _ _ _ _ => rfl)
theorem cs_needed {N : Int → Int} {B : Int → Int → Int → Int} (V : ∀ b k c, bx_v (B b k c)) {m : dc_M} (hb : bx_C N B m) (hl : 0 ≤ m 1 1 ∧ m 1 1 ≤ 740) {x v : Int} {m' : dc_M} (h : D_170 x m v m') : m' 1 1 = 0 ∧ (∀ (k : Nat) (i : Int), k ≠ 8 → k ≠ 9 → k ≠ 10 → ¬ (k = 1 ∧ i = 1) → ¬ (k = 0 ∧ i = 13) → m' k i = m k i) ∧ (((0 ≤ x ∧ x < 8) ∧ nd_c (m 2) (m 1 1) ∧ ∃ L : Nat, m 1 1 = ((L : Nat) : Int) ∧ v = ((pb_s 8 (nd_b (nd_P (B x) (m 2) (N x) L) L (2 ^ L - 1)) : Nat) : Int) ∧ m' 0 13 = ((nd_b (nd_P (B x) (m 2) (N x) L) L (2 ^ L - 1) : Nat) : Int)) ∨ (¬ ((0 ≤ x ∧ x < 8) ∧ nd_c (m 2) (m 1 1)) ∧ v = -1 ∧ m' 0 13 = m 0 13)) := by
  obtain ⟨v1, m1, h1, h⟩ := h
  obtain ⟨e1, q1⟩ := ck_box h1
  clear h1
  rw [e1] at h
  have no : ∀ m2 : dc_M, m2 = dc_up m 1 1 0 → ¬ ((0 ≤ x ∧ x < 8) ∧ nd_c (m 2) (m 1 1)) → v = -1 → m' = m2 → m' 1 1 = 0 ∧ (∀ (k : Nat) (i : Int), k ≠ 8 → k ≠ 9 → k ≠ 10 → ¬ (k = 1 ∧ i = 1) → ¬ (k = 0 ∧ i = 13) → m' k i = m k i) ∧ (((0 ≤ x ∧ x < 8) ∧ nd_c (m 2) (m 1 1) ∧ ∃ L : Nat, m 1 1 = ((L : Nat) : Int) ∧ v = ((pb_s 8 (nd_b (nd_P (B x) (m 2) (N x) L) L (2 ^ L - 1)) : Nat) : Int) ∧ m' 0 13 = ((nd_b (nd_P (B x) (m 2) (N x) L) L (2 ^ L - 1) : Nat) : Int)) ∨ (¬ ((0 ≤ x ∧ x < 8) ∧ nd_c (m 2) (m 1 1)) ∧ v = -1 ∧ m' 0 13 = m 0 13)) := fun m2 e2 z ev em => by
    have f : ∀ (k : Nat) (i : Int), ¬ (k = 1 ∧ i = 1) → m' k i = m k i := fun k i y => by rw [em, e2]; exact if_neg y
    exact ⟨by rw [em, e2, dc_up_s], fun k i _ _ _ y _ => f k i y, Or.inr ⟨z, ev, f 0 13 (by omega)⟩⟩
  rcases h with ⟨c1, m2, e2, ev, em⟩ | ⟨c1, v2, m2, h2, h⟩
  · refine no m2 e2 (fun z => ?_) ev em
    rcases q1 with ⟨q1, -⟩ | ⟨-, q1⟩
    · omega
    · exact q1 z.1
  · have hx : 0 ≤ x ∧ x < 8 := by
      rcases q1 with ⟨-, q1⟩ | ⟨q1, -⟩
      · exact q1
      · exact absurd q1 c1
    obtain ⟨e2, q2⟩ := cs_115 hl h2
    clear h2
    rw [e2] at h
    rcases h with ⟨c2, m3, e3, ev, em⟩ | ⟨c2, v3, m3, h3, m4, e4, m5, e5, v6, m6, h6, ev, em⟩
    · refine no m3 e3 (fun z => ?_) ev em
      rcases q2 with ⟨q2, -⟩ | ⟨-, q2⟩
      · omega
      · exact q2 z.2
    · have hc : nd_c (m 2) (m 1 1) := by
        rcases q2 with ⟨-, q2⟩ | ⟨q2, -⟩
        · exact q2
        · exact absurd q2 c2
      have eL : m 1 1 = (((m 1 1).toNat : Nat) : Int) := by clear h3 h6; omega
      have hL8 : (m 1 1).toNat ≤ 8 := by have := hc.1.2; clear h3 h6; omega
      have hc' : nd_c (m 2) (((m 1 1).toNat : Nat) : Int) := by rw [← eL]; exact hc
      obtain ⟨a3, f3⟩ := cs_31 V hc' hx hb eL (fun _ _ _ => rfl) h3
      clear h3
      have q5 : m5 0 13 = ((nd_b (nd_P (B x) (m 2) (N x) (m 1 1).toNat) (m 1 1).toNat (2 ^ (m 1 1).toNat - 1) : Nat) : Int) := by rw [e5, dc_up_k (by decide), e4, dc_up_s]; exact a3
      rw [q5] at h6
      have g := tt_f3 (m 1 1).toNat (by omega)
      obtain ⟨a6, b6⟩ := pb_283 (by have := nd_b_le (P := nd_P (B x) (m 2) (N x) (m 1 1).toNat) (L := (m 1 1).toNat) (2 ^ (m 1 1).toNat - 1) (by omega); clear h6; omega) h6
      clear h6
      rw [em, b6]
      refine ⟨by rw [e5, dc_up_s], fun k i y1 y2 y3 y4 y5 => ?_, Or.inl ⟨hx, hc, _, eL, ev.trans a6, q5⟩⟩
      rw [e5]
      refine (if_neg y4).trans ?_
      rw [e4]
      exact (if_neg y5).trans (f3 k i y1 y2 y3)
