/-! THE CLASS'S CYCLE: a LINE, and LINES told -/
/-- addBlankLine -/
theorem ce_97l {k : Nat} {n : Int} (n0 : 0 ≤ n) (n1 : n < 60) : ∀ (f c : Nat) (l : Int) (m : dc_M) (v : Int) (m' : dc_M), LM_97 k c 17 l m v m' → 12 * n + 12 - l = (f : Int) → 0 ≤ l → m k 1 = n → m' k 1 = n + 1 ∧ (∀ i, l ≤ i → i < 12 * n + 12 → m' (k + 1) i = 15) ∧ ∀ (j : Nat) (i : Int), ¬ (j = k ∧ i = 1) → ¬ (j = k + 1 ∧ l ≤ i ∧ i < 12 * n + 12) → m' j i = m j i := by
  intro f
  induction f with
  | zero =>
    intro c l m v m' h hf l0 en
    cases c with
    | zero => exact h.elim
    | succ c =>
      replace h := lm_97_17.mp h
      rw [en, show dc_w (n * 12) = 12 * n by rw [dw (by omega) (by omega)]; omega, dw (z := 12 * n + 12) (by omega) (by omega), dw (z := n + 1) (by omega) (by omega)] at h
      rcases h with ⟨-, m1, e1, -, em⟩ | ⟨c1, -⟩
      · rw [em, e1]
        exact ⟨dc_up_s, fun i i0 i1 => by exfalso; omega, fun j i z _ => if_neg z⟩
      · exfalso; omega
  | succ f ih =>
    intro c l m v m' h hf l0 en
    cases c with
    | zero => exact h.elim
    | succ c =>
      replace h := lm_97_17.mp h
      rw [en, show dc_w (n * 12) = 12 * n by rw [dw (by omega) (by omega)]; omega, dw (z := 12 * n + 12) (by omega) (by omega), dw (z := l + 1) (by omega) (by omega), cd_b (x := 15) (by decide) (by decide)] at h
      rcases h with ⟨c1, -⟩ | ⟨c1, -, m1, e1, h⟩
      · exfalso; omega
      · obtain ⟨i1, i2, i3⟩ := ih c (l + 1) m1 v m' h (by clear h; omega) (by clear h; omega) (by rw [e1, dc_up_k (by clear h; omega)]; exact en)
        clear h
        refine ⟨i1, fun i j0 j1 => ?_, fun j i z1 z2 => ?_⟩
        · by_cases z : i = l
          · rw [z, i3 (k + 1) l (by omega) (by omega), e1, dc_up_s]
          · exact i2 i (by omega) j1
        · rw [i3 j i z1 (fun y => z2 ⟨y.1, by omega, y.2.2⟩), e1]
          exact if_neg (fun y => z2 ⟨y.1, by omega, by omega⟩)
theorem ce_97 {k : Nat} {n : Int} (n0 : 0 ≤ n) (n1 : n < 60) {m : dc_M} {v : Int} {m' : dc_M} (h : D_97 k m v m') (en : m k 1 = n) : m' k 1 = n + 1 ∧ (∀ i, 12 * n ≤ i → i < 12 * n + 12 → m' (k + 1) i = 15) ∧ ∀ (j : Nat) (i : Int), ¬ (j = k ∧ i = 1) → ¬ (j = k + 1 ∧ 12 * n ≤ i ∧ i < 12 * n + 12) → m' j i = m j i := by
  unfold D_97 at h
  rw [en, show dc_w (n * 12) = 12 * n by rw [dw (by omega) (by omega)]; omega] at h
  rcases h with ⟨c1, -⟩ | ⟨-, c, h⟩
  · exfalso; omega
  · exact ce_97l n0 n1 12 c (12 * n) m v m' h (by omega) (by omega) en
/-- write -/
theorem ce_98 {k : Nat} {n : Int} (n0 : 0 ≤ n) (n1 : n < 60) {b x : Int} (b0 : 0 ≤ b) (b1 : b < 12) (x0 : 0 ≤ x) (x1 : x ≤ 15) {m : dc_M} {v : Int} {m' : dc_M} (h : D_98 k (b + 1) x m v m') (en : m k 1 = n + 1) : m' = dc_up m (k + 1) (12 * n + b) x := by
  unfold D_98 at h
  rw [en, dw (z := n + 1 - 1) (by omega) (by omega), dw (z := (n + 1 - 1) * 12) (by omega) (by omega), dw (z := (n + 1 - 1) * 12 + (b + 1)) (by omega) (by omega), dw (z := (n + 1 - 1) * 12 + (b + 1) - 1) (by omega) (by omega), cd_b x0 x1, cd_b x0 x1, show (n + 1 - 1) * 12 + (b + 1) - 1 = 12 * n + b by omega] at h
  rcases h with ⟨c1, -⟩ | ⟨-, h⟩
  · exfalso; omega
  · rcases h with ⟨c1, -⟩ | ⟨-, h⟩
    · exfalso; omega
    · rcases h with ⟨c1, -⟩ | ⟨-, h⟩
      · exfalso; omega
      · rcases h with ⟨c1, -⟩ | ⟨-, -, m1, e1, -, em⟩
        · exfalso; omega
        · exact em.trans e1
/-- hasLikeLine -/
theorem ce_99l {k k1 : Nat} {n : Int} (n0 : 0 ≤ n) (n1 : n < 60) {m : dc_M} : ∀ (f c : Nat) (l v : Int) (m' : dc_M), LM_99 k k1 n c 33 l m v m' → 12 * n + 12 - l = (f : Int) → 0 ≤ l → m' = m ∧ ((v = 1 ∧ ∀ i, l ≤ i → i < 12 * n + 12 → m (k + 1) i = m (k1 + 1) i) ∨ (v = 0 ∧ ∃ i, l ≤ i ∧ i < 12 * n + 12 ∧ m (k + 1) i ≠ m (k1 + 1) i)) := by
  intro f
  induction f with
  | zero =>
    intro c l v m' h hf l0
    cases c with
    | zero => exact h.elim
    | succ c =>
      replace h := lm_99_33.mp h
      rw [show dc_w (n * 12) = 12 * n by rw [dw (by omega) (by omega)]; omega, dw (z := 12 * n + 12) (by omega) (by omega)] at h
      rcases h with ⟨-, ev, em⟩ | ⟨c1, -⟩
      · exact ⟨em, Or.inl ⟨ev, fun i i0 i1 => by exfalso; omega⟩⟩
      · exfalso; omega
  | succ f ih =>
    intro c l v m' h hf l0
    cases c with
    | zero => exact h.elim
    | succ c =>
      replace h := lm_99_33.mp h
      rw [show dc_w (n * 12) = 12 * n by rw [dw (by omega) (by omega)]; omega, dw (z := 12 * n + 12) (by omega) (by omega), dw (z := l + 1) (by omega) (by omega)] at h
      rcases h with ⟨c1, -⟩ | ⟨c1, -, -, h⟩
      · exfalso; omega
      · rcases h with ⟨c2, h⟩ | ⟨c2, ev, em⟩
        · obtain ⟨i1, i2⟩ := ih c (l + 1) v m' h (by clear h; omega) (by clear h; omega)
          refine ⟨i1, ?_⟩
          rcases i2 with ⟨a1, a2⟩ | ⟨a1, i, a2, a3, a4⟩
          · refine Or.inl ⟨a1, fun i j0 j1 => ?_⟩
            by_cases z : i = l
            · rw [z]; exact c2
            · exact a2 i (by clear h; omega) j1
          · exact Or.inr ⟨a1, i, by clear h; omega, a3, a4⟩
        · exact ⟨em, Or.inr ⟨ev, l, Int.le_refl l, by omega, c2⟩⟩
/-- LINE n of the sheet k is not that of the sheet k1 -/
def ce_d (k k1 : Nat) (n : Int) (m : dc_M) : Prop := m k1 1 ≤ n ∨ ∃ i, 12 * n ≤ i ∧ i < 12 * n + 12 ∧ m (k + 1) i ≠ m (k1 + 1) i
theorem ce_99 {k k1 : Nat} {n : Int} (n0 : 0 ≤ n) (n1 : n < 60) {m : dc_M} {v : Int} {m' : dc_M} (h : D_99 k k1 n m v m') (en : m k 1 = n + 1) : m' = m ∧ ((v = 1 ∧ n < m k1 1 ∧ ∀ i, 12 * n ≤ i → i < 12 * n + 12 → m (k + 1) i = m (k1 + 1) i) ∨ (v = 0 ∧ ce_d k k1 n m)) := by
  unfold D_99 at h
  rw [en, show dc_w (n * 12) = 12 * n by rw [dw (by omega) (by omega)]; omega] at h
  rcases h with ⟨c1, -⟩ | ⟨-, h⟩
  · exfalso; omega
  · rcases h with ⟨c1, -⟩ | ⟨-, h⟩
    · exfalso; omega
    · rcases h with ⟨c1, ev, em⟩ | ⟨c1, h⟩
      · exact ⟨em, Or.inr ⟨ev, Or.inl (by omega)⟩⟩
      · rcases h with ⟨-, c, h⟩ | ⟨c2, -⟩
        · obtain ⟨i1, i2⟩ := ce_99l n0 n1 12 c (12 * n) v m' h (by clear h; omega) (by clear h; omega)
          refine ⟨i1, ?_⟩
          rcases i2 with ⟨a1, a2⟩ | ⟨a1, a2⟩
          · exact Or.inl ⟨a1, by clear h; omega, a2⟩
          · exact Or.inr ⟨a1, Or.inr a2⟩
        · exfalso; omega
/-- what LINES are told: z below 0, none -/
def ce_L (o : Nat) (z : Int) : Prop := z < 0 ∨ (o = 35 ∧ (z = 31 ∨ z = 40))
/-- behind the LINE: printed and like what is told, or astray -/
def ce_P (o : Nat) (z : Int) (T : Int → Int) (n : Int) (m : dc_M) (v : Int) (m' : dc_M) : Prop := m' (o + 1) 1 = n + 1 ∧ (∀ i, 0 ≤ i → i < 12 → m' (o + 2) (12 * n + i) = r3_B T (132 + i)) ∧ (∀ (k : Nat) (i : Int), ¬ (k = o + 1 ∧ i = 1) → ¬ (k = o + 2 ∧ 12 * n ≤ i ∧ i < 12 * n + 12) → ¬ (k = 16 ∧ i = 14) → m' k i = m k i) ∧ ((v = 1 ∧ m' 16 14 = 0 ∧ (0 ≤ z → n < m z.toNat 1 ∧ ∀ i, 12 * n ≤ i → i < 12 * n + 12 → m' (o + 2) i = m (z.toNat + 1) i)) ∨ (v = 0 ∧ m' 16 14 = 1 ∧ 0 ≤ z ∧ (m z.toNat 1 ≤ n ∨ ∃ i, 12 * n ≤ i ∧ i < 12 * n + 12 ∧ m' (o + 2) i ≠ m (z.toNat + 1) i)))
theorem ce_73 {T : Int → Int} {o : Nat} (ho : o = 11 ∨ o = 30 ∨ o = 35) {z : Int} (hz : ce_L o z) {n : Int} (n0 : 0 ≤ n) (n1 : n < 60) {m0 : dc_M} (H0 : cd_T T m0) (eo : (m0 16 11).toNat = o) (ez : m0 16 12 = z) {l1 : Int} : ∀ (f c : Nat) (l : Int) (m : dc_M) (v : Int) (m' : dc_M), LM_61 c 73 l1 l m v m' → 12 - l = (f : Int) → 0 ≤ l → m (o + 1) 1 = n + 1 → (∀ i, 0 ≤ i → i < l → m (o + 2) (12 * n + i) = r3_B T (132 + i)) → (∀ i, l ≤ i → i < 12 → m (o + 2) (12 * n + i) = 15) → (∀ (k : Nat) (i : Int), ¬ (k = o + 1 ∧ i = 1) → ¬ (k = o + 2 ∧ 12 * n ≤ i ∧ i < 12 * n + 12) → m k i = m0 k i) → ce_P o z T n m0 v m' := by
  intro f
  induction f with
  | zero =>
    intro c l m v m' h hf l0 en h1 h2 fr
    have el : l = 12 := by omega
    rw [el] at h1
    cases c with
    | zero => exact h.elim
    | succ c =>
      replace h := lm_61_73.mp h
      rw [show m 16 12 = z from (fr 16 12 (by omega) (by omega)).trans ez, show (m 16 11).toNat = o from by rw [fr 16 11 (by omega) (by omega)]; exact eo, en, dw (z := n + 1 - 1) (by omega) (by omega), show n + 1 - 1 = n by omega] at h
      have fin : ∀ (b : Int) (m2 : dc_M), m2 = dc_up m 16 14 b → (m2 (o + 1) 1 = n + 1 ∧ (∀ i, 0 ≤ i → i < 12 → m2 (o + 2) (12 * n + i) = r3_B T (132 + i)) ∧ (∀ (k : Nat) (i : Int), ¬ (k = o + 1 ∧ i = 1) → ¬ (k = o + 2 ∧ 12 * n ≤ i ∧ i < 12 * n + 12) → ¬ (k = 16 ∧ i = 14) → m2 k i = m0 k i)) := fun b m2 e2 => by
        rw [e2]
        exact ⟨by rw [dc_up_k (by omega)]; exact en, fun i i0 i1 => by rw [dc_up_k (by omega)]; exact h1 i i0 i1, fun k i z1 z2 z3 => (if_neg z3).trans (fr k i z1 z2)⟩
      rcases h with ⟨-, h⟩ | ⟨c1, -⟩
      · rcases h with ⟨c2, m2, e2, ev, em⟩ | ⟨c2, v2, m2, hd, h⟩
        · rw [em]
          obtain ⟨q1, q2, q3⟩ := fin 0 m2 e2
          exact ⟨q1, q2, q3, Or.inl ⟨ev, by rw [e2, dc_up_s], fun y => by exfalso; omega⟩⟩
        · obtain ⟨e2, q⟩ := ce_99 n0 n1 hd en
          clear hd
          have zz : z.toNat = 31 ∨ z.toNat = 40 := by
            rcases hz with y | ⟨-, y | y⟩
            · exact absurd y c2
            · left; omega
            · right; omega
          have o35 : o = 35 := by
            rcases hz with y | ⟨y, -⟩
            · exact absurd y c2
            · exact y
          have t1 : m z.toNat 1 = m0 z.toNat 1 := fr _ _ (by clear h; omega) (by clear h; omega)
          have t2 : ∀ i, m (z.toNat + 1) i = m0 (z.toNat + 1) i := fun i => fr _ _ (by clear h; omega) (by clear h; omega)
          rw [e2] at h
          rcases h with ⟨c3, m3, e3, ev, em⟩ | ⟨c3, m3, e3, ev, em⟩
          · rw [em]
            obtain ⟨q1, q2, q3⟩ := fin 0 m3 e3
            refine ⟨q1, q2, q3, Or.inl ⟨ev, by rw [e3, dc_up_s], fun _ => ?_⟩⟩
            rcases q with ⟨-, a1, a2⟩ | ⟨a1, -⟩
            · refine ⟨by rw [← t1]; exact a1, fun i i0 i1 => ?_⟩
              rw [e3, dc_up_k (by omega), ← t2 i]
              exact a2 i i0 i1
            · exact absurd a1 c3
          · rw [em]
            obtain ⟨q1, q2, q3⟩ := fin 1 m3 e3
            refine ⟨q1, q2, q3, Or.inr ⟨ev, by rw [e3, dc_up_s], by omega, ?_⟩⟩
            rcases q with ⟨a1, -⟩ | ⟨-, a1 | ⟨i, i0, i1, i2⟩⟩
            · exact absurd (by rw [a1]; decide) c3
            · left; rw [← t1]; exact a1
            · right
              refine ⟨i, i0, i1, ?_⟩
              rw [e3, dc_up_k (by omega), ← t2 i]
              exact i2
      · exfalso; omega
  | succ f ih =>
    intro c l m v m' h hf l0 en h1 h2 fr
    cases c with
    | zero => exact h.elim
    | succ c =>
      have w1 : dc_w (l + 1) = l + 1 := dw (by omega) (by omega)
      have w2 : dc_w (132 + l) = 132 + l := dw (by omega) (by omega)
      have w3 : dc_w (132 + l - 96) = 132 + l - 96 := dw (by omega) (by omega)
      have H : cd_T T m := H0.cg (fun i => fr 25 i (by omega) (by omega))
      have go : (m 16 11).toNat = o := by rw [fr 16 11 (by omega) (by omega)]; exact eo
      have q := H (132 + l) (by omega) (by omega)
      replace h := lm_61_73.mp h
      rw [w1, w2, w3] at h
      rcases h with ⟨c1, -⟩ | ⟨c1, v2, m2, hd, h⟩
      · exfalso; omega
      · obtain ⟨e2, t⟩ := cd_59 H (by clear h hd; omega) (by clear h hd; omega) hd
        clear hd
        rw [e2, go, q.1] at h
        rcases h with ⟨c2, h⟩ | ⟨c2, -, v3, m3, hd, h⟩
        · have neg : T (132 + l) < 0 := by clear h; omega
          refine ih c (l + 1) m v m' h (by clear h; omega) (by clear h; omega) en (fun i i0 i1 => ?_) (fun i i0 i1 => h2 i (by clear h; omega) i1) fr
          by_cases y : i = l
          · rw [y, h2 l (Int.le_refl l) (by clear h; omega)]
            exact (if_pos neg).symm
          · exact h1 i i0 (by clear h; omega)
        · have pos : 0 ≤ T (132 + l) := by clear h hd; omega
          have e3 := ce_98 n0 n1 l0 (by clear h hd; omega) pos q.2.2 hd en
          clear hd
          have rB : r3_B T (132 + l) = T (132 + l) := if_neg (by clear h; omega)
          refine ih c (l + 1) m3 v m' h (by clear h; omega) (by clear h; omega) (by rw [e3, dc_up_k (by clear h; omega)]; exact en) (fun i i0 i1 => ?_) (fun i i0 i1 => ?_) (fun k i z1 z2 => ?_)
          · rw [e3]
            by_cases y : i = l
            · rw [y, show o + 1 + 1 = o + 2 from rfl, dc_up_s, rB]
            · rw [show o + 1 + 1 = o + 2 from rfl, dc_up_i (by clear h; omega)]; exact h1 i i0 (by clear h; omega)
          · rw [e3, show o + 1 + 1 = o + 2 from rfl, dc_up_i (by clear h; omega)]; exact h2 i (by clear h; omega) i1
          · rw [e3]
            exact (if_neg (fun y => z2 ⟨y.1, by clear h; omega, by clear h; omega⟩)).trans (fr k i z1 z2)
/-- print() -/
theorem ce_pl {T : Int → Int} {o : Nat} (ho : o = 11 ∨ o = 30 ∨ o = 35) {z : Int} (hz : ce_L o z) {n : Int} (n0 : 0 ≤ n) (n1 : n ≤ 60) {m : dc_M} (H : cd_T T m) (eo : (m 16 11).toNat = o) (ez : m 16 12 = z) (en : m (o + 1) 1 = n) : ∀ (f c : Nat) (l1 l v : Int) (m' : dc_M), LM_61 c 4 l1 l m v m' → 12 - l = (f : Int) → 0 ≤ l → (l1 ≠ 0 → mp_pr T) → (l1 = 0 → ∀ i, 0 ≤ i → i < l → T (132 + i) < 0) → (¬ mp_pr T ∧ v = 1 ∧ m' = m) ∨ (mp_pr T ∧ n = 60 ∧ v = 0 ∧ m' = dc_up m o 4 3) ∨ (mp_pr T ∧ n ≠ 60 ∧ ce_P o z T n m v m') := by
  have prt : ∀ (c : Nat) (l1 : Int) (v : Int) (m' : dc_M), l1 ≠ 0 → mp_pr T → ((n < 60 ∧ (∃ v2 m2, D_97 (o + 1) m v2 m2 ∧ (LM_61 c 73 l1 0 m2 v m'))) ∨ (¬ (n < 60) ∧ (∃ m2, m2 = dc_up m o 4 3 ∧ (v = 0 ∧ m' = m2)))) → (¬ mp_pr T ∧ v = 1 ∧ m' = m) ∨ (mp_pr T ∧ n = 60 ∧ v = 0 ∧ m' = dc_up m o 4 3) ∨ (mp_pr T ∧ n ≠ 60 ∧ ce_P o z T n m v m') := by
    intro c l1 v m' _ P h
    rcases h with ⟨c1, v2, m2, hd, h⟩ | ⟨c1, m2, e2, ev, em⟩
    · obtain ⟨q1, q2, q3⟩ := ce_97 n0 c1 hd en
      clear hd
      refine Or.inr (Or.inr ⟨P, by clear h; omega, ?_⟩)
      have f2 : ∀ (k : Nat) (i : Int), ¬ (k = o + 1 ∧ i = 1) → ¬ (k = o + 2 ∧ 12 * n ≤ i ∧ i < 12 * n + 12) → m2 k i = m k i := q3
      exact ce_73 ho hz n0 c1 H eo ez 12 c 0 m2 v m' h rfl (by decide) q1 (fun i i0 i1 => by exfalso; clear h; omega) (fun i i0 i1 => q2 _ (by clear h; omega) (by clear h; omega)) f2
    · exact Or.inr (Or.inl ⟨P, by omega, ev, em.trans e2⟩)
  intro f
  induction f with
  | zero =>
    intro c l1 l v m' h hf l0 h1 h2
    have el : l = 12 := by omega
    cases c with
    | zero => exact h.elim
    | succ c =>
      replace h := lm_61_4.mp h
      rw [eo, en] at h
      rcases h with ⟨-, h⟩ | ⟨c1, -⟩
      · rcases h with ⟨c2, h⟩ | ⟨c2, ev, em⟩
        · exact prt c l1 v m' c2 (h1 c2) h
        · refine Or.inl ⟨fun ⟨b, b0, b1, b2⟩ => ?_, ev, em⟩
          have := h2 (Classical.not_not.mp c2) b b0 (by omega)
          omega
      · exfalso; omega
  | succ f ih =>
    intro c l1 l v m' h hf l0 h1 h2
    cases c with
    | zero => exact h.elim
    | succ c =>
      have w1 : dc_w (l + 1) = l + 1 := dw (by omega) (by omega)
      have w2 : dc_w (132 + l) = 132 + l := dw (by omega) (by omega)
      replace h := lm_61_4.mp h
      rw [eo, en, w1, w2] at h
      rcases h with ⟨c1, -⟩ | ⟨c1, h⟩
      · exfalso; omega
      · rcases h with ⟨c2, h⟩ | ⟨c2, v2, m2, hd, h⟩
        · rcases h with ⟨-, h⟩ | ⟨d, -⟩
          · exact prt c l1 v m' c2 (h1 c2) h
          · exact absurd c2 d
        · obtain ⟨e2, t⟩ := cd_59 H (by clear h hd; omega) (by clear h hd; omega) hd
          clear hd
          rw [e2] at h
          refine ih c v2 (l + 1) v m' h (by clear h; omega) (by clear h; omega) (fun z => ?_) (fun z i i0 i1 => ?_)
          · rcases t with ⟨-, t⟩ | ⟨t, -⟩
            · exact ⟨l, l0, by clear h; omega, t⟩
            · exact absurd t z
          · by_cases y : i = l
            · rw [y]
              rcases t with ⟨t, -⟩ | ⟨-, t⟩
              · exfalso; clear h; omega
              · exact t
            · exact h2 (Classical.not_not.mp c2) i i0 (by clear h; omega)
theorem ce_print {T : Int → Int} {o : Nat} (ho : o = 11 ∨ o = 30 ∨ o = 35) {z : Int} (hz : ce_L o z) {n : Int} (n0 : 0 ≤ n) (n1 : n ≤ 60) {m : dc_M} (H : cd_T T m) (eo : (m 16 11).toNat = o) (ez : m 16 12 = z) (en : m (o + 1) 1 = n) {v : Int} {m' : dc_M} (h : D_61 m v m') : (¬ mp_pr T ∧ v = 1 ∧ m' = m) ∨ (mp_pr T ∧ n = 60 ∧ v = 0 ∧ m' = dc_up m o 4 3) ∨ (mp_pr T ∧ n ≠ 60 ∧ ce_P o z T n m v m') := by
  obtain ⟨c, h⟩ := h
  exact ce_pl ho hz n0 n1 H eo ez en 12 c 0 0 v m' h rfl (by decide) (fun y => absurd rfl y) (fun _ i i0 i1 => by exfalso; clear h; omega)
