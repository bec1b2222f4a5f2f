/-! needed: the reference -/
theorem nd_d {x : Int} (h : bx_v x) : dc_rem (dc_w (dc_rem x 16 + 1)) 16 = so_r x := by
  obtain ⟨h1, h2⟩ := h
  rw [drm h1.1, dw (by omega) (by omega), drm (by omega)]
  rfl
/-- whether the cards are in order -/
theorem rs_231 {N : Int → Int} {B : Int → Int → Int → Int} (V : ∀ b k c, bx_v (B b k c)) {t : Int → Int} {L : Nat} (hc : nd_c t ((L : Nat) : Int)) {x : Int} (hx : 0 ≤ x ∧ x < 8) {m : dc_M} (hb : bx_R N B m) (et : ∀ i, 0 ≤ i → i < ((L : Nat) : Int) → rz_t m i = t i) {f : Int → Int} (fi : nd_i (N x) f) (h41 : ∀ j, 0 ≤ j → j < N x → m 141 j = f j) {v : Int} {m' : dc_M} (h : D_231 x ((L : Nat) : Int) m v m') : m' = m ∧ ((v = 1 ∧ nd_ok (B x) t (N x) ((L : Nat) : Int) f) ∨ (v = 0 ∧ ¬ nd_ok (B x) t (N x) ((L : Nat) : Int) f)) := by
  obtain ⟨nx, n0, n40⟩ := hb.1 x hx.1 hx.2
  have L8 := hc.1.2
  have main : ∀ c : Nat, (∀ (l v : Int) (m' : dc_M), LM_231 x ((L : Nat) : Int) c 2 l 0 0 m v m' → 0 ≤ l → (l = 0 ∨ l + 1 ≤ N x) → (∀ j, 1 ≤ j → j < l + 1 → ¬ nd_gt (B x) t ((L : Nat) : Int) 0 (f (j - 1)) (f j)) → m' = m ∧ ((v = 1 ∧ nd_ok (B x) t (N x) ((L : Nat) : Int) f) ∨ (v = 0 ∧ ¬ nd_ok (B x) t (N x) ((L : Nat) : Int) f))) ∧
      (∀ (l d i5 v : Int) (m' : dc_M), LM_231 x ((L : Nat) : Int) c 20 l d i5 m v m' → 0 ≤ l → l + 1 < N x → 0 ≤ i5 → i5 ≤ ((L : Nat) : Int) → (∀ j, 1 ≤ j → j < l + 1 → ¬ nd_gt (B x) t ((L : Nat) : Int) 0 (f (j - 1)) (f j)) → ((d = 0 ∧ ∀ k, 0 ≤ k → k < i5 → so_r (B x (f l) (t k - 1)) = so_r (B x (f (l + 1)) (t k - 1))) ∨ (0 < d ∧ nd_gt (B x) t ((L : Nat) : Int) 0 (f l) (f (l + 1))) ∨ (d < 0 ∧ ¬ nd_gt (B x) t ((L : Nat) : Int) 0 (f l) (f (l + 1)))) → m' = m ∧ ((v = 1 ∧ nd_ok (B x) t (N x) ((L : Nat) : Int) f) ∨ (v = 0 ∧ ¬ nd_ok (B x) t (N x) ((L : Nat) : Int) f))) := by
    intro c
    induction c with
    | zero => exact ⟨fun l v m' h => h.elim, fun l d i5 v m' h => h.elim⟩
    | succ c ih =>
      obtain ⟨ih1, ih2⟩ := ih
      refine ⟨fun l v m' h l0 l1 hok => ?_, fun l d i5 v m' h l0 l1 i0 i1 hok inv => ?_⟩
      · replace h := lm_231_2.mp h
        rw [nx, dw (z := l + 1) (by omega) (by omega)] at h
        obtain ⟨-, h⟩ := h
        rcases h with ⟨c1, ev, em⟩ | ⟨c1, h⟩
        · exact ⟨em, Or.inl ⟨ev, fun j j0 j1 => hok j j0 (by omega)⟩⟩
        · exact ih2 l 0 0 v m' h l0 (by clear h; omega) (Int.le_refl 0) (by omega) hok (Or.inl ⟨rfl, fun k k0 k1 => by omega⟩)
      · replace h := lm_231_20.mp h
        rw [dw (z := l + 1) (by omega) (by omega), dw (z := i5 + 1) (by omega) (by omega)] at h
        have yes : ¬ nd_gt (B x) t ((L : Nat) : Int) 0 (f l) (f (l + 1)) → LM_231 x ((L : Nat) : Int) c 2 (l + 1) 0 0 m v m' → m' = m ∧ ((v = 1 ∧ nd_ok (B x) t (N x) ((L : Nat) : Int) f) ∨ (v = 0 ∧ ¬ nd_ok (B x) t (N x) ((L : Nat) : Int) f)) := fun ng h => ih1 (l + 1) v m' h (by clear h; omega) (by clear h; omega) (fun j j0 j1 => by
          by_cases y : j = l + 1
          · rw [y, show l + 1 - 1 = l by clear h; omega]; exact ng
          · exact hok j j0 (by clear h; omega))
        have no : nd_gt (B x) t ((L : Nat) : Int) 0 (f l) (f (l + 1)) → v = 0 → m' = m → m' = m ∧ ((v = 1 ∧ nd_ok (B x) t (N x) ((L : Nat) : Int) f) ∨ (v = 0 ∧ ¬ nd_ok (B x) t (N x) ((L : Nat) : Int) f)) := fun g ev em => ⟨em, Or.inr ⟨ev, fun z => z (l + 1) (by omega) l1 (by rw [show l + 1 - 1 = l by omega]; exact g)⟩⟩
        rcases h with ⟨c1, ⟨c2, h⟩ | ⟨c2, ev, em⟩⟩ | ⟨c1, ⟨c2, ⟨c3, h⟩ | ⟨c3, ev, em⟩⟩ | ⟨c2, -, v2, m2, ⟨-, ev2, em2⟩, -, -, v3, m3, ⟨-, ev3, em3⟩, -, h⟩⟩
        · refine yes (fun z => ?_) h
          rcases inv with ⟨-, q⟩ | ⟨q, -⟩ | ⟨-, q⟩
          · obtain ⟨i, a0, a1, ae, al⟩ := z
            have := q i a0 (by clear h; omega)
            clear h; omega
          · clear h; omega
          · exact q z
        · rcases inv with ⟨q, -⟩ | ⟨-, q⟩ | ⟨q, -⟩
          · exfalso; omega
          · exact no q ev em
          · exfalso; omega
        · refine yes (fun z => ?_) h
          rcases inv with ⟨q, -⟩ | ⟨q, -⟩ | ⟨-, q⟩
          · exact c2 q
          · clear h; omega
          · exact q z
        · rcases inv with ⟨q, -⟩ | ⟨-, q⟩ | ⟨q, -⟩
          · exact absurd q c2
          · exact no q ev em
          · exfalso; omega
        · have d0 : d = 0 := Decidable.not_not.mp c2
          have heq : ∀ k, 0 ≤ k → k < i5 → so_r (B x (f l) (t k - 1)) = so_r (B x (f (l + 1)) (t k - 1)) := by
            rcases inv with ⟨-, q⟩ | ⟨q, -⟩ | ⟨q, -⟩
            · exact q
            · exfalso; clear h; omega
            · exfalso; clear h; omega
          have i2 : i5 < ((L : Nat) : Int) := by clear h; omega
          have w2 : v2 = t i5 := by rw [← et i5 i0 i2]; exact ev2
          have w3 : v3 = t i5 := by
            have a : v3 = rz_t m2 i5 := ev3
            rw [a, em2]; exact et i5 i0 i2
          have tl := hc.2 i5 i0 i2
          have fl := fi l l0 (by clear h; omega)
          have fm := fi (l + 1) (by clear h; omega) l1
          rw [em3, em2, w2, w3, h41 l l0 (by clear h; omega), h41 (l + 1) (by clear h; omega) l1, dw (z := 40 * x) (by clear h; omega) (by clear h; omega), dw (z := 40 * x + f l) (by clear h; omega) (by clear h; omega), dw (z := 20 * (40 * x + f l)) (by clear h; omega) (by clear h; omega), dw (z := 20 * (40 * x + f l) + t i5) (by clear h; omega) (by clear h; omega), dw (z := 20 * (40 * x + f l) + t i5 - 1) (by clear h; omega) (by clear h; omega), dw (z := 40 * x + f (l + 1)) (by clear h; omega) (by clear h; omega), dw (z := 20 * (40 * x + f (l + 1))) (by clear h; omega) (by clear h; omega), dw (z := 20 * (40 * x + f (l + 1)) + t i5) (by clear h; omega) (by clear h; omega), dw (z := 20 * (40 * x + f (l + 1)) + t i5 - 1) (by clear h; omega) (by clear h; omega), show 20 * (40 * x + f l) + t i5 - 1 = 20 * (40 * x + f l) + (t i5 - 1) by clear h; omega, show 20 * (40 * x + f (l + 1)) + t i5 - 1 = 20 * (40 * x + f (l + 1)) + (t i5 - 1) by clear h; omega, hb.2 x (f l) (t i5 - 1) hx.1 hx.2 fl.1 fl.2 (by clear h; omega) (by clear h; omega), hb.2 x (f (l + 1)) (t i5 - 1) hx.1 hx.2 fm.1 fm.2 (by clear h; omega) (by clear h; omega), nd_d (V _ _ _), nd_d (V _ _ _)] at h
          have r1 := so_r_v (V x (f l) (t i5 - 1))
          have r2 := so_r_v (V x (f (l + 1)) (t i5 - 1))
          rw [dw (z := so_r (B x (f l) (t i5 - 1)) - so_r (B x (f (l + 1)) (t i5 - 1))) (by clear h; omega) (by clear h; omega)] at h
          refine ih2 l _ (i5 + 1) v m' h l0 l1 (by clear h; omega) (by clear h; omega) hok ?_
          rcases Int.lt_trichotomy (so_r (B x (f l) (t i5 - 1))) (so_r (B x (f (l + 1)) (t i5 - 1))) with w | w | w
          · refine Or.inr (Or.inr ⟨by clear h; omega, ?_⟩)
            rintro ⟨i, a0, a1, ae, al⟩
            rcases Int.lt_trichotomy i i5 with y | y | y
            · have := heq i a0 y; clear h; omega
            · rw [y] at al; clear h; omega
            · have := ae i5 i0 y; clear h; omega
          · refine Or.inl ⟨by clear h; omega, fun k k0 k1 => ?_⟩
            by_cases y : k = i5
            · rw [y]; exact w
            · exact heq k k0 (by clear h; omega)
          · exact Or.inr (Or.inl ⟨by clear h; omega, i5, i0, i2, heq, w⟩)
  obtain ⟨c, h⟩ := h
  exact (main c).1 0 v m' h (Int.le_refl 0) (Or.inl rfl) (fun j j0 j1 => by omega)
def rnd_t (k : Nat) (i : Int) : Prop := k = 141 ∨ k = 142 ∨ (k = 114 ∧ i = 47)
/-- the sets from s on; the filling; the passes -/
theorem rs_233l {N : Int → Int} {B : Int → Int → Int → Int} (V : ∀ b k c, bx_v (B b k c)) {t : Int → Int} {L : Nat} (hc : nd_c t ((L : Nat) : Int)) {x : Int} (hx : 0 ≤ x ∧ x < 8) {m0 : dc_M} (hb : bx_R N B m0) (e3 : m0 114 3 = ((L : Nat) : Int)) (et : ∀ i, 0 ≤ i → i < ((L : Nat) : Int) → rz_t m0 i = t i) : ∀ c : Nat, (∀ (s : Nat) (l2 : Int) (m : dc_M) (v : Int) (m' : dc_M), LM_233 x c 67 l2 ((s : Nat) : Int) 0 m v m' → s ≤ 2 ^ L → (∀ (k : Nat) (i : Int), ¬ rnd_t k i → m k i = m0 k i) → ((l2 = -1 ∧ nd_b (nd_P (B x) t (N x) L) L s = 2 ^ L - 1 ∧ s ≤ 2 ^ L - 1) ∨ (l2 = ((pb_s 8 (nd_b (nd_P (B x) t (N x) L) L s) : Nat) : Int) ∧ m 114 47 = ((nd_b (nd_P (B x) t (N x) L) L s : Nat) : Int))) → v = ((pb_s 8 (nd_b (nd_P (B x) t (N x) L) L (2 ^ L)) : Nat) : Int) ∧ m' 114 47 = ((nd_b (nd_P (B x) t (N x) L) L (2 ^ L) : Nat) : Int) ∧ ∀ (k : Nat) (i : Int), ¬ rnd_t k i → m' k i = m0 k i) ∧
    (∀ (s : Nat) (l2 l4 : Int) (m : dc_M) (v : Int) (m' : dc_M), LM_233 x c 96 l2 ((s : Nat) : Int) l4 m v m' → s < 2 ^ L → 0 ≤ l4 → l4 ≤ N x → (∀ i, 0 ≤ i → i < l4 → m 141 i = i) → (∀ (k : Nat) (i : Int), ¬ rnd_t k i → m k i = m0 k i) → ((l2 = -1 ∧ nd_b (nd_P (B x) t (N x) L) L s = 2 ^ L - 1 ∧ s ≤ 2 ^ L - 1) ∨ (l2 = ((pb_s 8 (nd_b (nd_P (B x) t (N x) L) L s) : Nat) : Int) ∧ m 114 47 = ((nd_b (nd_P (B x) t (N x) L) L s : Nat) : Int) ∧ pb_s 8 s < pb_s 8 (nd_b (nd_P (B x) t (N x) L) L s))) → v = ((pb_s 8 (nd_b (nd_P (B x) t (N x) L) L (2 ^ L)) : Nat) : Int) ∧ m' 114 47 = ((nd_b (nd_P (B x) t (N x) L) L (2 ^ L) : Nat) : Int) ∧ ∀ (k : Nat) (i : Int), ¬ rnd_t k i → m' k i = m0 k i) ∧
    (∀ (s : Nat) (l : Nat) (l2 : Int) (f : Int → Int) (m : dc_M) (v : Int) (m' : dc_M), LM_233 x c 130 l2 ((s : Nat) : Int) (((l : Nat) : Int) - 1) m v m' → s < 2 ^ L → l ≤ L → nd_i (N x) f → (∀ i, 0 ≤ i → i < N x → m 141 i = f i) → nd_f (B x) t (N x) s l f = nd_f (B x) t (N x) s L (fun j => j) → (∀ (k : Nat) (i : Int), ¬ rnd_t k i → m k i = m0 k i) → ((l2 = -1 ∧ nd_b (nd_P (B x) t (N x) L) L s = 2 ^ L - 1 ∧ s ≤ 2 ^ L - 1) ∨ (l2 = ((pb_s 8 (nd_b (nd_P (B x) t (N x) L) L s) : Nat) : Int) ∧ m 114 47 = ((nd_b (nd_P (B x) t (N x) L) L s : Nat) : Int) ∧ pb_s 8 s < pb_s 8 (nd_b (nd_P (B x) t (N x) L) L s))) → v = ((pb_s 8 (nd_b (nd_P (B x) t (N x) L) L (2 ^ L)) : Nat) : Int) ∧ m' 114 47 = ((nd_b (nd_P (B x) t (N x) L) L (2 ^ L) : Nat) : Int) ∧ ∀ (k : Nat) (i : Int), ¬ rnd_t k i → m' k i = m0 k i) := by
  have L8 := hc.1.2
  have hL : L < 11 := by omega
  have f3 := tt_f3 L hL
  have L256 : 2 ^ L ≤ 1024 := f3.2.1
  have Vx : ∀ k c, bx_v (B x k c) := fun k c => V x k c
  obtain ⟨nx, n0, n40⟩ := hb.1 x hx.1 hx.2
  have full : nd_P (B x) t (N x) L (2 ^ L - 1) := nd_all Vx hL
  intro c
  induction c with
  | zero => exact ⟨fun s l2 m v m' h => h.elim, fun s l2 l4 m v m' h => h.elim, fun s l l2 f m v m' h => h.elim⟩
  | succ c ih =>
    obtain ⟨ih1, ih2, ih3⟩ := ih
    refine ⟨fun s l2 m v m' h hs fr inv => ?_, fun s l2 l4 m v m' h hs l40 l41 h41 fr inv => ?_, fun s l l2 f m v m' h hs hl fi h41 ef fr inv => ?_⟩
    · replace h := lm_233_67.mp h
      rw [show m 114 3 = ((L : Nat) : Int) from (fr 114 3 (by unfold rnd_t; omega)).trans e3, f3.1, dw (z := ((s : Nat) : Int) + 1) (by omega) (by omega), show ((s : Nat) : Int) + 1 = ((s + 1 : Nat) : Int) by omega] at h
      rcases h with ⟨c1, ev, em⟩ | ⟨c1, ⟨c2, h⟩ | ⟨c2, v2, m2, h2, h⟩⟩
      · have es : s = 2 ^ L := by omega
        rcases inv with ⟨-, -, z⟩ | ⟨i1, i2⟩
        · exfalso; omega
        · rw [es] at i1 i2
          rw [em]
          exact ⟨ev.trans i1, i2, fr⟩
      · refine ih2 s l2 0 m v m' h (by clear h; omega) (Int.le_refl 0) n0 (fun i i0 i1 => by exfalso; clear h; omega) fr ?_
        rcases inv with i | ⟨i1, i2⟩
        · exact Or.inl i
        · exfalso; clear h; omega
      · have s1 : s < 1024 := by clear h h2; omega
        rw [tt_f4 s s1] at h2
        obtain ⟨a2, b2⟩ := pb_232 (by clear h h2; omega) h2
        subst b2
        rcases inv with ⟨i, -⟩ | ⟨i1, i2⟩
        · exfalso; clear h h2; omega
        · rw [a2, i1] at h
          rcases h with ⟨c3, h⟩ | ⟨c3, h⟩
          · exact ih2 s _ 0 m2 v m' h (by clear h h2; omega) (Int.le_refl 0) n0 (fun i i0 i1 => by exfalso; clear h h2; omega) fr (Or.inr ⟨rfl, i2, by clear h h2; omega⟩)
          · have e : nd_b (nd_P (B x) t (N x) L) L (s + 1) = nd_b (nd_P (B x) t (N x) L) L s := nd_b_n1 (by clear h h2; omega)
            exact ih1 (s + 1) _ m2 v m' h (by clear h h2; omega) fr (Or.inr ⟨by rw [e], by rw [e]; exact i2⟩)
    · replace h := lm_233_96.mp h
      rw [show m 117 x = N x from (fr 117 x (by unfold rnd_t; omega)).trans nx, show m 114 3 = ((L : Nat) : Int) from (fr 114 3 (by unfold rnd_t; omega)).trans e3, dw (z := ((L : Nat) : Int) - 1) (by omega) (by omega), dw (z := l4 + 1) (by omega) (by omega)] at h
      obtain ⟨-, h⟩ := h
      rcases h with ⟨c1, h⟩ | ⟨c1, -, m2, e2, h⟩
      · have el : l4 = N x := by clear h; omega
        rw [el] at h41
        exact ih3 s L l2 (fun j => j) m v m' h hs (Nat.le_refl L) (fun p p0 p1 => ⟨p0, p1⟩) h41 rfl fr inv
      · refine ih2 s l2 (l4 + 1) m2 v m' h hs (by clear h; omega) (by clear h; omega) (fun i i0 i1 => ?_) (fun k i y => ?_) ?_
        · rw [e2]
          by_cases y : i = l4
          · rw [y, dc_up_s]
          · rw [dc_up_i y]; exact h41 i i0 (by clear h; omega)
        · rw [e2, dc_up_k (fun w => y (Or.inl w))]; exact fr k i y
        · rw [show m2 114 47 = m 114 47 by rw [e2, dc_up_k (by decide)]]; exact inv
    · have s1 : s < 1024 := by omega
      replace h := lm_233_130.mp h
      rw [show m 114 3 = ((L : Nat) : Int) from (fr 114 3 (by unfold rnd_t; omega)).trans e3, dw (z := ((l : Nat) : Int) - 1 + (-1)) (by omega) (by omega), dw (z := ((s : Nat) : Int) + 1) (by omega) (by omega), show ((s : Nat) : Int) + 1 = ((s + 1 : Nat) : Int) by omega, tt_f4 s s1] at h
      rcases h with ⟨c1, v2, m2, h2, h⟩ | ⟨c1, h⟩
      · have el : l = 0 := by clear h h2; omega
        rw [el] at ef
        have ef : f = nd_f (B x) t (N x) s L (fun j => j) := ef
        obtain ⟨a2, q⟩ := rs_231 V hc hx (hb.cg (fun k i hk => fr k i (by unfold rnd_t; clear h h2; omega))) (fun i i0 i1 => by
          rw [← et i i0 i1]
          unfold rz_t
          rw [fr 115 i (by unfold rnd_t; clear h h2; omega)]) fi h41 h2
        clear h2
        rw [a2] at h
        rw [ef] at q
        rcases h with ⟨c2, v3, m3, h3, m4, e4, h⟩ | ⟨c2, h⟩
        · have yp : nd_P (B x) t (N x) L s := by
            rcases q with ⟨-, q⟩ | ⟨q, -⟩
            · exact q
            · exact absurd q c2
          obtain ⟨a3, b3⟩ := pb_232 (by clear h h3; omega) h3
          subst b3
          have e : nd_b (nd_P (B x) t (N x) L) L (s + 1) = s := by
            rcases inv with ⟨-, i1, i2⟩ | ⟨-, -, i3⟩
            · by_cases w : s = 2 ^ L - 1
              · rw [nd_b_n1 (by rw [i1, w]; exact Nat.lt_irrefl _), i1, w]
              · exact nd_b_s (by rw [i1]; exact tt_f2 L hL s (by clear h h3; omega)) yp
            · exact nd_b_s i3 yp
          rw [a3] at h
          refine ih1 (s + 1) _ m4 v m' h (by clear h h3; omega) (fun k i y => ?_) (Or.inr ⟨by rw [e], by rw [e, e4, dc_up_s]⟩)
          rw [e4]
          exact (if_neg (fun w => y (Or.inr (Or.inr w)))).trans (fr k i y)
        · have np : ¬ nd_P (B x) t (N x) L s := by
            rcases q with ⟨q, -⟩ | ⟨-, q⟩
            · exfalso; clear h; omega
            · exact q
          have e : nd_b (nd_P (B x) t (N x) L) L (s + 1) = nd_b (nd_P (B x) t (N x) L) L s := nd_b_n2 np
          refine ih1 (s + 1) _ m v m' h (by clear h; omega) fr ?_
          rcases inv with ⟨i0, i1, i2⟩ | ⟨i1, i2, -⟩
          · refine Or.inl ⟨i0, by rw [e]; exact i1, ?_⟩
            have w : s ≠ 2 ^ L - 1 := fun w => np (by rw [w]; exact full)
            clear h
            omega
          · exact Or.inr ⟨by rw [e]; exact i1, by rw [e]; exact i2⟩
      · obtain ⟨l', rfl⟩ : ∃ l', l = l' + 1 := ⟨l - 1, by clear h; omega⟩
        rw [show ((l' + 1 : Nat) : Int) - 1 = ((l' : Nat) : Int) by omega, tt_f5 s s1 l' (by clear h; omega), show ((l' : Nat) : Int) + (-1) = ((l' : Nat) : Int) - 1 by omega] at h
        have ef : nd_f (B x) t (N x) s l' (if s / 2 ^ l' % 2 = 1 then nd_1 (B x) (N x) (t ((l' : Nat) : Int)) f else f) = nd_f (B x) t (N x) s L (fun j => j) := ef
        rcases h with ⟨c2, h⟩ | ⟨c2, v2, m2, ⟨-, ev2, em2⟩, v3, m3, h3, h⟩
        · have z : ¬ s / 2 ^ l' % 2 = 1 := fun z => by
            rw [if_pos z] at c2
            exact absurd rfl c2
          rw [if_neg z] at ef
          exact ih3 s l' l2 f m v m' h hs (by clear h; omega) fi h41 ef fr inv
        · have z : s / 2 ^ l' % 2 = 1 := by
            by_cases z : s / 2 ^ l' % 2 = 1
            · exact z
            · rw [if_neg z] at c2
              exact absurd (by decide) c2
          rw [if_pos z] at ef
          have w2 : v2 = t ((l' : Nat) : Int) := by
            have a : v2 = rz_t m ((l' : Nat) : Int) := ev2
            rw [a, ← et _ (by omega) (by clear h h3; omega)]
            unfold rz_t
            rw [fr 115 _ (by unfold rnd_t; clear h h3; omega)]
          have tl := hc.2 ((l' : Nat) : Int) (by omega) (by clear h h3; omega)
          rw [em2, w2, dw (z := t ((l' : Nat) : Int) - 1) (by clear h h3; omega) (by clear h h3; omega)] at h3
          obtain ⟨s1', s2⟩ := rs_229 hx ⟨n0, n40⟩ (by clear h h3; omega) (nd_k Vx (c := t ((l' : Nat) : Int)) (f := f) (n := N x)) ((fr 117 x (by unfold rnd_t; clear h h3; omega)).trans nx) (fun j j0 j1 => by
            have q := fi j j0 j1
            rw [h41 j j0 j1, fr 116 _ (by unfold rnd_t; clear h h3; omega), hb.2 x (f j) _ hx.1 hx.2 q.1 q.2 (by clear h h3; omega) (by clear h h3; omega)]
            exact ⟨⟨q.1, by clear h h3; omega⟩, Vx _ _, rfl⟩) h3
          clear h3
          refine ih3 s l' l2 _ m3 v m' h hs (by clear h; omega) (nd_1_i Vx fi) (fun j j0 j1 => ?_) ef (fun k i y => (s2 k i (fun w => y (Or.inr (Or.inl w))) (fun w => y (Or.inl w.1))).trans (fr k i y)) ?_
          · obtain ⟨u1, u2, u3⟩ := so_q_s n0 (nd_k Vx (c := t ((l' : Nat) : Int)) (f := f) (n := N x)) j0 j1
            have a := s1' _ u1 u2
            rw [u3, h41 _ u1 u2] at a
            exact a
          · rw [s2 114 47 (by decide) (by omega)]; exact inv
theorem nd_b_full {P : Nat → Prop} {L : Nat} (hL : L < 11) : nd_b P L (2 ^ L) = nd_b P L (2 ^ L - 1) := by
  have f3 := tt_f3 L hL
  have le := nd_b_le (P := P) (L := L) (2 ^ L - 1) (by omega)
  have e : nd_b P L (2 ^ L - 1 + 1) = nd_b P L (2 ^ L - 1) := nd_b_n1 (fun z => by
    by_cases w : nd_b P L (2 ^ L - 1) = 2 ^ L - 1
    · rw [w] at z; exact absurd z (Nat.lt_irrefl _)
    · have := tt_f2 L hL (nd_b P L (2 ^ L - 1)) (by omega)
      omega)
  rw [show 2 ^ L - 1 + 1 = 2 ^ L by omega] at e
  exact e
theorem rs_needed {N : Int → Int} {B : Int → Int → Int → Int} (V : ∀ b k c, bx_v (B b k c)) {m : dc_M} (hb : bx_R N B m) (hl : 0 ≤ m 114 2 ∧ m 114 2 ≤ 740) {x v : Int} {m' : dc_M} (h : D_233 x m v m') : m' 114 2 = 0 ∧ (∀ (k : Nat) (i : Int), k ≠ 141 → k ≠ 142 → ¬ (k = 114 ∧ (i = 0 ∨ i = 2 ∨ i = 3 ∨ i = 4 ∨ i = 47)) → m' k i = m k i) ∧ (((0 ≤ x ∧ x < 8) ∧ nd_c (rz_t m) (m 114 2) ∧ ∃ L : Nat, m 114 2 = ((L : Nat) : Int) ∧ v = ((pb_s 8 (nd_b (nd_P (B x) (rz_t m) (N x) L) L (2 ^ L - 1)) : Nat) : Int) ∧ m' 114 47 = ((nd_b (nd_P (B x) (rz_t m) (N x) L) L (2 ^ L - 1) : Nat) : Int)) ∨ (¬ ((0 ≤ x ∧ x < 8) ∧ nd_c (rz_t m) (m 114 2)) ∧ v = -1 ∧ m' 114 47 = m 114 47)) := by
  obtain ⟨m0, e0, v1, m1, ⟨n1, d1, n2, d2, n3, d3, -, em1⟩, v2, m2, h2, h⟩ := h
  have f1 : ∀ (k : Nat) (i : Int), ¬ (k = 114 ∧ (i = 0 ∨ i = 2 ∨ i = 3 ∨ i = 4)) → m1 k i = m k i := fun k i z => by
    rw [em1, d3]
    refine (if_neg (fun w => z ⟨w.1, by omega⟩)).trans ?_
    rw [d2]
    refine (if_neg (fun w => z ⟨w.1, by omega⟩)).trans ?_
    rw [d1]
    refine (if_neg (fun w => z ⟨w.1, by omega⟩)).trans ?_
    rw [e0]
    exact if_neg (fun w => z ⟨w.1, by omega⟩)
  have l2 : m1 114 2 = 0 := by rw [em1, d3, dc_up_i (by decide), d2, dc_up_s]
  have l3 : m1 114 3 = m 114 2 := by rw [em1, d3, dc_up_i (by decide), d2, dc_up_i (by decide), d1, dc_up_s, e0, dc_up_i (by decide)]
  clear e0 d1 d2 d3 em1
  obtain ⟨e2, q2⟩ := rl_box h2
  clear h2
  rw [e2] at h
  have et : ∀ i, rz_t m1 i = rz_t m i := fun i => by unfold rz_t; rw [f1 115 i (by omega)]
  have no : ¬ ((0 ≤ x ∧ x < 8) ∧ nd_c (rz_t m) (m 114 2)) → v = -1 → m' = m1 → m' 114 2 = 0 ∧ (∀ (k : Nat) (i : Int), k ≠ 141 → k ≠ 142 → ¬ (k = 114 ∧ (i = 0 ∨ i = 2 ∨ i = 3 ∨ i = 4 ∨ i = 47)) → m' k i = m k i) ∧ (((0 ≤ x ∧ x < 8) ∧ nd_c (rz_t m) (m 114 2) ∧ ∃ L : Nat, m 114 2 = ((L : Nat) : Int) ∧ v = ((pb_s 8 (nd_b (nd_P (B x) (rz_t m) (N x) L) L (2 ^ L - 1)) : Nat) : Int) ∧ m' 114 47 = ((nd_b (nd_P (B x) (rz_t m) (N x) L) L (2 ^ L - 1) : Nat) : Int)) ∨ (¬ ((0 ≤ x ∧ x < 8) ∧ nd_c (rz_t m) (m 114 2)) ∧ v = -1 ∧ m' 114 47 = m 114 47)) := fun z ev em => by
    rw [em]
    exact ⟨l2, fun k i _ _ y => f1 k i (fun w => y ⟨w.1, by omega⟩), Or.inr ⟨z, ev, f1 114 47 (by omega)⟩⟩
  rcases h with ⟨c1, ev, em⟩ | ⟨c1, v3, m3, h3, h⟩
  · refine no (fun z => ?_) ev em
    rcases q2 with ⟨q1, -⟩ | ⟨-, q1⟩
    · omega
    · exact q1 z.1
  · have hx : 0 ≤ x ∧ x < 8 := by
      rcases q2 with ⟨-, q1⟩ | ⟨q1, -⟩
      · exact q1
      · exact absurd q1 c1
    rw [l3] at h3
    obtain ⟨e3, q3⟩ := rz_in h3
    clear h3
    rw [e3] at h
    rcases h with ⟨c2, c, h⟩ | ⟨c2, ev, em⟩
    · have hL : 1 ≤ m 114 2 ∧ m 114 2 ≤ 8 := by
        rcases q3 with ⟨q, -⟩ | ⟨-, q⟩
        · exact absurd q c2
        · exact q
      have eL : m 114 2 = (((m 114 2).toNat : Nat) : Int) := by clear h; omega
      have main : ∀ (c : Nat) (l v : Int) (m' : dc_M), LM_233 x c 33 l 0 0 m1 v m' → 0 ≤ l → l ≤ m 114 2 → (∀ i, 0 ≤ i → i < l → 1 ≤ rz_t m i ∧ rz_t m i ≤ 20) → (¬ nd_c (rz_t m) (m 114 2) ∧ v = -1 ∧ m' = m1) ∨ (nd_c (rz_t m) (m 114 2) ∧ ∃ c, LM_233 x c 67 (-1) 0 0 m1 v m') := by
        intro c
        induction c with
        | zero => intro l v m' h; exact h.elim
        | succ c ih =>
          intro l v m' h l0 l1 hv
          replace h := lm_233_33.mp h
          rw [l3, dw (z := l + 1) (by omega) (by omega)] at h
          rcases h with ⟨c1, h⟩ | ⟨c1, v2, m2, ⟨-, ev2, em2⟩, v4, m4, h4, h⟩
          · exact Or.inr ⟨⟨hL, fun i i0 i1 => hv i i0 (by clear h; omega)⟩, c, h⟩
          · have ev2 : v2 = rz_t m l := by rw [← et l]; exact ev2
            rw [em2, ev2] at h4
            obtain ⟨e4, q4⟩ := rz_in h4
            clear h4
            rw [e4] at h
            rcases h with ⟨c2, h⟩ | ⟨c2, ev, em⟩
            · refine ih (l + 1) v m' h (by clear h; omega) (by clear h; omega) (fun i i0 i1 => ?_)
              by_cases y : i = l
              · rw [y]
                rcases q4 with ⟨q, -⟩ | ⟨-, q⟩
                · exact absurd q c2
                · exact q
              · exact hv i i0 (by clear h; omega)
            · refine Or.inl ⟨fun z => ?_, ev, em⟩
              rcases q4 with ⟨-, q⟩ | ⟨q, -⟩
              · exact q (z.2 l l0 (by omega))
              · omega
      rcases main c 0 v m' h (Int.le_refl 0) (by omega) (fun i i0 i1 => by omega) with ⟨nz, ev, em⟩ | ⟨hc, c', h'⟩
      · exact no (fun z => nz z.2) ev em
      · clear h main
        have hc' : nd_c (rz_t m) (((m 114 2).toNat : Nat) : Int) := by rw [← eL]; exact hc
        have h11 : (m 114 2).toNat < 11 := by clear h'; omega
        obtain ⟨r1, r2, r3⟩ := (rs_233l V hc' hx (hb.cg (fun k i hk => f1 k i (by clear h'; omega))) (l3.trans eL) (fun i _ _ => et i) c').1 0 (-1) m1 v m' h' (Nat.zero_le _) (fun _ _ _ => rfl) (Or.inl ⟨rfl, rfl, Nat.zero_le _⟩)
        clear h'
        rw [nd_b_full h11] at r1 r2
        refine ⟨(r3 114 2 (by unfold rnd_t; omega)).trans l2, fun k i y1 y2 y3 => (r3 k i (by unfold rnd_t; omega)).trans (f1 k i (fun w => y3 ⟨w.1, by omega⟩)), Or.inl ⟨hx, hc, _, eL, r1, r2⟩⟩
    · rcases q3 with ⟨-, q⟩ | ⟨q, -⟩
      · exact no (fun z => q z.2.1) ev em
      · exfalso; omega
