/-! the sorting of a box: the reference -/
theorem so_rem {x l : Int} (h : bx_v x) : (dc_rem x 16 ≠ 15 → (dc_rem x 16 = l ↔ so_r x = l + 1)) ∧ (¬ dc_rem x 16 ≠ 15 → (-1 = l ↔ so_r x = l + 1)) := by
  obtain ⟨h1, h2⟩ := h
  rw [drm h1.1]
  unfold so_r
  refine ⟨fun z => ⟨fun w => ?_, fun w => ?_⟩, fun z => ⟨fun w => ?_, fun w => ?_⟩⟩ <;> omega
theorem rs_229 {t x n : Int} (ht : 0 ≤ t ∧ t < 8) (hn : 0 ≤ n ∧ n ≤ 40) (hx : 0 ≤ x ∧ x ≤ 19) {rk : Int → Int} (hk : so_k rk n) {m0 : dc_M} (e117 : m0 117 t = n) (h41 : ∀ j, 0 ≤ j → j < n → (0 ≤ m0 141 j ∧ m0 141 j < 40) ∧ bx_v (m0 116 (20 * (40 * t + m0 141 j) + x)) ∧ so_r (m0 116 (20 * (40 * t + m0 141 j) + x)) = rk j) {v : Int} {m' : dc_M} (h : D_229 t x m0 v m') : (∀ i, 0 ≤ i → i < n → m' 141 (so_p rk n i) = m0 141 i) ∧ ∀ (k : Nat) (i : Int), k ≠ 142 → ¬ (k = 141 ∧ 0 ≤ i ∧ i < n) → m' k i = m0 k i := by
  obtain ⟨-, c, h⟩ := h
  rw [e117] at h
  have cp : ∀ (f c : Nat) (l4 l : Int) (m : dc_M) (v : Int) (m' : dc_M), LM_229 t x c 109 n l4 l 0 m v m' → n - l = (f : Int) → 0 ≤ l → (∀ (k : Nat) (i : Int), k ≠ 142 → ¬ (k = 141 ∧ 0 ≤ i ∧ i < n) → m k i = m0 k i) → (∀ i, 0 ≤ i → i < n → m 142 (so_p rk n i) = m0 141 i) → (∀ i, 0 ≤ i → i < l → m 141 i = m 142 i) → (∀ i, 0 ≤ i → i < n → m' 141 (so_p rk n i) = m0 141 i) ∧ ∀ (k : Nat) (i : Int), k ≠ 142 → ¬ (k = 141 ∧ 0 ≤ i ∧ i < n) → m' k i = m0 k i := by
    intro f
    induction f with
    | zero =>
      intro c l4 l m v m' h hf l0 fr h42 h41
      have el : l = n := by omega
      rw [el] at h41
      cases c with
      | zero => exact h.elim
      | succ c =>
        replace h := lm_229_109.mp h
        rcases h with ⟨-, -, em⟩ | ⟨c1, -⟩
        · rw [em]
          refine ⟨fun i i0 i1 => ?_, fr⟩
          have p := so_p_n hk i0 i1
          rw [h41 _ p.1 p.2]; exact h42 i i0 i1
        · exfalso; omega
    | succ f ih =>
      intro c l4 l m v m' h hf l0 fr h42 h41
      cases c with
      | zero => exact h.elim
      | succ c =>
        replace h := lm_229_109.mp h
        rw [dw (z := l + 1) (by omega) (by omega)] at h
        rcases h with ⟨c1, -⟩ | ⟨c1, -, -, m2, e2, h⟩
        · exfalso; omega
        · have f2 : ∀ i, m2 142 i = m 142 i := fun i => by rw [e2, dc_up_k (by decide)]
          refine ih c l4 (l + 1) m2 v m' h (by clear h; omega) (by clear h; omega) (fun k i y1 y2 => ?_) (fun i i0 i1 => (f2 _).trans (h42 i i0 i1)) (fun i i0 i1 => ?_)
          · rw [e2]
            exact (if_neg (fun z => y2 ⟨z.1, by clear h; omega, by clear h; omega⟩)).trans (fr k i y1 y2)
          · rw [f2, e2]
            by_cases y : i = l
            · rw [y, dc_up_s]
            · rw [dc_up_i y]; exact h41 i i0 (by clear h; omega)
  have main : ∀ c : Nat, (∀ (l4 l : Int) (m : dc_M) (v : Int) (m' : dc_M), LM_229 t x c 13 n l4 l 0 m v m' → -1 ≤ l → l ≤ 10 → l4 = nt_c (so_lt rk (l + 1)) n → (∀ (k : Nat) (i : Int), k ≠ 142 → m k i = m0 k i) → (∀ j, 0 ≤ j → j < n → rk j < l + 1 → m 142 (so_p rk n j) = m0 141 j) → (∀ i, 0 ≤ i → i < n → m' 141 (so_p rk n i) = m0 141 i) ∧ ∀ (k : Nat) (i : Int), k ≠ 142 → ¬ (k = 141 ∧ 0 ≤ i ∧ i < n) → m' k i = m0 k i) ∧
    (∀ (l4 l i6 : Int) (m : dc_M) (v : Int) (m' : dc_M), LM_229 t x c 23 n l4 l i6 m v m' → -1 ≤ l → l ≤ 9 → 0 ≤ i6 → i6 ≤ n → l4 = nt_c (so_lt rk (l + 1)) n + nt_c (so_eq rk (l + 1)) i6 → (∀ (k : Nat) (i : Int), k ≠ 142 → m k i = m0 k i) → (∀ j, 0 ≤ j → j < n → (rk j < l + 1 ∨ (rk j = l + 1 ∧ j < i6)) → m 142 (so_p rk n j) = m0 141 j) → (∀ i, 0 ≤ i → i < n → m' 141 (so_p rk n i) = m0 141 i) ∧ ∀ (k : Nat) (i : Int), k ≠ 142 → ¬ (k = 141 ∧ 0 ≤ i ∧ i < n) → m' k i = m0 k i) := by
    intro c
    induction c with
    | zero => exact ⟨fun l4 l m v m' h => h.elim, fun l4 l i6 m v m' h => h.elim⟩
    | succ c ih =>
      obtain ⟨ih1, ih2⟩ := ih
      refine ⟨fun l4 l m v m' h l0 l1 e4 fr h42 => ?_, fun l4 l i6 m v m' h l0 l1 i60 i61 e4 fr h42 => ?_⟩
      · replace h := lm_229_13.mp h
        rcases h with ⟨c1, h⟩ | ⟨c1, h⟩
        · refine cp n.toNat c l4 0 m v m' h (by clear h; omega) (Int.le_refl 0) (fun k i y1 _ => fr k i y1) (fun i i0 i1 => h42 i i0 i1 ?_) (fun i i0 i1 => by exfalso; clear h; omega)
          have := hk i i0 i1
          clear h; omega
        · refine ih2 l4 l 0 m v m' h l0 (by clear h; omega) (Int.le_refl 0) hn.1 (by rw [nt_c_0]; clear h; omega) fr (fun j j0 j1 y => ?_)
          rcases y with y | y
          · exact h42 j j0 j1 y
          · exfalso; clear h; omega
      · replace h := lm_229_23.mp h
        rw [dw (z := l + 1) (by omega) (by omega), dw (z := i6 + 1) (by omega) (by omega)] at h
        rcases h with ⟨c1, h⟩ | ⟨c1, -, -, h⟩
        · have e6 : i6 = n := by clear h; omega
          have e := so_1i (rk := rk) (r := l + 1) hn.1
          rw [e6] at e4 h42
          exact ih1 l4 (l + 1) m v m' h (by clear h; omega) (by clear h; omega) (by clear h; omega) fr (fun j j0 j1 y => h42 j j0 j1 (by clear h; omega))
        · obtain ⟨q1, q2, q3⟩ := h41 i6 i60 (by clear h; omega)
          have e141 : m 141 i6 = m0 141 i6 := fr 141 i6 (by decide)
          rw [e141, dw (z := 40 * t) (by clear h; omega) (by clear h; omega), dw (z := 40 * t + m0 141 i6) (by clear h; omega) (by clear h; omega), dw (z := 20 * (40 * t + m0 141 i6)) (by clear h; omega) (by clear h; omega), dw (z := 20 * (40 * t + m0 141 i6) + x) (by clear h; omega) (by clear h; omega), show m 116 (20 * (40 * t + m0 141 i6) + x) = m0 116 (20 * (40 * t + m0 141 i6) + x) from fr 116 _ (by decide)] at h
          have r := so_rem (l := l) q2
          rw [q3] at r
          have rr := nt_c_r (b := so_lt rk (l + 1)) hn.1
          have r6 := nt_c_r (b := so_eq rk (l + 1)) i60
          have yes : ∀ m2 : dc_M, rk i6 = l + 1 → m2 = dc_up m 142 l4 (m0 141 i6) → LM_229 t x c 23 n (dc_w (l4 + 1)) l (i6 + 1) m2 v m' → (∀ i, 0 ≤ i → i < n → m' 141 (so_p rk n i) = m0 141 i) ∧ ∀ (k : Nat) (i : Int), k ≠ 142 → ¬ (k = 141 ∧ 0 ≤ i ∧ i < n) → m' k i = m0 k i := fun m2 ek e2 h => by
            have ey : so_eq rk (l + 1) i6 ≠ 0 := by rw [← ek]; exact so_e1
            rw [dw (z := l4 + 1) (by clear h; omega) (by clear h; omega)] at h
            have ep : so_p rk n i6 = l4 := by unfold so_p; rw [ek]; clear h; omega
            refine ih2 (l4 + 1) l (i6 + 1) m2 v m' h l0 l1 (by clear h; omega) (by clear h; omega) (by rw [nt_c_y i60 ey]; clear h; omega) (fun k i y => by rw [e2, dc_up_k y]; exact fr k i y) (fun j j0 j1 y => ?_)
            rw [e2]
            by_cases z : j = i6
            · rw [z, ep, dc_up_s]
            · rw [dc_up_i (fun w => z (so_p_inj j0 j1 i60 (by clear h; omega) (w.trans ep.symm)))]
              exact h42 j j0 j1 (by clear h; omega)
          have no : rk i6 ≠ l + 1 → LM_229 t x c 23 n l4 l (i6 + 1) m v m' → (∀ i, 0 ≤ i → i < n → m' 141 (so_p rk n i) = m0 141 i) ∧ ∀ (k : Nat) (i : Int), k ≠ 142 → ¬ (k = 141 ∧ 0 ≤ i ∧ i < n) → m' k i = m0 k i := fun ek h => by
            have ey : so_eq rk (l + 1) i6 = 0 := if_neg ek
            refine ih2 l4 l (i6 + 1) m v m' h l0 l1 (by clear h; omega) (by clear h; omega) (by rw [nt_c_n i60 ey]; exact e4) fr (fun j j0 j1 y => h42 j j0 j1 ?_)
            have : j ≠ i6 ∨ rk j < l + 1 := by
              by_cases z : j = i6
              · rw [z] at y ⊢
                rcases y with y | y
                · exact Or.inr y
                · exact absurd y.1 ek
              · exact Or.inl z
            clear h; omega
          rcases h with ⟨c2, ⟨c3, -, -, m2, e2, h⟩ | ⟨c3, h⟩⟩ | ⟨c2, ⟨c3, -, -, m2, e2, h⟩ | ⟨c3, h⟩⟩
          · exact yes m2 ((r.1 c2).mp c3) e2 h
          · exact no (fun z => c3 ((r.1 c2).mpr z)) h
          · exact yes m2 ((r.2 c2).mp c3) e2 h
          · exact no (fun z => c3 ((r.2 c2).mpr z)) h
  exact (main c).1 0 (-1) m0 v m' h (by decide) (by decide) (by rw [show (-1 : Int) + 1 = 0 by decide, so_bot hn.1 hk]) (fun _ _ _ => rfl) (fun j j0 j1 y => by
    have := hk j j0 j1
    exfalso; clear h; omega)
/-- pass -/
theorem rs_230 {N : Int → Int} {B : Int → Int → Int → Int} (V : ∀ b k c, bx_v (B b k c)) {m : dc_M} (hb : bx_R N B m) {t x v : Int} {m' : dc_M} (h : D_230 t x m v m') : (((0 ≤ t ∧ t < 8) ∧ 1 ≤ x ∧ x ≤ 20) ∧ v = 1 ∧ bx_R N (so_B N B t x) m' ∧ ∀ (k : Nat) (i : Int), k ≠ 116 → k ≠ 141 → k ≠ 142 → ¬ (k = 114 ∧ i = 0) → m' k i = m k i) ∨ (¬ ((0 ≤ t ∧ t < 8) ∧ 1 ≤ x ∧ x ≤ 20) ∧ v = 0 ∧ ∀ (k : Nat) (i : Int), ¬ (k = 114 ∧ i = 0) → m' k i = m k i) := by
  obtain ⟨m0, e0, v1, m1, h1, h⟩ := h
  have f0 : ∀ (k : Nat) (i : Int), ¬ (k = 114 ∧ i = 0) → m0 k i = m k i := fun k i z => by rw [e0]; exact if_neg z
  obtain ⟨e1, q1⟩ := rl_box h1
  clear h1
  rw [e1] at h
  rcases h with ⟨c1, ev, em⟩ | ⟨c1, v2, m2, h2, h⟩
  · rcases q1 with ⟨q1, -⟩ | ⟨-, q1⟩
    · exfalso; omega
    · exact Or.inr ⟨fun z => q1 z.1, ev, by rw [em]; exact f0⟩
  · have ht : 0 ≤ t ∧ t < 8 := by
      rcases q1 with ⟨-, q1⟩ | ⟨q1, -⟩
      · exact q1
      · exact absurd q1 c1
    obtain ⟨e2, q2⟩ := rz_in h2
    clear h2
    rw [e2] at h
    rcases h with ⟨c2, c, h⟩ | ⟨c2, ev, em⟩
    · have hx : 1 ≤ x ∧ x ≤ 20 := by
        rcases q2 with ⟨q, -⟩ | ⟨-, q⟩
        · exact absurd q c2
        · exact q
      have b0 : bx_R N B m0 := hb.cg (fun k i hk => f0 k i (by clear h; omega))
      obtain ⟨nx, n0, n1⟩ := b0.1 t ht.1 ht.2
      have K := so_kk V (t := t) (x := x) (n := N t)
      have last : ∀ (f c : Nat) (l : Int) (m1 : dc_M) (v : Int) (m' : dc_M), LM_230 t x c 127 l 0 m1 v m' → 20 * N t - l = (f : Int) → 0 ≤ l → (∀ (k : Nat) (i : Int), k ≠ 141 → k ≠ 142 → ¬ (k = 116 ∧ 800 * t ≤ i ∧ i < 800 * t + 20 * N t) → m1 k i = m0 k i) → (∀ i, 0 ≤ i → i < l → m1 116 (800 * t + i) = m1 142 i) → v = 1 ∧ (∀ (k : Nat) (i : Int), k ≠ 141 → k ≠ 142 → ¬ (k = 116 ∧ 800 * t ≤ i ∧ i < 800 * t + 20 * N t) → m' k i = m0 k i) ∧ ∀ i, 0 ≤ i → i < 20 * N t → m' 116 (800 * t + i) = m1 142 i := by
        intro f
        induction f with
        | zero =>
          intro c l m1 v m' h hf l0 fr hp
          have el : l = 20 * N t := by omega
          rw [el] at hp
          cases c with
          | zero => exact h.elim
          | succ c =>
            replace h := lm_230_127.mp h
            rw [show m1 117 t = N t from (fr 117 t (by decide) (by decide) (by omega)).trans nx, dw (z := 20 * N t) (by omega) (by omega)] at h
            obtain ⟨-, h⟩ := h
            rcases h with ⟨-, ev, em⟩ | ⟨c1, -⟩
            · rw [em]; exact ⟨ev, fr, hp⟩
            · exfalso; omega
        | succ f ih =>
          intro c l m1 v m' h hf l0 fr hp
          cases c with
          | zero => exact h.elim
          | succ c =>
            replace h := lm_230_127.mp h
            rw [show m1 117 t = N t from (fr 117 t (by decide) (by decide) (by omega)).trans nx, dw (z := 20 * N t) (by omega) (by omega), dw (z := 800 * t) (by omega) (by omega), dw (z := 800 * t + l) (by omega) (by omega), dw (z := l + 1) (by omega) (by omega)] at h
            obtain ⟨-, h⟩ := h
            rcases h with ⟨c1, -⟩ | ⟨c1, -, -, m2, e2, h⟩
            · exfalso; omega
            · have g : ∀ i, m2 142 i = m1 142 i := fun i => by rw [e2, dc_up_k (by decide)]
              obtain ⟨r1, r2, r3⟩ := ih c (l + 1) m2 v m' h (by clear h; omega) (by clear h; omega) (fun k i y1 y2 y3 => by
                rw [e2]
                exact (if_neg (fun z => y3 ⟨z.1, by clear h; omega, by clear h; omega⟩)).trans (fr k i y1 y2 y3)) (fun i i0 i1 => by
                rw [g, e2]
                by_cases y : i = l
                · rw [y, dc_up_s]
                · rw [dc_up_i (by clear h; omega)]; exact hp i i0 (by clear h; omega))
              exact ⟨r1, r2, fun i i0 i1 => (r3 i i0 i1).trans (g i)⟩
      have mid : ∀ c : Nat, (∀ (l : Int) (m1 : dc_M) (v : Int) (m' : dc_M), LM_230 t x c 59 l 0 m1 v m' → 0 ≤ l → l ≤ N t → (∀ (k : Nat) (i : Int), k ≠ 141 → k ≠ 142 → m1 k i = m0 k i) → (∀ j, 0 ≤ j → j < N t → 0 ≤ m1 141 j ∧ m1 141 j < 40) → (∀ j d, 0 ≤ j → j < l → 0 ≤ d → d < 20 → m1 142 (20 * j + d) = m0 116 (20 * (40 * t + m1 141 j) + d)) → v = 1 ∧ (∀ (k : Nat) (i : Int), k ≠ 141 → k ≠ 142 → ¬ (k = 116 ∧ 800 * t ≤ i ∧ i < 800 * t + 20 * N t) → m' k i = m0 k i) ∧ ∀ j d, 0 ≤ j → j < N t → 0 ≤ d → d < 20 → m' 116 (20 * (40 * t + j) + d) = m0 116 (20 * (40 * t + m1 141 j) + d)) ∧
        (∀ (l d0 : Int) (m1 : dc_M) (v : Int) (m' : dc_M), LM_230 t x c 72 l d0 m1 v m' → 0 ≤ l → l < N t → 0 ≤ d0 → d0 ≤ 20 → (∀ (k : Nat) (i : Int), k ≠ 141 → k ≠ 142 → m1 k i = m0 k i) → (∀ j, 0 ≤ j → j < N t → 0 ≤ m1 141 j ∧ m1 141 j < 40) → (∀ j d, 0 ≤ j → 0 ≤ d → d < 20 → (j < l ∨ (j = l ∧ d < d0)) → m1 142 (20 * j + d) = m0 116 (20 * (40 * t + m1 141 j) + d)) → v = 1 ∧ (∀ (k : Nat) (i : Int), k ≠ 141 → k ≠ 142 → ¬ (k = 116 ∧ 800 * t ≤ i ∧ i < 800 * t + 20 * N t) → m' k i = m0 k i) ∧ ∀ j d, 0 ≤ j → j < N t → 0 ≤ d → d < 20 → m' 116 (20 * (40 * t + j) + d) = m0 116 (20 * (40 * t + m1 141 j) + d)) := by
        intro c
        induction c with
        | zero => exact ⟨fun l m1 v m' h => h.elim, fun l d0 m1 v m' h => h.elim⟩
        | succ c ih =>
          obtain ⟨ih1, ih2⟩ := ih
          refine ⟨fun l m1 v m' h l0 l1 fr h41 h42 => ?_, fun l d0 m1 v m' h l0 l1 d00 d01 fr h41 h42 => ?_⟩
          · replace h := lm_230_59.mp h
            rw [show m1 117 t = N t from (fr 117 t (by decide) (by decide)).trans nx] at h
            obtain ⟨-, h⟩ := h
            rcases h with ⟨c1, h⟩ | ⟨c1, h⟩
            · have el : l = N t := by clear h; omega
              rw [el] at h42
              obtain ⟨r1, r2, r3⟩ := last (20 * N t).toNat c 0 m1 v m' h (by clear h; omega) (Int.le_refl 0) (fun k i y1 y2 _ => fr k i y1 y2) (fun i i0 i1 => by exfalso; clear h; omega)
              refine ⟨r1, r2, fun j d j0 j1 e0 e1 => ?_⟩
              have a := r3 (20 * j + d) (by clear h; omega) (by clear h; omega)
              rw [show 800 * t + (20 * j + d) = 20 * (40 * t + j) + d by clear h; omega] at a
              rw [a]; exact h42 j d j0 j1 e0 e1
            · exact ih2 l 0 m1 v m' h l0 (by clear h; omega) (Int.le_refl 0) (by decide) fr h41 (fun j d j0 e0 e1 y => h42 j d j0 (by clear h; omega) e0 e1)
          · replace h := lm_230_72.mp h
            rw [dw (z := l + 1) (by omega) (by omega), dw (z := d0 + 1) (by omega) (by omega)] at h
            rcases h with ⟨c1, h⟩ | ⟨c1, -, -, -, m2, e2, h⟩
            · exact ih1 (l + 1) m1 v m' h (by clear h; omega) (by clear h; omega) fr h41 (fun j d j0 j1 e0 e1 => h42 j d j0 e0 e1 (by clear h; omega))
            · obtain ⟨q1, q2⟩ := h41 l l0 l1
              rw [dw (z := 40 * t) (by clear h; omega) (by clear h; omega), dw (z := 40 * t + m1 141 l) (by clear h; omega) (by clear h; omega), dw (z := 20 * (40 * t + m1 141 l)) (by clear h; omega) (by clear h; omega), dw (z := 20 * (40 * t + m1 141 l) + d0) (by clear h; omega) (by clear h; omega), dw (z := 20 * l) (by clear h; omega) (by clear h; omega), dw (z := 20 * l + d0) (by clear h; omega) (by clear h; omega), show m1 116 (20 * (40 * t + m1 141 l) + d0) = m0 116 (20 * (40 * t + m1 141 l) + d0) from fr 116 _ (by decide) (by decide)] at e2
              have g : ∀ i, m2 141 i = m1 141 i := fun i => by rw [e2, dc_up_k (by decide)]
              obtain ⟨r1, r2, r3⟩ := ih2 l (d0 + 1) m2 v m' h l0 l1 (by clear h; omega) (by clear h; omega) (fun k i y1 y2 => by rw [e2, dc_up_k y2]; exact fr k i y1 y2) (fun j j0 j1 => by rw [g]; exact h41 j j0 j1) (fun j d j0 e0 e1 y => by
                rw [g, e2]
                by_cases z : j = l ∧ d = d0
                · rw [z.1, z.2, dc_up_s]
                · rw [dc_up_i (by clear h; omega)]
                  exact h42 j d j0 e0 e1 (by clear h; omega))
              exact ⟨r1, r2, fun j d j0 j1 e0 e1 => by rw [r3 j d j0 j1 e0 e1, g]⟩
      have first : ∀ (f c : Nat) (l : Int) (m1 : dc_M) (v : Int) (m' : dc_M), LM_230 t x c 26 l 0 m1 v m' → N t - l = (f : Int) → 0 ≤ l → (∀ (k : Nat) (i : Int), k ≠ 141 → m1 k i = m0 k i) → (∀ i, 0 ≤ i → i < l → m1 141 i = i) → v = 1 ∧ (∀ (k : Nat) (i : Int), k ≠ 141 → k ≠ 142 → ¬ (k = 116 ∧ 800 * t ≤ i ∧ i < 800 * t + 20 * N t) → m' k i = m0 k i) ∧ ∀ j d, 0 ≤ j → j < N t → 0 ≤ d → d < 20 → m' 116 (20 * (40 * t + j) + d) = m0 116 (20 * (40 * t + so_q (so_rk (B t) x) (N t) j) + d) := by
        intro f
        induction f with
        | zero =>
          intro c l m1 v m' h hf l0 fr h41
          have el : l = N t := by omega
          rw [el] at h41
          cases c with
          | zero => exact h.elim
          | succ c =>
            replace h := lm_230_26.mp h
            rw [show m1 117 t = N t from (fr 117 t (by decide)).trans nx, dw (z := x - 1) (by omega) (by omega)] at h
            obtain ⟨-, h⟩ := h
            rcases h with ⟨-, v2, m2, h2, h⟩ | ⟨c1, -⟩
            · obtain ⟨s1, s2⟩ := rs_229 ht ⟨n0, n1⟩ (by clear h h2; omega) K ((fr 117 t (by decide)).trans nx) (fun j j0 j1 => by
                rw [h41 j j0 j1, fr 116 _ (by decide), b0.2 t j (x - 1) ht.1 ht.2 j0 j1 (by clear h h2; omega) (by clear h h2; omega)]
                exact ⟨⟨j0, by clear h h2; omega⟩, V _ _ _, rfl⟩) h2
              clear h2
              have q41 : ∀ j, 0 ≤ j → j < N t → m2 141 j = so_q (so_rk (B t) x) (N t) j := fun j j0 j1 => by
                obtain ⟨u1, u2, u3⟩ := so_q_s n0 K j0 j1
                have a := s1 _ u1 u2
                rw [u3, h41 _ u1 u2] at a
                exact a
              obtain ⟨r1, r2, r3⟩ := (mid c).1 0 m2 v m' h (Int.le_refl 0) n0 (fun k i y1 y2 => (s2 k i y2 (fun z => y1 z.1)).trans (fr k i y1)) (fun j j0 j1 => by
                rw [q41 j j0 j1]
                obtain ⟨u1, u2, u3⟩ := so_q_s n0 K j0 j1
                exact ⟨u1, by clear h; omega⟩) (fun j d j0 j1 => by exfalso; clear h; omega)
              exact ⟨r1, r2, fun j d j0 j1 d0 d1 => by rw [r3 j d j0 j1 d0 d1, q41 j j0 j1]⟩
            · exfalso; omega
        | succ f ih =>
          intro c l m1 v m' h hf l0 fr h41
          cases c with
          | zero => exact h.elim
          | succ c =>
            replace h := lm_230_26.mp h
            rw [show m1 117 t = N t from (fr 117 t (by decide)).trans nx, dw (z := l + 1) (by omega) (by omega)] at h
            obtain ⟨-, h⟩ := h
            rcases h with ⟨c1, -⟩ | ⟨c1, -, m2, e2, h⟩
            · exfalso; omega
            · refine ih c (l + 1) m2 v m' h (by clear h; omega) (by clear h; omega) (fun k i y => by rw [e2, dc_up_k y]; exact fr k i y) (fun i i0 i1 => ?_)
              rw [e2]
              by_cases y : i = l
              · rw [y, dc_up_s]
              · rw [dc_up_i y]; exact h41 i i0 (by clear h; omega)
      obtain ⟨r1, r2, r3⟩ := first (N t).toNat c 0 m0 v m' h (by clear h; omega) (Int.le_refl 0) (fun _ _ _ => rfl) (fun i i0 i1 => by exfalso; clear h; omega)
      clear h first mid last
      refine Or.inl ⟨⟨ht, hx⟩, r1, ⟨fun b p0 p1 => ?_, fun b k d p0 p1 k0 k1 d0 d1 => ?_⟩, fun k i y1 y2 y3 y4 => (r2 k i y2 y3 (fun z => y1 z.1)).trans (f0 k i y4)⟩
      · rw [r2 117 b (by decide) (by decide) (by omega)]; exact b0.1 b p0 p1
      · unfold so_B
        by_cases z : b = t
        · rw [z] at k1
          obtain ⟨u1, u2, u3⟩ := so_q_s n0 K k0 k1
          rw [if_pos ⟨z, k0, k1⟩, z, r3 k d k0 k1 d0 d1]
          exact b0.2 t _ d ht.1 ht.2 u1 u2 d0 d1
        · have nb := (b0.1 b p0 p1).2.2
          rw [if_neg (fun w => z w.1), r2 116 _ (by decide) (by decide) (by omega)]
          exact b0.2 b k d p0 p1 k0 k1 d0 d1
    · rcases q2 with ⟨-, q⟩ | ⟨q, -⟩
      · exact Or.inr ⟨fun z => q z.2, ev, by rw [em]; exact f0⟩
      · exfalso; omega
