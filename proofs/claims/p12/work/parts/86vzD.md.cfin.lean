/-! THE CLASS'S CYCLE: what is done with what is taken -/
/-- what HUBS take stands in row 25 -/
def cd_T (T : Int → Int) (m : dc_M) : Prop := ∀ t, 96 ≤ t → t < 181 → m 25 (t - 96) = T t ∧ -1 ≤ T t ∧ T t ≤ 15
theorem cd_T.cg {T : Int → Int} {m m2 : dc_M} (h : cd_T T m) (f : ∀ i, m2 25 i = m 25 i) : cd_T T m2 := fun t t0 t1 => ⟨(f _).trans (h t t0 t1).1, (h t t0 t1).2⟩
theorem cd_59 {T : Int → Int} {m : dc_M} (H : cd_T T m) {t : Int} (t0 : 96 ≤ t) (t1 : t < 181) {v : Int} {m' : dc_M} (h : D_59 t m v m') : m' = m ∧ ((v = 1 ∧ 0 ≤ T t) ∨ (v = 0 ∧ T t < 0)) := by
  obtain ⟨-, h⟩ := h
  have q := H t t0 t1
  rw [dw (by omega) (by omega), q.1] at h
  rcases h with ⟨c, ev, em⟩ | ⟨c, ev, em⟩
  · exact ⟨em, Or.inr ⟨ev, by omega⟩⟩
  · exact ⟨em, Or.inl ⟨ev, by omega⟩⟩
/-- the figures of a RUN in an OUTCOME -/
def co_0 (o : Nat) (m S : dc_M) : Prop := m (o + 1) 1 = S 0 1 ∧ m o 3 = S 0 2 ∧ m o 5 = S 0 3 ∧ m o 6 = S 0 4 ∧ m o 7 = S 0 5 ∧ m o 8 = S 0 6 ∧ m o 9 = S 0 7 ∧ (∀ i, 0 ≤ i → i < 12 * S 0 1 → m (o + 2) i = S 1 i) ∧ (∀ w, 0 ≤ w → w < 4 → m (o + 3) w = S 2 w) ∧ (∀ i, 0 ≤ i → i < 20 * S 0 2 → m (o + 4) i = S 3 i) ∧ m o 4 = S 0 0
theorem co_0.cg {o : Nat} {m m2 S : dc_M} (h : co_0 o m S) (f : ∀ (k : Nat) (i : Int), o ≤ k → k ≤ o + 4 → m2 k i = m k i) : co_0 o m2 S := by
  obtain ⟨h1, h2, h3, h4, h5, h6, h7, h8, h9, h10, h11⟩ := h
  exact ⟨(f _ _ (by omega) (by omega)).trans h1, (f _ _ (by omega) (by omega)).trans h2, (f _ _ (by omega) (by omega)).trans h3, (f _ _ (by omega) (by omega)).trans h4, (f _ _ (by omega) (by omega)).trans h5, (f _ _ (by omega) (by omega)).trans h6, (f _ _ (by omega) (by omega)).trans h7, fun i i0 i1 => (f _ _ (by omega) (by omega)).trans (h8 i i0 i1), fun i i0 i1 => (f _ _ (by omega) (by omega)).trans (h9 i i0 i1), fun i i0 i1 => (f _ _ (by omega) (by omega)).trans (h10 i i0 i1), (f _ _ (by omega) (by omega)).trans h11⟩
/-- turnWheel: digit by digit -/
theorem cd_ts {T : Int → Int} {m : dc_M} (H : cd_T T m) {x : Int} (x0 : 0 ≤ x) (x1 : x < 4) {c : Nat} {l2 l3 l4 v : Int} {m' : dc_M} (h : LM_62 x c 26 l2 l3 l4 m v m') (a0 : 0 ≤ l4) (a1 : l4 ≤ 5) (b0 : 0 ≤ l3) (b1 : l3 ≤ 100000000) : ∃ c, LM_62 x c 26 l2 (10 * l3 + mp_dd T (96 + 6 * x + l4)) (l4 - 1) m v m' := by
  cases c with
  | zero => exact h.elim
  | succ c =>
    have w1 : dc_w (x * 6) = 6 * x := by rw [dw (by omega) (by omega)]; omega
    have w2 : dc_w (96 + 6 * x) = 96 + 6 * x := dw (by omega) (by omega)
    have w3 : dc_w (96 + 6 * x + l4) = 96 + 6 * x + l4 := dw (by omega) (by omega)
    have w6 : dc_w (96 + 6 * x + l4 - 96) = 96 + 6 * x + l4 - 96 := dw (by omega) (by omega)
    have w4 : dc_w (l3 * 10) = 10 * l3 := by rw [dw (by omega) (by omega)]; omega
    have w5 : dc_w (l4 + (-1)) = l4 - 1 := dw (by omega) (by omega)
    have q := H (96 + 6 * x + l4) (by omega) (by omega)
    have ed : (if T (96 + 6 * x + l4) < 0 then 0 else T (96 + 6 * x + l4)) = mp_dd T (96 + 6 * x + l4) := rfl
    have bd : 0 ≤ mp_dd T (96 + 6 * x + l4) ∧ mp_dd T (96 + 6 * x + l4) ≤ 15 := by unfold mp_dd; split <;> omega
    replace h := lm_62_26.mp h
    rw [w1, w2, w3, w4, w5, w6, q.1, ed, dw (z := 10 * l3 + mp_dd T (96 + 6 * x + l4)) (by omega) (by omega)] at h
    rcases h with ⟨c1, -⟩ | ⟨c1, -, h⟩
    · exfalso; omega
    · exact ⟨c, h⟩
theorem cd_tw {T : Int → Int} {m : dc_M} (H : cd_T T m) {x : Int} (x0 : 0 ≤ x) (x1 : x < 4) {c : Nat} {l2 v : Int} {m' : dc_M} (h : LM_62 x c 26 l2 0 5 m v m') : (0 ≤ mp_nmf T x 6 0 ∧ mp_nmf T x 6 0 ≤ 1666665) ∧ ∃ c, LM_62 x (c + 1) 26 l2 (mp_nmf T x 6 0) (-1) m v m' := by
  have hd : ∀ d : Int, 0 ≤ d → d ≤ 5 → 0 ≤ mp_dd T (96 + 6 * x + d) ∧ mp_dd T (96 + 6 * x + d) ≤ 15 := fun d d0 d1 => by
    have q := H (96 + 6 * x + d) (by omega) (by omega)
    unfold mp_dd; split <;> omega
  obtain ⟨c1, h⟩ := cd_ts H x0 x1 h (by decide) (by decide) (by decide) (by decide)
  have d1 := hd 5 (by decide) (by decide)
  obtain ⟨c1, h⟩ := cd_ts H x0 x1 h (by decide) (by decide) (by omega) (by omega)
  have d2 := hd (5 - 1) (by decide) (by decide)
  obtain ⟨c1, h⟩ := cd_ts H x0 x1 h (by decide) (by decide) (by omega) (by omega)
  have d3 := hd (5 - 1 - 1) (by decide) (by decide)
  obtain ⟨c1, h⟩ := cd_ts H x0 x1 h (by decide) (by decide) (by omega) (by omega)
  have d4 := hd (5 - 1 - 1 - 1) (by decide) (by decide)
  obtain ⟨c1, h⟩ := cd_ts H x0 x1 h (by decide) (by decide) (by omega) (by omega)
  have d5 := hd (5 - 1 - 1 - 1 - 1) (by decide) (by decide)
  obtain ⟨c1, h⟩ := cd_ts H x0 x1 h (by decide) (by decide) (by omega) (by omega)
  have d6 := hd (5 - 1 - 1 - 1 - 1 - 1) (by decide) (by decide)
  have e : mp_nmf T x 6 0 = 10 * (10 * (10 * (10 * (10 * (10 * 0 + mp_dd T (96 + 6 * x + 5)) + mp_dd T (96 + 6 * x + (5 - 1))) + mp_dd T (96 + 6 * x + (5 - 1 - 1))) + mp_dd T (96 + 6 * x + (5 - 1 - 1 - 1))) + mp_dd T (96 + 6 * x + (5 - 1 - 1 - 1 - 1))) + mp_dd T (96 + 6 * x + (5 - 1 - 1 - 1 - 1 - 1)) := rfl
  rw [e]
  refine ⟨by omega, ?_⟩
  cases c1 with
  | zero => exact h.elim
  | succ c1 => exact ⟨c1, h⟩
def cd_wf (o : Nat) (x : Int) (m m' : dc_M) : Prop := ∀ (k : Nat) (i : Int), ¬ (k = o + 3 ∧ i = x) → ¬ (k = o ∧ i = 7) → m' k i = m k i
/-- the clearing -/
abbrev cd_C (x v : Int) (m' n1 : dc_M) : Prop := ∃ v2 m2, D_59 (128 + x) n1 v2 m2 ∧ (((v2 : Int) = 0 ∧ (v = 0 ∧ m' = m2)) ∨ (¬ ((v2 : Int) = 0) ∧ ((0 ≤ (x : Int) ∧ (x : Int) < 4) ∧ ∃ m3, m3 = dc_up m2 ((m2 16 11).toNat + 3) x 0 ∧ (v = 0 ∧ m' = m3))))
theorem cd_turn {T : Int → Int} {m : dc_M} (H : cd_T T m) {o : Nat} (eo : (m 16 11).toNat = o) (ho : o < 16 ∨ 25 < o) (ho2 : o + 3 < 16 ∨ 25 < o) {x : Int} (x0 : 0 ≤ x) (x1 : x < 4) (hw : -999999 ≤ m (o + 3) x ∧ m (o + 3) x ≤ 999999) (hov : 0 ≤ m o 7 ∧ m o 7 ≤ 1000000) {v : Int} {m' : dc_M} (h : D_62 x m v m') : m' (o + 3) x = mp_w1 T x (m (o + 3) x) ∧ m' o 7 = m o 7 + mp_ov T x (m (o + 3) x) ∧ cd_wf o x m m' := by
  have w1 : dc_w (120 + x) = 120 + x := dw (by omega) (by omega)
  have w2 : dc_w (124 + x) = 124 + x := dw (by omega) (by omega)
  have w3 : dc_w (128 + x) = 128 + x := dw (by omega) (by omega)
  have wo : dc_w (m o 7 + 1) = m o 7 + 1 := dw (by omega) (by omega)
  revert h
  -- the clearing: n1 is what stands ahead of it
  have C : ∀ (n1 : dc_M) (y : Int), (∀ (k : Nat) (i : Int), k ≠ o + 3 → k ≠ o → n1 k i = m k i) → n1 (o + 3) x = dc_rem y 1000000 → y = mp_tn T x (m (o + 3) x) → n1 o 7 = m o 7 + mp_ov T x (m (o + 3) x) → cd_wf o x m n1 → cd_C x v m' n1 → m' (o + 3) x = mp_w1 T x (m (o + 3) x) ∧ m' o 7 = m o 7 + mp_ov T x (m (o + 3) x) ∧ cd_wf o x m m' := by
    intro n1 y f1 e1 ey e7 fw ⟨v2, m2, hd, h⟩
    have H1 : cd_T T n1 := H.cg (fun i => f1 25 i (by clear h hd; omega) (by clear h hd; omega))
    obtain ⟨e2, q⟩ := cd_59 H1 (by clear h hd; omega) (by clear h hd; omega) hd
    clear hd
    have go : (n1 16 11).toNat = o := by rw [f1 16 11 (by clear h; omega) (by clear h; omega)]; exact eo
    rw [e2, go] at h
    rcases h with ⟨c1, -, em⟩ | ⟨c1, -, m3, e3, -, em⟩
    · rw [em]
      refine ⟨?_, e7, fw⟩
      rw [e1, ey]
      unfold mp_w1
      rw [if_neg (by omega)]
    · rw [em, e3]
      refine ⟨?_, ?_, fun k i z1 z2 => (if_neg z1).trans (fw k i z1 z2)⟩
      · rw [dc_up_s]
        unfold mp_w1
        rw [if_pos (by omega)]
      · rw [dc_up_k (by omega)]; exact e7
  -- turned to y
  have B : ∀ (y : Int), mp_tn T x (m (o + 3) x) = y → -3000000 ≤ y → y ≤ 3000000 → ((dc_abs y < 1000000 ∧ ((0 ≤ (x : Int) ∧ (x : Int) < 4) ∧ ∃ m3, m3 = dc_up m (o + 3) x (dc_rem y 1000000) ∧ cd_C x v m' m3)) ∨ (¬ (dc_abs y < 1000000) ∧ (∃ m4, m4 = dc_up m o 7 (m o 7 + 1) ∧ ((0 ≤ (x : Int) ∧ (x : Int) < 4) ∧ ∃ m3, m3 = dc_up m4 ((m4 16 11).toNat + 3) x (dc_rem y 1000000) ∧ cd_C x v m' m3)))) → m' (o + 3) x = mp_w1 T x (m (o + 3) x) ∧ m' o 7 = m o 7 + mp_ov T x (m (o + 3) x) ∧ cd_wf o x m m' := by
    intro y t y0 y1 h
    have ab : dc_abs y = if y < 0 then -y else y := by
      unfold dc_abs
      split
      · exact dw (by clear h; omega) (by clear h; omega)
      · rfl
    rw [ab] at h
    rcases h with ⟨c1, -, m3, e3, h⟩ | ⟨c1, m4, e4, -, m3, e3, h⟩
    · have ov : mp_ov T x (m (o + 3) x) = 0 := by
        unfold mp_ov
        rw [t]
        refine if_pos ?_
        clear h
        split at c1 <;> omega
      refine C m3 y (fun k i z1 z2 => by rw [e3, dc_up_k z1]) (by rw [e3, dc_up_s]) t.symm ?_ (fun k i z1 z2 => by rw [e3]; exact if_neg z1) h
      rw [ov, e3, dc_up_k (by clear h; omega)]
      clear h
      omega
    · have ov : mp_ov T x (m (o + 3) x) = 1 := by
        unfold mp_ov
        rw [t]
        refine if_neg ?_
        clear h
        split at c1 <;> omega
      have go : (m4 16 11).toNat = o := by rw [e4, dc_up_k (by clear h; omega)]; exact eo
      rw [go] at e3
      refine C m3 y (fun k i z1 z2 => by rw [e3, dc_up_k z1, e4, dc_up_k z2]) (by rw [e3, dc_up_s]) t.symm ?_ (fun k i z1 z2 => ?_) h
      · rw [ov, e3, dc_up_k (by clear h; omega), e4, dc_up_s]
      · rw [e3]
        refine (if_neg z1).trans ?_
        rw [e4]
        exact if_neg z2
  intro h
  unfold D_62 at h
  rw [w1, w2, w3] at h
  obtain ⟨v1, m1, hd, h⟩ := h
  obtain ⟨e1, q1⟩ := cd_59 H (by clear h hd B C; omega) (by clear h hd B C; omega) hd
  clear hd
  rw [e1] at h
  obtain ⟨v2, m2, hd, h⟩ := h
  obtain ⟨e2, q2⟩ := cd_59 H (by clear h hd B C; omega) (by clear h hd B C; omega) hd
  clear hd
  rw [e2] at h
  rcases h with ⟨c1, h⟩ | ⟨c1, c, h⟩
  · have t : mp_tn T x (m (o + 3) x) = m (o + 3) x := if_pos ⟨fun z => by clear h B C; omega, fun z => by clear h B C; omega⟩
    have ov : mp_ov T x (m (o + 3) x) = 0 := by unfold mp_ov; rw [t, if_pos hw]
    refine C m (m (o + 3) x) (fun _ _ _ _ => rfl) ?_ t.symm (by rw [ov]; clear h B C; omega) (fun _ _ _ _ => rfl) h
    clear h B C
    unfold dc_rem
    split <;> omega
  · obtain ⟨hn, c, h⟩ := cd_tw H x0 x1 h
    replace h := lm_62_26.mp h
    rw [w3, eo, wo] at h
    rw [dw (z := -mp_nmf T x 6 0) (by clear h; omega) (by clear h; omega)] at h
    rw [dw (z := m (o + 3) x + -mp_nmf T x 6 0) (by clear h; omega) (by clear h; omega), dw (z := m (o + 3) x + mp_nmf T x 6 0) (by clear h; omega) (by clear h; omega)] at h
    rcases h with ⟨-, -, h⟩ | ⟨d, -⟩
    · rcases h with ⟨d, h⟩ | ⟨d, h⟩
      · refine B _ ?_ (by clear h; omega) (by clear h; omega) h
        have n1 : ¬ (0 ≤ T (120 + x) ↔ 0 ≤ T (124 + x)) := fun z => by have := z.mpr (by clear h; omega); clear h; omega
        have n2 : ¬ 0 ≤ T (120 + x) := by clear h; omega
        unfold mp_tn
        rw [if_neg n1, if_neg n2]
        rfl
      · refine B _ ?_ (by clear h; omega) (by clear h; omega) h
        have n1 : ¬ (0 ≤ T (120 + x) ↔ 0 ≤ T (124 + x)) := fun z => by have := z.mp (by clear h; omega); clear h; omega
        have n2 : 0 ≤ T (120 + x) := by clear h; omega
        unfold mp_tn
        rw [if_neg n1, if_pos n2]
    · exact absurd (by decide) d
/-- punch -/
theorem cd_b {x : Int} (h0 : 0 ≤ x) (h1 : x ≤ 15) : dc_b x = x := by
  have key : ∀ y : Nat, y < 16 → dc_b (y : Int) = (y : Int) := by decide +kernel
  have := key x.toNat (by omega)
  rw [Int.toNat_of_nonneg h0] at this
  exact this
theorem cd_pl {T : Int → Int} {o : Nat} (ho : o < 16 ∨ 25 < o) (ho4 : o + 4 < 16 ∨ 25 < o) {n : Int} (n0 : 0 ≤ n) (n1 : n < 40) : ∀ (f c : Nat) (l : Int) (m : dc_M) (v : Int) (m' : dc_M), LM_63 c 61 (20 * n) l m v m' → 20 - l = (f : Int) → 0 ≤ l → cd_T T m → (m 16 11).toNat = o → m o 3 = n → v = 1 ∧ m' o 3 = n + 1 ∧ (∀ i, l ≤ i → i < 20 → m' (o + 4) (20 * n + i) = r3_B T (159 + i)) ∧ ∀ (k : Nat) (i : Int), ¬ (k = o ∧ i = 3) → ¬ (k = o + 4 ∧ 20 * n + l ≤ i ∧ i < 20 * n + 20) → m' k i = m k i := by
  intro f
  induction f with
  | zero =>
    intro c l m v m' h hf l0 H eo e3
    cases c with
    | zero => exact h.elim
    | succ c =>
      replace h := lm_63_61.mp h
      rw [eo, e3, dw (z := n + 1) (by clear h; omega) (by clear h; omega)] at h
      rcases h with ⟨-, m1, e1, ev, em⟩ | ⟨c1, -⟩
      · rw [em, e1]
        exact ⟨ev, dc_up_s, fun i i0 i1 => by exfalso; omega, fun k i z _ => if_neg z⟩
      · exfalso; omega
  | succ f ih =>
    intro c l m v m' h hf l0 H eo e3
    cases c with
    | zero => exact h.elim
    | succ c =>
      have w1 : dc_w (l + 1) = l + 1 := dw (by omega) (by omega)
      have w2 : dc_w (159 + l) = 159 + l := dw (by omega) (by omega)
      have w3 : dc_w (159 + l - 96) = 159 + l - 96 := dw (by omega) (by omega)
      have w4 : dc_w (20 * n + l) = 20 * n + l := dw (by omega) (by omega)
      have q := H (159 + l) (by omega) (by omega)
      replace h := lm_63_61.mp h
      rw [eo, w1, w2, w3, w4, q.1] at h
      rcases h with ⟨c1, -⟩ | ⟨c1, -, h⟩
      · exfalso; omega
      · have step : ∀ m3, m3 = dc_up m (o + 4) (20 * n + l) (r3_B T (159 + l)) → LM_63 c 61 (20 * n) (l + 1) m3 v m' → v = 1 ∧ m' o 3 = n + 1 ∧ (∀ i, l ≤ i → i < 20 → m' (o + 4) (20 * n + i) = r3_B T (159 + i)) ∧ ∀ (k : Nat) (i : Int), ¬ (k = o ∧ i = 3) → ¬ (k = o + 4 ∧ 20 * n + l ≤ i ∧ i < 20 * n + 20) → m' k i = m k i := by
          intro m3 em3 h
          obtain ⟨i1, i2, i3, i4⟩ := ih c (l + 1) m3 v m' h (by clear h; omega) (by clear h; omega) (H.cg (fun i => by rw [em3, dc_up_k (by clear h; omega)])) (by rw [em3, dc_up_k (by clear h; omega)]; exact eo) (by rw [em3, dc_up_k (by clear h; omega)]; exact e3)
          clear h
          refine ⟨i1, i2, fun i j0 j1 => ?_, fun k i z1 z2 => ?_⟩
          · by_cases z : i = l
            · rw [z, i4 (o + 4) _ (by omega) (by omega), em3, dc_up_s]
            · exact i3 i (by omega) j1
          · rw [i4 k i z1 (fun y => z2 ⟨y.1, by omega, y.2.2⟩), em3]
            exact if_neg (fun y => z2 ⟨y.1, by omega, by omega⟩)
        rcases h with ⟨c2, -, m3, em3, h⟩ | ⟨c2, -, m3, em3, h⟩
        · refine step m3 ?_ h
          have b : 0 ≤ T (159 + l) := by clear h; omega
          rw [em3, cd_b b q.2.2, cd_b b q.2.2, show r3_B T (159 + l) = T (159 + l) from if_neg (by clear h; omega)]
        · refine step m3 ?_ h
          rw [em3, cd_b (by decide) (by decide), cd_b (by decide) (by decide), show r3_B T (159 + l) = 15 from if_pos (by clear h; omega)]
theorem cd_punch {T : Int → Int} {m : dc_M} (H : cd_T T m) {o : Nat} (eo : (m 16 11).toNat = o) (ho : o < 16 ∨ 25 < o) (ho4 : o + 4 < 16 ∨ 25 < o) {room : Int} (er : m 16 13 = room) (hr : 0 ≤ m o 3 ∧ m o 3 ≤ room ∧ room ≤ 40) {v : Int} {m' : dc_M} (h : D_63 m v m') : (T 179 < 0 ∧ v = 1 ∧ m' = m) ∨ (0 ≤ T 179 ∧ m o 3 = room ∧ v = 0 ∧ m' = dc_up m o 4 3) ∨ (0 ≤ T 179 ∧ m o 3 ≠ room ∧ v = 1 ∧ m' o 3 = m o 3 + 1 ∧ (∀ i, 0 ≤ i → i < 20 → m' (o + 4) (20 * m o 3 + i) = r3_B T (159 + i)) ∧ ∀ (k : Nat) (i : Int), ¬ (k = o ∧ i = 3) → ¬ (k = o + 4 ∧ 20 * m o 3 + 0 ≤ i ∧ i < 20 * m o 3 + 20) → m' k i = m k i) := by
  obtain ⟨v1, m1, hd, h⟩ := h
  obtain ⟨e1, q⟩ := cd_59 H (by decide) (by decide) hd
  clear hd
  rw [e1, eo, er] at h
  rcases h with ⟨c1, h⟩ | ⟨c1, ev, em⟩
  · have t0 : 0 ≤ T 179 := by omega
    rcases h with ⟨c2, m2, e2, ev, em⟩ | ⟨c2, h⟩
    · exact Or.inr (Or.inl ⟨t0, by omega, ev, em.trans e2⟩)
    · rcases h with ⟨c3, c, h⟩ | ⟨c3, -⟩
      · rw [show dc_w (m o 3 * 20) = 20 * m o 3 by rw [dw (by clear h; omega) (by clear h; omega)]; clear h; omega] at h
        obtain ⟨a1, a2, a3, a4⟩ := cd_pl ho ho4 hr.1 (by clear h; omega) 20 c 0 m v m' h rfl (by decide) H eo rfl
        exact Or.inr (Or.inr ⟨t0, by clear h; omega, a1, a2, a3, a4⟩)
      · exfalso; omega
  · exact Or.inl ⟨by omega, ev, em⟩
