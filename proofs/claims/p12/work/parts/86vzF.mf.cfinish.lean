/-! THE CLASS'S CYCLE: finishCycle -/
theorem cf_t {T : Int → Int} {o : Nat} (ho : o = 11 ∨ o = 30 ∨ o = 35) {c : Nat} {l : Int} {m : dc_M} {v : Int} {m' : dc_M} (h : LM_60 c 102 l m v m') (H : cd_T T m) (eo : (m 16 11).toNat = o) (l0 : 0 ≤ l) (l1 : l < 4) (hw : -999999 ≤ m (o + 3) l ∧ m (o + 3) l ≤ 999999) (hov : 0 ≤ m o 7 ∧ m o 7 ≤ 1000000) : ∃ c m2, LM_60 c 102 (l + 1) m2 v m' ∧ m2 (o + 3) l = mp_w1 T l (m (o + 3) l) ∧ m2 o 7 = m o 7 + mp_ov T l (m (o + 3) l) ∧ cd_wf o l m m2 ∧ cd_T T m2 ∧ (m2 16 11).toNat = o := by
  cases c with
  | zero => exact h.elim
  | succ c =>
    have w1 : dc_w (l + 1) = l + 1 := dw (by omega) (by omega)
    replace h := lm_60_102.mp h
    rw [w1] at h
    rcases h with ⟨c1, -⟩ | ⟨c1, v2, m2, hd, h⟩
    · exfalso; omega
    · obtain ⟨a1, a2, a3⟩ := cd_turn H eo (by clear h hd; omega) (by clear h hd; omega) l0 l1 hw hov hd
      clear hd
      exact ⟨c, m2, h, a1, a2, a3, H.cg (fun i => a3 25 i (by clear h; omega) (by clear h; omega)), by rw [a3 16 11 (by clear h; omega) (by clear h; omega)]; exact eo⟩
/-- WHEELS and punch -/
theorem cf_102 {T : Int → Int} {o : Nat} (ho : o = 11 ∨ o = 30 ∨ o = 35) {c : Nat} {m : dc_M} {v : Int} {m' S : dc_M} {room B : Int} (h : LM_60 c 102 0 m v m') (H : cd_T T m) (eo : (m 16 11).toNat = o) (er : m 16 13 = room) (h40 : room ≤ 40) (O : co_0 o m S) (K : mp_K room B S) (hB : B ≤ 900000) (e0 : S 0 0 = 0) : (v = if mp_a2 T room (mp_wh T S) 0 0 = 0 then 1 else 0) ∧ co_0 o m' (mp_a2 T room (mp_wh T S)) ∧ ∀ (k : Nat) (i : Int), ¬ (o ≤ k ∧ k ≤ o + 4) → m' k i = m k i := by
  obtain ⟨O1, O2, O3, O4, O5, O6, O7, O8, O9, O10, O11⟩ := O
  have K2 := K.wh (T := T)
  obtain ⟨k1, k2, k3, k4, k5, k6⟩ := K
  obtain ⟨c, m1, h, a1, a2, a3, H1, o1⟩ := cf_t ho h H eo (by decide) (by decide) (by rw [O9 0 (by decide) (by decide)]; exact k3 0 (by decide) (by decide)) (by rw [O5]; clear h; omega)
  have v0 := mp_ov_r T 0 (m (o + 3) 0)
  have e1 : m1 (o + 3) 1 = m (o + 3) 1 := a3 _ _ (by clear h; omega) (by clear h; omega)
  have e2 : m1 (o + 3) 2 = m (o + 3) 2 := a3 _ _ (by clear h; omega) (by clear h; omega)
  have e3 : m1 (o + 3) 3 = m (o + 3) 3 := a3 _ _ (by clear h; omega) (by clear h; omega)
  rw [show (0 : Int) + 1 = 1 from rfl] at h
  obtain ⟨c, m2, h, b1, b2, b3, H2, o2⟩ := cf_t ho h H1 o1 (by decide) (by decide) (by rw [e1, O9 1 (by decide) (by decide)]; exact k3 1 (by decide) (by decide)) (by rw [a2, O5]; clear h; omega)
  have v1 := mp_ov_r T 1 (m1 (o + 3) 1)
  have f2 : m2 (o + 3) 2 = m (o + 3) 2 := (b3 _ _ (by clear h; omega) (by clear h; omega)).trans e2
  have f3 : m2 (o + 3) 3 = m (o + 3) 3 := (b3 _ _ (by clear h; omega) (by clear h; omega)).trans e3
  rw [show (1 : Int) + 1 = 2 from rfl] at h
  obtain ⟨c, m3, h, c1, c2, c3, H3, o3⟩ := cf_t ho h H2 o2 (by decide) (by decide) (by rw [f2, O9 2 (by decide) (by decide)]; exact k3 2 (by decide) (by decide)) (by rw [b2, a2, O5]; clear h; omega)
  have v2 := mp_ov_r T 2 (m2 (o + 3) 2)
  have g3 : m3 (o + 3) 3 = m (o + 3) 3 := (c3 _ _ (by clear h; omega) (by clear h; omega)).trans f3
  rw [show (2 : Int) + 1 = 3 from rfl] at h
  obtain ⟨c, m4, h, d1, d2, d3, H4, o4⟩ := cf_t ho h H3 o3 (by decide) (by decide) (by rw [g3, O9 3 (by decide) (by decide)]; exact k3 3 (by decide) (by decide)) (by rw [c2, b2, a2, O5]; clear h; omega)
  rw [show (3 : Int) + 1 = 4 from rfl] at h
  have F : ∀ (k : Nat) (i : Int), k ≠ o + 3 → ¬ (k = o ∧ i = 7) → m4 k i = m k i := fun k i z1 z2 => by
    rw [d3 k i (by clear h; omega) z2, c3 k i (by clear h; omega) z2, b3 k i (by clear h; omega) z2, a3 k i (by clear h; omega) z2]
  have N : co_0 o m4 (mp_wh T S) := by
    unfold co_0
    rw [mp_wh_5, mp_wh_o (k := 0) (i := 1) (by omega) (by omega), mp_wh_o (k := 0) (i := 2) (by omega) (by omega), mp_wh_o (k := 0) (i := 3) (by omega) (by omega), mp_wh_o (k := 0) (i := 4) (by omega) (by omega), mp_wh_o (k := 0) (i := 6) (by omega) (by omega), mp_wh_o (k := 0) (i := 7) (by omega) (by omega), mp_wh_o (k := 0) (i := 0) (by omega) (by omega)]
    refine ⟨(F _ _ (by clear h; omega) (by clear h; omega)).trans O1, (F _ _ (by clear h; omega) (by clear h; omega)).trans O2, (F _ _ (by clear h; omega) (by clear h; omega)).trans O3, (F _ _ (by clear h; omega) (by clear h; omega)).trans O4, ?_, (F _ _ (by clear h; omega) (by clear h; omega)).trans O6, (F _ _ (by clear h; omega) (by clear h; omega)).trans O7, fun i i0 i1 => ?_, fun w w0 w1 => ?_, fun i i0 i1 => ?_, (F _ _ (by clear h; omega) (by clear h; omega)).trans O11⟩
    · rw [d2, c2, b2, a2, O5, g3, f2, e1, O9 0 (by decide) (by decide), O9 1 (by decide) (by decide), O9 2 (by decide) (by decide), O9 3 (by decide) (by decide)]
    · rw [mp_wh_o (by omega) (by omega)]
      exact (F _ _ (by clear h; omega) (by clear h; omega)).trans (O8 i i0 i1)
    · rw [mp_wh_2 w0 w1]
      rcases (show w = 0 ∨ w = 1 ∨ w = 2 ∨ w = 3 by clear h; omega) with e | e | e | e
      · rw [e, d3 _ _ (by clear h; omega) (by clear h; omega), c3 _ _ (by clear h; omega) (by clear h; omega), b3 _ _ (by clear h; omega) (by clear h; omega), a1, O9 0 (by decide) (by decide)]
      · rw [e, d3 _ _ (by clear h; omega) (by clear h; omega), c3 _ _ (by clear h; omega) (by clear h; omega), b1, e1, O9 1 (by decide) (by decide)]
      · rw [e, d3 _ _ (by clear h; omega) (by clear h; omega), c1, f2, O9 2 (by decide) (by decide)]
      · rw [e, d1, g3, O9 3 (by decide) (by decide)]
    · rw [mp_wh_o (by omega) (by omega)]
      exact (F _ _ (by clear h; omega) (by clear h; omega)).trans (O10 i i0 i1)
  have r4 : m4 16 13 = room := (F _ _ (by clear h; omega) (by clear h; omega)).trans er
  have p2 : m4 o 3 = mp_wh T S 0 2 := N.2.1
  have w00 : mp_wh T S 0 0 = 0 := (mp_wh_o (by omega) (by omega)).trans e0
  have q2 := K2.2.1
  cases c with
  | zero => exact h.elim
  | succ c =>
    replace h := lm_60_102.mp h
    rcases h with ⟨-, v5, m5, hd, ev, em⟩ | ⟨d, -⟩
    · have P := cd_punch H4 o4 (by clear hd; omega) (by clear hd; omega) r4 (by rw [p2]; clear hd; omega) hd
      clear hd
      rw [ev, em]
      rcases P with ⟨p1, y2, y3⟩ | ⟨p1, y2, y3, y4⟩ | ⟨p1, y2, y3, y4, y5, y6⟩
      · have ea : mp_a2 T room (mp_wh T S) = mp_wh T S := if_neg (by omega)
        rw [ea, w00, if_pos rfl, y3]
        exact ⟨y2, N, fun k i z => F k i (by omega) (by omega)⟩
      · have ea : mp_a2 T room (mp_wh T S) = dc_up (mp_wh T S) 0 0 3 := (if_pos p1).trans (if_pos (by rw [← p2]; exact y2))
        rw [ea, y4]
        refine ⟨by rw [dc_up_s, if_neg (by decide)]; exact y3, ?_, fun k i z => ?_⟩
        · obtain ⟨N1, N2, N3, N4, N5, N6, N7, N8, N9, N10, N11⟩ := N
          refine ⟨?_, ?_, ?_, ?_, ?_, ?_, ?_, fun i i0 i1 => ?_, fun w u0 u1 => ?_, fun i i0 i1 => ?_, by rw [dc_up_s, dc_up_s]⟩
          · rw [dc_up_k (by omega), dc_up_i (by decide)]; exact N1
          · rw [dc_up_i (by decide), dc_up_i (by decide)]; exact N2
          · rw [dc_up_i (by decide), dc_up_i (by decide)]; exact N3
          · rw [dc_up_i (by decide), dc_up_i (by decide)]; exact N4
          · rw [dc_up_i (by decide), dc_up_i (by decide)]; exact N5
          · rw [dc_up_i (by decide), dc_up_i (by decide)]; exact N6
          · rw [dc_up_i (by decide), dc_up_i (by decide)]; exact N7
          · rw [dc_up_k (by omega), dc_up_k (by decide)]; exact N8 i i0 i1
          · rw [dc_up_k (by omega), dc_up_k (by decide)]; exact N9 w u0 u1
          · rw [dc_up_k (by omega), dc_up_k (by decide)]; exact N10 i i0 i1
        · rw [dc_up_k (by omega)]; exact F k i (by omega) (by omega)
      · have nr : mp_wh T S 0 2 ≠ room := by rw [← p2]; exact y2
        have ea : mp_a2 T room (mp_wh T S) = mp_pn T (mp_wh T S) := (if_pos p1).trans (if_neg nr)
        rw [ea]
        rw [p2] at y4 y5 y6
        refine ⟨by rw [mp_pn_o (by omega) (by omega), w00, if_pos rfl]; exact y3, ?_, fun k i z => (y6 k i (by omega) (by omega)).trans (F k i (by omega) (by omega))⟩
        obtain ⟨N1, N2, N3, N4, N5, N6, N7, N8, N9, N10, N11⟩ := N
        unfold co_0
        rw [mp_pn_2, mp_pn_o (k := 0) (i := 1) (by omega) (by omega), mp_pn_o (k := 0) (i := 3) (by omega) (by omega), mp_pn_o (k := 0) (i := 4) (by omega) (by omega), mp_pn_o (k := 0) (i := 5) (by omega) (by omega), mp_pn_o (k := 0) (i := 6) (by omega) (by omega), mp_pn_o (k := 0) (i := 7) (by omega) (by omega), mp_pn_o (k := 0) (i := 0) (by omega) (by omega)]
        refine ⟨(y6 _ _ (by omega) (by omega)).trans N1, y4, (y6 _ _ (by omega) (by omega)).trans N3, (y6 _ _ (by omega) (by omega)).trans N4, (y6 _ _ (by omega) (by omega)).trans N5, (y6 _ _ (by omega) (by omega)).trans N6, (y6 _ _ (by omega) (by omega)).trans N7, fun i i0 i1 => ?_, fun w u0 u1 => ?_, fun i i0 i1 => ?_, (y6 _ _ (by omega) (by omega)).trans N11⟩
        · rw [mp_pn_o (by omega) (by omega)]
          exact (y6 _ _ (by omega) (by omega)).trans (N8 i i0 i1)
        · rw [mp_pn_o (by omega) (by omega)]
          exact (y6 _ _ (by omega) (by omega)).trans (N9 w u0 u1)
        · by_cases z : 20 * mp_wh T S 0 2 ≤ i
          · have e := mp_pn_y (T := T) (S := mp_wh T S) (i := i - 20 * mp_wh T S 0 2) (by omega) (by omega)
            have q := y5 (i - 20 * mp_wh T S 0 2) (by omega) (by omega)
            rw [show 20 * mp_wh T S 0 2 + (i - 20 * mp_wh T S 0 2) = i by omega] at e q
            rw [e, q]
          · rw [mp_pn_o (by omega) (by omega), y6 _ _ (by omega) (by omega)]
            exact N10 i i0 (by omega)
    · exact absurd (by decide) d
/-- LINES told, and those printed so far -/
def ct_s (z : Int) (m0 S : dc_M) : Prop := 0 ≤ z → S 0 1 ≤ m0 z.toNat 1 ∧ ∀ i, 0 ≤ i → i < 12 * S 0 1 → S 1 i = m0 (z.toNat + 1) i
def ct_d (z : Int) (m0 S : dc_M) : Prop := 0 ≤ z ∧ ∃ n, 0 ≤ n ∧ n < S 0 1 ∧ (m0 z.toNat 1 ≤ n ∨ ∃ i, 12 * n ≤ i ∧ i < 12 * n + 12 ∧ S 1 i ≠ m0 (z.toNat + 1) i)
/-- LINES stay as they are printed -/
def mp_le (S R : dc_M) : Prop := S 0 1 ≤ R 0 1 ∧ ∀ i, 0 ≤ i → i < 12 * S 0 1 → R 1 i = S 1 i
theorem mp_le.rf {S : dc_M} : mp_le S S := ⟨Int.le_refl _, fun _ _ _ => rfl⟩
theorem mp_le.tr {A B C : dc_M} (h : mp_le A B) (g : mp_le B C) : mp_le A C := by
  have h1 := h.1
  exact ⟨Int.le_trans h.1 g.1, fun i i0 i1 => (g.2 i i0 (by omega)).trans (h.2 i i0 i1)⟩
theorem ct_d.le {z : Int} {m0 A B : dc_M} (d : ct_d z m0 A) (h : mp_le A B) : ct_d z m0 B := by
  obtain ⟨z0, n, n0, n1, d⟩ := d
  have h1 := h.1
  refine ⟨z0, n, n0, by omega, ?_⟩
  rcases d with d | ⟨i, i0, i1, d⟩
  · exact Or.inl d
  · exact Or.inr ⟨i, i0, i1, by rw [h.2 i (by omega) (by omega)]; exact d⟩
theorem mp_le.a2 {T : Int → Int} {room : Int} {S : dc_M} : mp_le (mp_wh T S) (mp_a2 T room (mp_wh T S)) := by
  unfold mp_a2
  split
  · split
    · exact ⟨by rw [dc_up_i (by decide)]; exact Int.le_refl _, fun i _ _ => by rw [dc_up_k (by decide)]⟩
    · exact ⟨by rw [mp_pn_o (by omega) (by omega)]; exact Int.le_refl _, fun i _ _ => mp_pn_o (by omega) (by omega)⟩
  · exact mp_le.rf
theorem mp_le.wh {T : Int → Int} {S : dc_M} : mp_le S (mp_wh T S) := ⟨by rw [mp_wh_o (by omega) (by omega)]; exact Int.le_refl _, fun i _ _ => mp_wh_o (by omega) (by omega)⟩
theorem mp_le.ln {T : Int → Int} {S : dc_M} : mp_le S (mp_ln T S) := ⟨by rw [mp_ln_1]; omega, fun i _ _ => mp_ln_o (by omega) (by omega)⟩
theorem mp_le.cyc {E : Int → Int → Prop} {g : Int → Int} {room : Int} {S : dc_M} : mp_le S (mp_cyc E g room S) := by
  cases e : mp_jm E g with
  | none =>
    have q : mp_cyc E g room S = mp_act (mp_tk E g) room S := by
      unfold mp_cyc
      rw [e]
    rw [q]
    unfold mp_act
    split
    · exact ⟨by rw [dc_up_i (by decide)]; exact Int.le_refl _, fun i _ _ => by rw [dc_up_k (by decide)]⟩
    · refine mp_le.tr (B := mp_a1 (mp_tk E g) S) ?_ (mp_le.wh.tr mp_le.a2)
      unfold mp_a1
      split
      · exact mp_le.ln
      · exact mp_le.rf
  | some p =>
    obtain ⟨a, b⟩ := p
    rw [mp_cyc_j e]
    exact ⟨by rw [dc_up_i (by decide), dc_up_i (by decide), dc_up_i (by decide)]; exact Int.le_refl _, fun i _ _ => by rw [dc_up_k (by decide), dc_up_k (by decide), dc_up_k (by decide)]⟩
theorem ct_s.eq {z : Int} {m0 A B : dc_M} (s : ct_s z m0 A) (e1 : B 0 1 = A 0 1) (e2 : ∀ i, 0 ≤ i → i < 12 * A 0 1 → B 1 i = A 1 i) : ct_s z m0 B := fun z0 => by
  obtain ⟨s1, s2⟩ := s z0
  rw [e1]
  exact ⟨s1, fun i i0 i1 => (e2 i i0 i1).trans (s2 i i0 i1)⟩
/-- behind a CYCLE of the class: S the figures now; astray: LINES printed are not those told -/
def cf_R (o : Nat) (z : Int) (m0 : dc_M) (v : Int) (m' S : dc_M) : Prop := ((v = if S 0 0 = 0 then 1 else 0) ∧ co_0 o m' S ∧ m' 16 14 = 0 ∧ ct_s z m0 S) ∨ (v = 0 ∧ m' 16 14 = 1 ∧ ct_d z m0 S)
theorem a2_1 {T : Int → Int} {room : Int} {S : dc_M} : mp_a2 T room (mp_wh T S) 0 1 = S 0 1 ∧ ∀ i, mp_a2 T room (mp_wh T S) 1 i = S 1 i := by
  unfold mp_a2
  split
  · split
    · exact ⟨by rw [dc_up_i (by decide), mp_wh_o (by omega) (by omega)], fun i => by rw [dc_up_k (by decide), mp_wh_o (by omega) (by omega)]⟩
    · exact ⟨by rw [mp_pn_o (by omega) (by omega), mp_wh_o (by omega) (by omega)], fun i => by rw [mp_pn_o (by omega) (by omega), mp_wh_o (by omega) (by omega)]⟩
  · exact ⟨mp_wh_o (by omega) (by omega), fun i => mp_wh_o (by omega) (by omega)⟩
/-- print, WHEELS, punch -/
theorem cf_act {T : Int → Int} {o : Nat} (ho : o = 11 ∨ o = 30 ∨ o = 35) {z : Int} (hz : ce_L o z) {m0 : dc_M} {c : Nat} {m : dc_M} {v2 : Int} {m2 : dc_M} {v : Int} {m' S : dc_M} {room B : Int} (H : cd_T T m) (eo : (m 16 11).toNat = o) (ez : m 16 12 = z) (er : m 16 13 = room) (e14 : m 16 14 = 0) (h40 : room ≤ 40) (O : co_0 o m S) (K : mp_K room B S) (hB : B ≤ 900000) (e0 : S 0 0 = 0) (cs : ct_s z m0 S) (tm : 0 ≤ z → m z.toNat 1 = m0 z.toNat 1 ∧ ∀ i, m (z.toNat + 1) i = m0 (z.toNat + 1) i) (h1 : D_61 m v2 m2) (h : ((v2 : Int) ≠ 0 ∧ LM_60 c 102 0 m2 v m') ∨ (¬ ((v2 : Int) ≠ 0) ∧ (v = 0 ∧ m' = m2))) : cf_R o z m0 v m' (mp_act T room S) ∧ ∀ (k : Nat) (i : Int), ¬ (o ≤ k ∧ k ≤ o + 4) → ¬ (k = 16 ∧ i = 14) → m' k i = m k i := by
  have k1 := K.1
  have hT : ∀ t, 96 ≤ t → t < 181 → -1 ≤ T t ∧ T t ≤ 15 := fun t t0 t1 => (H t t0 t1).2
  have P := ce_print ho hz k1.1 k1.2 H eo ez O.1 h1
  clear h1
  unfold mp_act
  rcases P with ⟨p1, p2, p3⟩ | ⟨p1, p2, p3, p4⟩ | ⟨p1, p2, q1, q2, q3, q4⟩
  · rw [if_neg (fun y => p1 y.1)]
    have ea : mp_a1 T S = S := by unfold mp_a1; rw [if_neg p1]
    rw [ea]
    rcases h with ⟨-, h⟩ | ⟨d, -⟩
    · rw [p3] at h
      obtain ⟨r1, r2, r3⟩ := cf_102 ho h H eo er h40 O K hB e0
      clear h
      exact ⟨Or.inl ⟨r1, r2, (r3 16 14 (by omega)).trans e14, cs.eq a2_1.1 (fun i _ _ => a2_1.2 i)⟩, fun k i y1 _ => r3 k i y1⟩
    · exact absurd (by rw [p2]; decide) d
  · rw [if_pos ⟨p1, p2⟩]
    rcases h with ⟨d, -⟩ | ⟨-, ev, em⟩
    · exact absurd p3 d
    · rw [em, p4]
      refine ⟨Or.inl ⟨by rw [dc_up_s, if_neg (by decide)]; exact ev, ?_, by rw [dc_up_k (by omega)]; exact e14, cs.eq (dc_up_i (by decide)) (fun i _ _ => dc_up_k (by decide))⟩, fun k i y1 _ => dc_up_k (by omega)⟩
      obtain ⟨N1, N2, N3, N4, N5, N6, N7, N8, N9, N10, N11⟩ := O
      refine ⟨?_, ?_, ?_, ?_, ?_, ?_, ?_, fun i i0 i1 => ?_, fun w u0 u1 => ?_, fun i i0 i1 => ?_, by rw [dc_up_s, dc_up_s]⟩
      · rw [dc_up_k (by omega), dc_up_i (by decide)]; exact N1
      · rw [dc_up_i (by decide), dc_up_i (by decide)]; exact N2
      · rw [dc_up_i (by decide), dc_up_i (by decide)]; exact N3
      · rw [dc_up_i (by decide), dc_up_i (by decide)]; exact N4
      · rw [dc_up_i (by decide), dc_up_i (by decide)]; exact N5
      · rw [dc_up_i (by decide), dc_up_i (by decide)]; exact N6
      · rw [dc_up_i (by decide), dc_up_i (by decide)]; exact N7
      · rw [dc_up_k (by omega), dc_up_k (by decide)]; exact N8 i i0 i1
      · rw [dc_up_k (by omega), dc_up_k (by decide)]; exact N9 w u0 u1
      · rw [dc_up_k (by omega), dc_up_k (by decide)]; exact N10 i i0 i1
  · have n60 : S 0 1 ≠ 60 := p2
    rw [if_neg (fun y => p2 y.2)]
    have ea : mp_a1 T S = mp_ln T S := by unfold mp_a1; rw [if_pos p1]
    rw [ea]
    obtain ⟨O1, O2, O3, O4, O5, O6, O7, O8, O9, O10, O11⟩ := O
    have L : ∀ i, 0 ≤ i → i < 12 * mp_ln T S 0 1 → m2 (o + 2) i = mp_ln T S 1 i := fun i i0 i1 => by
      rw [mp_ln_1] at i1
      by_cases y : 12 * S 0 1 ≤ i
      · have e := mp_ln_y (T := T) (S := S) (i := i - 12 * S 0 1) (by clear h; omega) (by clear h; omega)
        have q := q2 (i - 12 * S 0 1) (by clear h; omega) (by clear h; omega)
        rw [show 12 * S 0 1 + (i - 12 * S 0 1) = i by clear h; omega] at e q
        rw [e, q]
      · rw [mp_ln_o (by clear h; omega) (by clear h; omega), q3 _ _ (by clear h; omega) (by clear h; omega) (by clear h; omega)]
        exact O8 i i0 (by clear h; omega)
    have N : co_0 o m2 (mp_ln T S) := by
      unfold co_0
      rw [mp_ln_1, mp_ln_o (k := 0) (i := 2) (by omega) (by omega), mp_ln_o (k := 0) (i := 3) (by omega) (by omega), mp_ln_o (k := 0) (i := 4) (by omega) (by omega), mp_ln_o (k := 0) (i := 5) (by omega) (by omega), mp_ln_o (k := 0) (i := 6) (by omega) (by omega), mp_ln_o (k := 0) (i := 7) (by omega) (by omega), mp_ln_o (k := 0) (i := 0) (by omega) (by omega)]
      refine ⟨q1, (q3 _ _ (by clear h; omega) (by clear h; omega) (by clear h; omega)).trans O2, (q3 _ _ (by clear h; omega) (by clear h; omega) (by clear h; omega)).trans O3, (q3 _ _ (by clear h; omega) (by clear h; omega) (by clear h; omega)).trans O4, (q3 _ _ (by clear h; omega) (by clear h; omega) (by clear h; omega)).trans O5, (q3 _ _ (by clear h; omega) (by clear h; omega) (by clear h; omega)).trans O6, (q3 _ _ (by clear h; omega) (by clear h; omega) (by clear h; omega)).trans O7, fun i i0 i1 => L i i0 (by rw [mp_ln_1]; exact i1), fun w u0 u1 => ?_, fun i i0 i1 => ?_, (q3 _ _ (by clear h; omega) (by clear h; omega) (by clear h; omega)).trans O11⟩
      · rw [mp_ln_o (by clear h; omega) (by clear h; omega), q3 _ _ (by clear h; omega) (by clear h; omega) (by clear h; omega)]; exact O9 w u0 u1
      · rw [mp_ln_o (by clear h; omega) (by clear h; omega), q3 _ _ (by clear h; omega) (by clear h; omega) (by clear h; omega)]; exact O10 i i0 i1
    have KL : mp_K room B (mp_ln T S) := by
      obtain ⟨k1, k2, k3, k4, k5, k6⟩ := K
      unfold mp_K
      rw [mp_ln_1, mp_ln_o (k := 0) (i := 2) (by omega) (by omega), mp_ln_o (k := 0) (i := 5) (by omega) (by omega)]
      refine ⟨by clear h; omega, k2, fun w w0 w1 => ?_, k4, fun i i0 i1 => ?_, fun i i0 i1 => ?_⟩
      · rw [mp_ln_o (by clear h; omega) (by clear h; omega)]; exact k3 w w0 w1
      · by_cases y : 12 * S 0 1 ≤ i
        · have e := mp_ln_y (T := T) (S := S) (i := i - 12 * S 0 1) (by clear h; omega) (by clear h; omega)
          rw [show 12 * S 0 1 + (i - 12 * S 0 1) = i by clear h; omega] at e
          rw [e]
          have := hT (132 + (i - 12 * S 0 1)) (by clear h; omega) (by clear h; omega)
          unfold r3_B
          split
          · decide
          · clear h; omega
        · rw [mp_ln_o (by clear h; omega) (by clear h; omega)]; exact k5 i i0 (by clear h; omega)
      · rw [mp_ln_o (by clear h; omega) (by clear h; omega)]; exact k6 i i0 i1
    rcases q4 with ⟨r1, r2, r3⟩ | ⟨r1, r2, r3, r4⟩
    · have cl : ct_s z m0 (mp_ln T S) := fun z0 => by
        obtain ⟨s1, s2⟩ := cs z0
        obtain ⟨t1, t2⟩ := r3 z0
        obtain ⟨u1, u2⟩ := tm z0
        rw [u1] at t1
        refine ⟨by rw [mp_ln_1]; clear h; omega, fun i i0 i1 => ?_⟩
        by_cases y : 12 * S 0 1 ≤ i
        · rw [← L i i0 i1, t2 i y (by rw [mp_ln_1] at i1; clear h; omega)]
          exact u2 i
        · rw [mp_ln_o (by clear h; omega) (by clear h; omega)]; exact s2 i i0 (by clear h; omega)
      rcases h with ⟨-, h⟩ | ⟨d, -⟩
      · obtain ⟨x1, x2, x3⟩ := cf_102 ho h (H.cg (fun i => q3 25 i (by clear h; omega) (by clear h; omega) (by clear h; omega))) (by rw [q3 16 11 (by clear h; omega) (by clear h; omega) (by clear h; omega)]; exact eo) ((q3 16 13 (by clear h; omega) (by clear h; omega) (by clear h; omega)).trans er) h40 N KL hB ((mp_ln_o (by clear h; omega) (by clear h; omega)).trans e0)
        clear h
        exact ⟨Or.inl ⟨x1, x2, (x3 16 14 (by omega)).trans r2, cl.eq a2_1.1 (fun i _ _ => a2_1.2 i)⟩, fun k i y1 y2 => (x3 k i y1).trans (q3 k i (by omega) (by omega) y2)⟩
      · exact absurd (by rw [r1]; decide) d
    · have dl : ct_d z m0 (mp_ln T S) := by
        obtain ⟨u1, u2⟩ := tm r3
        refine ⟨r3, S 0 1, k1.1, by rw [mp_ln_1]; omega, ?_⟩
        rcases r4 with r4 | ⟨i, i0, i1, r4⟩
        · left; rw [← u1]; exact r4
        · right
          refine ⟨i, i0, i1, ?_⟩
          rw [← L i (by clear h; omega) (by rw [mp_ln_1]; clear h; omega), ← u2 i]
          exact r4
      rcases h with ⟨d, -⟩ | ⟨-, ev, em⟩
      · exact absurd r1 d
      · rw [em]
        exact ⟨Or.inr ⟨ev, r2, dl.le (mp_le.wh.tr mp_le.a2)⟩, fun k i y1 y2 => q3 k i (by omega) (by omega) y2⟩
