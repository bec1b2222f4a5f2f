/-! THE JOB'S LINES: the class -/
/-- a place of a row of wants beyond those that stand -/
theorem cj_J.up {k r : Nat} {m m' : dc_M} {J : pj_J} {x : Int} (hJ : cj_J m k J) (e : m' = dc_up m (k + r) (J.2.2.length : Int) x) (hr : 5 ≤ r ∧ r ≤ 8) : cj_J m' k J := by
  obtain ⟨⟨f0, f1⟩, bb, w0, w1⟩ := hJ
  have fr : ∀ j i, j ≠ k + r → m' j i = m j i := fun j i h0 => by rw [e, dc_up_k h0]
  have fw : ∀ (q : Nat) (i : Nat), i < J.2.2.length → m' (k + q) (i : Nat) = m (k + q) (i : Nat) := fun q i hi => by rw [e, dc_up_i (by omega)]
  refine ⟨⟨(fr k 3 (by omega)).trans f0, fun i hi => ?_⟩, fun o h1 h3 => (fr (k + 4) o (by omega)).trans (bb o h1 h3), (fr k 9 (by omega)).trans w0, fun i hi => ?_⟩
  · rw [fr (k + 1) _ (by omega), fr (k + 2) _ (by omega), fr (k + 3) _ (by omega)]; exact f1 i hi
  · rw [fw 5 i hi, fw 6 i hi, fw 7 i hi, fw 8 i hi]; exact w1 i hi
theorem cj_do {k : Nat} {m : dc_M} {v : Int} {m' : dc_M} {t : Int → Int} {n p : Int} {J : pj_J} (h : D_43 k m v m') (hk : 3 ≤ k) (S : cz_S m t n 300 p) (hJ : cj_J m k J) (h8 : (J.2.2.length : Int) < 8) : pz_on (pj_do t n p) (fun f => v = 0 ∧ cj_E k m m' f) (fun q => v = 1 ∧ cj_G k m m' ∧ cz_S m' t n 300 q.2 ∧ cj_J m' k J ∧ m' (k + 6) (J.2.2.length : Int) = q.1.1 ∧ m' (k + 7) (J.2.2.length : Int) = q.1.2) := by
  obtain ⟨v1, m1, h1, h⟩ := h
  have q1 := cz_tnum h1 S
  refine pz_on_bd (fun f e => ?_) (fun d e => ?_)
  · obtain ⟨y1, y2⟩ := pz_on_l q1 e
    rcases h with ⟨c1, -⟩ | ⟨c1, ev, em⟩
    · exact absurd y1 c1
    · rw [em]; exact ⟨ev, y2.j⟩
  · obtain ⟨y1, y2, F1, S1⟩ := pz_on_r q1 e
    obtain ⟨d, p1⟩ := d
    have y1 : v1 = d := y1
    have y2 : 1 ≤ d ∧ d ≤ 6 := y2
    have S1 : cz_S m1 t n 300 p1 := S1
    rcases h with ⟨c1, v2, m2, h2, h⟩ | ⟨c1, -⟩
    · have q2 := cz_tnum h2 S1
      show pz_on (pz_bd (pz_num t n 300 p1 1 3) _) _ _
      refine pz_on_bd (fun f e => ?_) (fun o e => ?_)
      · obtain ⟨z1, z2⟩ := pz_on_l q2 e
        rcases h with ⟨c2, -⟩ | ⟨c2, ev, em⟩
        · exact absurd z1 c2
        · rw [em]; exact ⟨ev, cj_E.go F1.j z2.j⟩
      · obtain ⟨z1, z2, F2, S2⟩ := pz_on_r q2 e
        obtain ⟨o, p2⟩ := o
        have z1 : v2 = o := z1
        have z2 : 1 ≤ o ∧ o ≤ 3 := z2
        have S2 : cz_S m2 t n 300 p2 := S2
        rcases h with ⟨c2, -, m3, e3, -, m4, e4, ev, em⟩ | ⟨c2, -⟩
        · have F : cz_F m m2 := F1.tr F2
          have J2 : cj_J m2 k J := hJ.go hk F.1
          have w2 : m2 k 9 = (J.2.2.length : Int) := J2.2.2.1
          rw [w2] at e3
          have J3 : cj_J m3 k J := J2.up (r := 6) e3 (by decide)
          have w3 : m3 k 9 = (J.2.2.length : Int) := J3.2.2.1
          rw [w3] at e4
          have J4 : cj_J m4 k J := J3.up (r := 7) e4 (by decide)
          have fr : ∀ j i, ¬ (k ≤ j ∧ j ≤ k + 8) → m4 j i = m2 j i := fun j i hj => by rw [e4, dc_up_k (by omega), e3, dc_up_k (by omega)]
          rw [em]
          refine ⟨ev, cj_G.tr F.j (cj_G.of hk fr), cj_S_k hk S2 fr, J4, ?_, ?_⟩
          · rw [e4, dc_up_k (by omega), e3, dc_up_s]; exact y1
          · rw [e4, dc_up_s]; exact z1
        · exfalso; omega
    · exfalso; omega
/-- a want more -/
theorem cj_want {k : Nat} {x0 x1 : Int} {m : dc_M} {v : Int} {m' : dc_M} {J : pj_J} {d o : Int} (h : D_44 k x0 x1 m v m') (hJ : cj_J m k J) (h8 : (J.2.2.length : Int) < 8) (hd : m (k + 6) (J.2.2.length : Int) = d) (ho : m (k + 7) (J.2.2.length : Int) = o) : v = 1 ∧ cj_J m' k (J.1, J.2.1, J.2.2 ++ [(x0, d, o, x1)]) ∧ ∀ j i, ¬ (k ≤ j ∧ j ≤ k + 8) → m' j i = m j i := by
  obtain ⟨⟨f0, f1⟩, bb, w0, w1⟩ := hJ
  obtain ⟨-, m1, e1, -, m2, e2, m3, e3, ev, em⟩ := h
  subst em
  rw [w0] at e1
  have g1 : m1 k 9 = (J.2.2.length : Int) := by rw [e1, dc_up_k (by omega), w0]
  rw [g1] at e2
  have g2 : m2 k 9 = (J.2.2.length : Int) := by rw [e2, dc_up_k (by omega), g1]
  rw [g2, dc_w_eq (by unfold sv_I; omega)] at e3
  have fr : ∀ j i, j ≠ k → j ≠ k + 5 → j ≠ k + 8 → m' j i = m j i := fun j i h0 h5 h8 => by rw [e3, dc_up_k h0, e2, dc_up_k h8, e1, dc_up_k h5]
  refine ⟨ev, ⟨⟨?_, fun i hi => ?_⟩, fun q h1 h3 => (fr (k + 4) q (by omega) (by omega) (by omega)).trans (bb q h1 h3), ?_, fun i hi => ?_⟩, fun j i hj => fr j i (by omega) (by omega) (by omega)⟩
  · rw [e3, dc_up_i (by decide), e2, dc_up_k (by omega), e1, dc_up_k (by omega)]; exact f0
  · rw [fr (k + 1) _ (by omega) (by omega) (by omega), fr (k + 2) _ (by omega) (by omega) (by omega), fr (k + 3) _ (by omega) (by omega) (by omega)]; exact f1 i hi
  · rw [e3, dc_up_s]
    show _ = ((J.2.2 ++ [(x0, d, o, x1)]).length : Int)
    rw [List.length_append]; rfl
  · have hi : i < (J.2.2 ++ [(x0, d, o, x1)]).length := hi
    rw [List.length_append] at hi
    have hi : i < J.2.2.length + 1 := hi
    have r5 : m' (k + 5) (i : Nat) = m1 (k + 5) (i : Nat) := by rw [e3, dc_up_k (by omega), e2, dc_up_k (by omega)]
    have r8 : m' (k + 8) (i : Nat) = m2 (k + 8) (i : Nat) := by rw [e3, dc_up_k (by omega)]
    rw [r5, r8, fr (k + 6) _ (by omega) (by omega) (by omega), fr (k + 7) _ (by omega) (by omega) (by omega)]
    show m1 (k + 5) (i : Nat) = ((J.2.2 ++ [(x0, d, o, x1)]).getD i (0, 0, 0, 0)).1 ∧ m (k + 6) (i : Nat) = ((J.2.2 ++ [(x0, d, o, x1)]).getD i (0, 0, 0, 0)).2.1 ∧ m (k + 7) (i : Nat) = ((J.2.2 ++ [(x0, d, o, x1)]).getD i (0, 0, 0, 0)).2.2.1 ∧ m2 (k + 8) (i : Nat) = ((J.2.2 ++ [(x0, d, o, x1)]).getD i (0, 0, 0, 0)).2.2.2
    by_cases z : i < J.2.2.length
    · rw [pj_gl z, e2, dc_up_i (by omega), e1, dc_up_i (by omega), dc_up_k (by omega)]
      exact w1 i z
    · have z : i = J.2.2.length := by omega
      subst z
      rw [pj_gr, e2, dc_up_s, e1, dc_up_s]
      exact ⟨rfl, hd, ho, rfl⟩
/-- what reading a line leaves -/
abbrev cj_Q (k : Nat) (m : dc_M) (v : Int) (m' : dc_M) (t : Int → Int) (n : Int) (q : pj_J × Int) : Prop := v = 1 ∧ cj_G k m m' ∧ cz_S m' t n 300 q.2 ∧ cj_J m' k q.1
theorem cj_count {k : Nat} {m : dc_M} {v : Int} {m' : dc_M} {t : Int → Int} {n p : Int} {J : pj_J} (h : D_42 k m v m') (hk : 3 ≤ k) (S : cz_S m t n 300 p) (hJ : cj_J m k J) : pz_on (pj_count t n J p) (fun f => v = 0 ∧ cj_E k m m' f) (cj_Q k m v m' t n) := by
  unfold pj_count
  unfold D_42 at h
  rw [hJ.2.2.1, S.2.1.2.1] at h
  rcases h with ⟨c1, v1, m1, h1, v2, m2, h2, h⟩ | ⟨c1, v1, m1, h1, ev, em⟩
  · rw [if_pos c1]
    obtain ⟨F1, S1⟩ := cz_S_adv h1 S
    have J1 := hJ.go hk F1.1
    have q := cj_do h2 hk S1 J1 c1
    refine pz_on_bd (fun f e => ?_) (fun a e => ?_)
    · obtain ⟨y1, y2⟩ := pz_on_l q e
      rcases h with ⟨c2, ev, em⟩ | ⟨c2, -⟩
      · rw [em]; exact ⟨ev, cj_E.go F1.j y2⟩
      · exact absurd y1 c2
    · obtain ⟨y1, G2, S2, J2, y6, y7⟩ := pz_on_r q e
      rcases h with ⟨c2, -⟩ | ⟨c2, v3, m3, h3, h⟩
      · exfalso; omega
      · obtain ⟨z1, J3, fr⟩ := cj_want h3 J2 c1 y6 y7
        rcases h with ⟨c3, -⟩ | ⟨c3, ev, em⟩
        · exfalso; omega
        · rw [em]
          exact ⟨ev, cj_G.tr (cj_G.tr F1.j G2) (cj_G.of hk fr), cj_S_k hk S2 fr, J3⟩
  · rw [if_neg c1, em]
    obtain ⟨y1, y2⟩ := cz_mark h1
    exact ⟨ev.trans y1, y2.j⟩
theorem cj_sum {k : Nat} {m : dc_M} {v : Int} {m' : dc_M} {t : Int → Int} {n p : Int} {J : pj_J} (h : D_41 k m v m') (hk : 3 ≤ k) (S : cz_S m t n 300 p) (hJ : cj_J m k J) (ok : pj_ok J) : pz_on (pj_sum t n J p) (fun f => v = 0 ∧ cj_E k m m' f) (cj_Q k m v m' t n) := by
  unfold pj_sum
  unfold D_41 at h
  rw [hJ.2.2.1, S.2.1.2.1] at h
  rcases h with ⟨c1, v1, m1, h1, v2, m2, h2, h⟩ | ⟨c1, v1, m1, h1, ev, em⟩
  · rw [if_pos c1]
    obtain ⟨F1, S1⟩ := cz_S_adv h1 S
    have val := cj_adv h1 S
    have J1 := hJ.go hk F1.1
    obtain ⟨em2, q2⟩ := cj_isn h2 S1
    subst em2
    rcases h with ⟨c2, v3, m3, h3, h⟩ | ⟨c2, v3, m3, h3, ev, em⟩
    · have isn : pj_isn t n (pz_nx t n 300 p) := by
        rcases q2 with ⟨-, y⟩ | ⟨y, -⟩
        · exact y
        · exact absurd y c2
      rw [if_pos isn]
      have nok := pj_name_ok isn.1 S1.2.2.2
      obtain ⟨em3, q3⟩ := cj_foR h3 (val isn.1) nok.1 ok J1
      subst em3
      rcases h with ⟨c3, v4, m4, h4, v5, m5, h5, h⟩ | ⟨c3, v4, m4, h4, ev, em⟩
      · rw [if_neg (fun z => c3 (q3.trans z)), ← q3]
        obtain ⟨F4, S4⟩ := cz_S_adv h4 S1
        have J4 := J1.go hk F4.1
        have q := cj_do h5 hk S4 J4 c1
        refine pz_on_bd (fun f e => ?_) (fun a e => ?_)
        · obtain ⟨y1, y2⟩ := pz_on_l q e
          rcases h with ⟨c4, -⟩ | ⟨c4, ev, em⟩
          · exact absurd y1 c4
          · rw [em]; exact ⟨ev, cj_E.go (cj_G.tr F1.j F4.j) y2⟩
        · obtain ⟨y1, G5, S5, J5, y6, y7⟩ := pz_on_r q e
          have G : cj_G k m m5 := cj_G.tr (cj_G.tr F1.j F4.j) G5
          rcases h with ⟨c4, v6, m6, h6, h⟩ | ⟨c4, -⟩
          · obtain ⟨em6, q6⟩ := cj_isw h6 (by decide) S5
            subst em6
            unfold pj_over
            rcases h with ⟨c5, v7, m7, h7, ev, em⟩ | ⟨c5, v7, m7, h7, v8, m8, h8, h⟩
            · rw [if_neg (by
                rcases q6 with ⟨y, -⟩ | ⟨-, y⟩
                · exfalso; omega
                · exact y)]
              obtain ⟨z1, J7, fr⟩ := cj_want h7 J5 c1 y6 y7
              rw [em]
              exact ⟨ev.trans z1, cj_G.tr G (cj_G.of hk fr), cj_S_k hk S5 fr, J7⟩
            · rw [if_pos (by
                rcases q6 with ⟨-, y⟩ | ⟨y, -⟩
                · exact y
                · exact absurd y c5)]
              obtain ⟨F7, S7⟩ := cz_S_adv h7 S5
              have J7 := J5.go hk F7.1
              have q8 := cz_tnum h8 S7
              refine pz_on_bd (fun f e => ?_) (fun b e => ?_)
              · obtain ⟨z1, z2⟩ := pz_on_l q8 e
                rcases h with ⟨c6, -⟩ | ⟨c6, ev, em⟩
                · exact absurd z1 c6
                · rw [em]; exact ⟨ev, cj_E.go (cj_G.tr G F7.j) z2.j⟩
              · obtain ⟨z1, z2, F8, S8⟩ := pz_on_r q8 e
                have J8 := J7.go hk F8.1
                rcases h with ⟨c6, v9, m9, h9, ev, em⟩ | ⟨c6, -⟩
                · have y6' : m8 (k + 6) (J.2.2.length : Int) = a.1.1 := by rw [F8.1 _ _ (by omega), F7.1 _ _ (by omega)]; exact y6
                  have y7' : m8 (k + 7) (J.2.2.length : Int) = a.1.2 := by rw [F8.1 _ _ (by omega), F7.1 _ _ (by omega)]; exact y7
                  obtain ⟨x1, J9, fr⟩ := cj_want h9 J8 c1 y6' y7'
                  rw [em, ← z1]
                  exact ⟨ev.trans x1, cj_G.tr (cj_G.tr (cj_G.tr G F7.j) F8.j) (cj_G.of hk fr), cj_S_k hk S8 fr, J9⟩
                · exfalso; omega
          · exfalso; omega
      · rw [if_pos (by rw [← q3]; omega), em]
        rw [S1.2.1.2.1] at h4
        obtain ⟨y1, y2⟩ := cz_mark h4
        exact ⟨ev.trans y1, cj_E.go F1.j y2.j⟩
    · rw [if_neg (by
        rcases q2 with ⟨y, -⟩ | ⟨-, y⟩
        · exfalso; omega
        · exact y), em]
      rw [S1.2.1.2.1] at h3
      obtain ⟨y1, y2⟩ := cz_mark h3
      exact ⟨ev.trans y1, cj_E.go F1.j y2.j⟩
  · rw [if_neg c1, em]
    obtain ⟨y1, y2⟩ := cz_mark h1
    exact ⟨ev.trans y1, y2.j⟩
theorem cj_break {k : Nat} {m : dc_M} {v : Int} {m' : dc_M} {t : Int → Int} {n p : Int} {J : pj_J} (h : D_40 k m v m') (hk : 3 ≤ k) (S : cz_S m t n 300 p) (hJ : cj_J m k J) : pz_on (pj_break t n J p) (fun f => v = 0 ∧ cj_E k m m' f) (cj_Q k m v m' t n) := by
  obtain ⟨v1, m1, h1, v2, m2, h2, h⟩ := h
  obtain ⟨F1, S1⟩ := cz_S_adv h1 S
  have q2 := cz_tnum h2 S1
  unfold pj_break
  refine pz_on_bd (fun f e => ?_) (fun a e => ?_)
  · obtain ⟨y1, y2⟩ := pz_on_l q2 e
    rcases h with ⟨c1, -⟩ | ⟨c1, ev, em⟩
    · exact absurd y1 c1
    · rw [em]; exact ⟨ev, cj_E.go F1.j y2.j⟩
  · obtain ⟨y1, y2, F2, S2⟩ := pz_on_r q2 e
    obtain ⟨a, p1⟩ := a
    have y1 : v2 = a := y1
    have y2 : 1 ≤ a ∧ a ≤ 20 := y2
    have S2 : cz_S m2 t n 300 p1 := S2
    have J2 := (hJ.go hk F1.1).go hk F2.1
    show pz_on (pz_bd (pz_num t n 300 p1 1 3) _) _ _
    rcases h with ⟨c1, v3, m3, h3, h⟩ | ⟨c1, -⟩
    · have q3 := cz_tnum h3 S2
      refine pz_on_bd (fun f e => ?_) (fun o e => ?_)
      · obtain ⟨z1, z2⟩ := pz_on_l q3 e
        rcases h with ⟨c2, -⟩ | ⟨c2, ev, em⟩
        · exact absurd z1 c2
        · rw [em]; exact ⟨ev, cj_E.go (cj_G.tr F1.j F2.j) z2.j⟩
      · obtain ⟨z1, z2, F3, S3⟩ := pz_on_r q3 e
        obtain ⟨o, p2⟩ := o
        have z1 : v3 = o := z1
        have z2 : 1 ≤ o ∧ o ≤ 3 := z2
        have S3 : cz_S m3 t n 300 p2 := S3
        have J3 := J2.go hk F3.1
        have G : cj_G k m m3 := cj_G.tr (cj_G.tr F1.j F2.j) F3.j
        rcases h with ⟨c2, -, h⟩ | ⟨c2, -⟩
        · have eb : m3 (k + 4) v3 = J.2.1 o := by rw [z1]; exact J3.2.1 o z2.1 z2.2
          rw [eb] at h
          rcases h with ⟨c3, -, m4, e4, ev, em⟩ | ⟨c3, v4, m4, h4, ev, em⟩
          · show pz_on (if J.2.1 o = 0 then _ else _) _ _
            rw [if_pos c3, em]
            have fr : ∀ j i, ¬ (k ≤ j ∧ j ≤ k + 8) → m4 j i = m3 j i := fun j i hj => by rw [e4, dc_up_k (by omega)]
            refine ⟨ev, cj_G.tr G (cj_G.of hk fr), cj_S_k hk S3 fr, ?_⟩
            obtain ⟨⟨f0, f1⟩, bb, w0, w1⟩ := J3
            have f4 : ∀ j i, j ≠ k + 4 → m4 j i = m3 j i := fun j i hj => by rw [e4, dc_up_k hj]
            refine ⟨⟨(f4 k 3 (by omega)).trans f0, fun i hi => ?_⟩, fun q h1 h3 => ?_, (f4 k 9 (by omega)).trans w0, fun i hi => ?_⟩
            · rw [f4 (k + 1) _ (by omega), f4 (k + 2) _ (by omega), f4 (k + 3) _ (by omega)]; exact f1 i hi
            · show m4 (k + 4) q = (if q = o then a else J.2.1 q)
              rw [e4, z1]
              by_cases eq : q = o
              · rw [if_pos eq, eq, dc_up_s, y1]
              · rw [if_neg eq, dc_up_i eq]; exact bb q h1 h3
            · rw [f4 (k + 5) _ (by omega), f4 (k + 6) _ (by omega), f4 (k + 7) _ (by omega), f4 (k + 8) _ (by omega)]; exact w1 i hi
          · show pz_on (if J.2.1 o = 0 then _ else _) _ _
            rw [if_neg c3, em]
            rw [S2.2.1.2.1] at h4
            obtain ⟨x1, x2⟩ := cz_mark h4
            exact ⟨ev.trans x1, cj_E.go G x2.j⟩
        · exfalso; omega
    · exfalso; omega
theorem cj_field {k : Nat} {m : dc_M} {v : Int} {m' : dc_M} {t : Int → Int} {n p : Int} {J : pj_J} (h : D_39 k m v m') (hk : 3 ≤ k) (S : cz_S m t n 300 p) (hJ : cj_J m k J) (ok : pj_ok J) : pz_on (pj_field t n J p) (fun f => v = 0 ∧ cj_E k m m' f) (cj_Q k m v m' t n) := by
  unfold pj_field
  unfold D_39 at h
  rw [hJ.1.1, S.2.1.2.1] at h
  rcases h with ⟨c1, v1, m1, h1, v2, m2, h2, h⟩ | ⟨c1, v1, m1, h1, ev, em⟩
  · rw [if_pos c1]
    obtain ⟨F1, S1⟩ := cz_S_adv h1 S
    have val := cj_adv h1 S
    have J1 := hJ.go hk F1.1
    obtain ⟨em2, q2⟩ := cj_isn h2 S1
    subst em2
    rcases h with ⟨c2, v3, m3, h3, h⟩ | ⟨c2, v3, m3, h3, ev, em⟩
    · have isn : pj_isn t n (pz_nx t n 300 p) := by
        rcases q2 with ⟨-, y⟩ | ⟨y, -⟩
        · exact y
        · exact absurd y c2
      rw [if_pos isn]
      have nok := pj_name_ok isn.1 S1.2.2.2
      obtain ⟨em3, q3⟩ := cj_foR h3 (val isn.1) nok.1 ok J1
      subst em3
      rcases h with ⟨c3, v4, m4, h4, v5, m5, h5, h⟩ | ⟨c3, v4, m4, h4, ev, em⟩
      · rw [if_pos (q3.symm.trans c3)]
        obtain ⟨F4, S4⟩ := cz_S_adv h4 S1
        have q5 := cz_tnum h5 S4
        unfold pj_field2
        refine pz_on_bd (fun f e => ?_) (fun a e => ?_)
        · obtain ⟨y1, y2⟩ := pz_on_l q5 e
          rcases h with ⟨c4, -⟩ | ⟨c4, ev, em⟩
          · exact absurd y1 c4
          · rw [em]; exact ⟨ev, cj_E.go (cj_G.tr F1.j F4.j) y2.j⟩
        · obtain ⟨y1, y2, F5, S5⟩ := pz_on_r q5 e
          obtain ⟨a, p1⟩ := a
          have y1 : v5 = a := y1
          have y2 : 1 ≤ a ∧ a ≤ 20 := y2
          have S5 : cz_S m5 t n 300 p1 := S5
          show pz_on (pz_bd (pz_num t n 300 p1 a (if a + 5 < 20 then a + 5 else 20)) _) _ _
          rcases h with ⟨c4, v6, m6, h6, h⟩ | ⟨c4, -⟩
          · rw [y1, dc_w_eq (z := a + 6) (by unfold sv_I; clear h; omega), dc_w_eq (z := a + 6 - 1) (by unfold sv_I; clear h; omega), show a + 6 - 1 = a + 5 by clear h; omega] at h6
            have q6 := cz_tnum h6 S5
            refine pz_on_bd (fun f e => ?_) (fun b e => ?_)
            · obtain ⟨z1, z2⟩ := pz_on_l q6 e
              rcases h with ⟨c5, -⟩ | ⟨c5, ev, em⟩
              · exact absurd z1 c5
              · rw [em]; exact ⟨ev, cj_E.go (cj_G.tr (cj_G.tr F1.j F4.j) F5.j) z2.j⟩
            · obtain ⟨z1, z2, F6, S6⟩ := pz_on_r q6 e
              obtain ⟨b, p2⟩ := b
              have z1 : v6 = b := z1
              have z2 : a ≤ b := z2.1
              have S6 : cz_S m6 t n 300 p2 := S6
              have J6 := ((J1.go hk F4.1).go hk F5.1).go hk F6.1
              rcases h with ⟨c5, -, m7, e7, -, m8, e8, -, m9, e9, m10, e10, ev, em⟩ | ⟨c5, -⟩
              · obtain ⟨x1, fr⟩ := cj_putF e7 e8 e9 e10 J6 c1 (val isn.1)
                rw [em]
                rw [y1, z1] at x1
                exact ⟨ev, cj_G.tr (cj_G.tr (cj_G.tr (cj_G.tr F1.j F4.j) F5.j) F6.j) (cj_G.of hk fr), cj_S_k hk S6 fr, x1⟩
              · exfalso; omega
          · exfalso; omega
      · rw [if_neg (fun z => c3 (q3.trans z)), em]
        rw [S1.2.1.2.1] at h4
        obtain ⟨y1, y2⟩ := cz_mark h4
        exact ⟨ev.trans y1, cj_E.go F1.j y2.j⟩
    · rw [if_neg (by
        rcases q2 with ⟨y, -⟩ | ⟨-, y⟩
        · exfalso; omega
        · exact y), em]
      rw [S1.2.1.2.1] at h3
      obtain ⟨y1, y2⟩ := cz_mark h3
      exact ⟨ev.trans y1, cj_E.go F1.j y2.j⟩
  · rw [if_neg c1, em]
    obtain ⟨y1, y2⟩ := cz_mark h1
    exact ⟨ev.trans y1, y2.j⟩
theorem cj_line {k : Nat} {m : dc_M} {v : Int} {m' : dc_M} {t : Int → Int} {n p : Int} {J : pj_J} (h : D_36 k m v m') (hk : 3 ≤ k) (S : cz_S m t n 300 p) (hJ : cj_J m k J) (ok : pj_ok J) : pz_on (pj_line t n J p) (fun f => v = 0 ∧ cj_E k m m' f) (cj_Q k m v m' t n) := by
  have yes : ∀ {s0 : Nat} {x : Int}, ¬ x = 0 → ((x = 1 ∧ pj_is t n p s0) ∨ (x = 0 ∧ ¬ pj_is t n p s0)) → pj_is t n p s0 := fun a b => by
    rcases b with ⟨-, y⟩ | ⟨y, -⟩
    · exact y
    · exact absurd y a
  have no : ∀ {s0 : Nat} {x : Int}, x = 0 → ((x = 1 ∧ pj_is t n p s0) ∨ (x = 0 ∧ ¬ pj_is t n p s0)) → ¬ pj_is t n p s0 := fun a b => by
    rcases b with ⟨y, -⟩ | ⟨-, y⟩
    · exfalso; omega
    · exact y
  unfold pj_line
  obtain ⟨v1, m1, h1, h⟩ := h
  obtain ⟨em1, q1⟩ := cj_isw h1 (by decide) S
  subst em1
  rcases h with ⟨c1, v2, m2, h2, h⟩ | ⟨c1, v2, m2, h2, ev, em⟩
  · rw [if_neg (no c1 q1)]
    obtain ⟨em2, q2⟩ := cj_isw h2 (by decide) S
    subst em2
    rcases h with ⟨c2, v3, m3, h3, h⟩ | ⟨c2, v3, m3, h3, ev, em⟩
    · rw [if_neg (no c2 q2)]
      obtain ⟨em3, q3⟩ := cj_isw h3 (by decide) S
      subst em3
      rcases h with ⟨c3, v4, m4, h4, h⟩ | ⟨c3, v4, m4, h4, ev, em⟩
      · rw [if_neg (no c3 q3)]
        obtain ⟨em4, q4⟩ := cj_isw h4 (by decide) S
        subst em4
        rcases h with ⟨c4, v5, m5, h5, ev, em⟩ | ⟨c4, v5, m5, h5, ev, em⟩
        · rw [if_neg (no c4 q4), em]
          rw [S.2.1.2.1] at h5
          obtain ⟨y1, y2⟩ := cz_mark h5
          exact ⟨ev.trans y1, y2.j⟩
        · rw [if_pos (yes c4 q4), em, ev]
          exact cj_count h5 hk S hJ
      · rw [if_pos (yes c3 q3), em, ev]
        exact cj_sum h4 hk S hJ ok
    · rw [if_pos (yes c2 q2), em, ev]
      exact cj_break h3 hk S hJ
  · rw [if_pos (yes c1 q1), em, ev]
    exact cj_field h2 hk S hJ ok
theorem cj_rd {k : Nat} (hk : 3 ≤ k) {t : Int → Int} {n : Int} : ∀ (c : Nat) (l : Nat) (m : dc_M) (v : Int) (m' : dc_M) (J : pj_J) (p : Int) (N : Nat), LM_35 k c 27 (l : Nat) m v m' → N + l = 301 → l ≤ 300 → (l : Int) ≤ p → cz_S m t n 300 p → cj_J m k J → pj_ok J → pz_on (pj_rd t n N J p) (fun f => v = 0 ∧ cj_E k m m' f) (fun K => v = 1 ∧ cj_G k m m' ∧ cj_J m' k K) := by
  intro c
  induction c with
  | zero => intro l m v m' J p N h; exact h.elim
  | succ c ih =>
    intro l m v m' J p N h hN hl hlp S hJ ok
    obtain ⟨N, rfl⟩ : ∃ M, N = M + 1 := ⟨N - 1, by omega⟩
    have T := S.2.1
    unfold pj_rd
    replace h := lm_35_27.mp h
    rcases h with ⟨c1, -⟩ | ⟨c1, h⟩
    · exfalso; omega
    · rw [T.1] at h
      rcases h with ⟨c2, v1, m1, h1, h⟩ | ⟨c2, v1, m1, h1, ev, em⟩
      · rw [if_neg c2]
        have q := cj_line h1 hk S hJ ok
        have qb := pj_line_b (t := t) S.2.2.1 S.2.2.2 ok
        refine pz_on_bd (fun f e => ?_) (fun a e => ?_)
        · obtain ⟨y1, y2⟩ := pz_on_l q e
          rcases h with ⟨c3, ev, em⟩ | ⟨c3, -⟩
          · rw [em]; exact ⟨ev, y2⟩
          · exact absurd y1 c3
        · obtain ⟨y1, G1, S1, J1⟩ := pz_on_r q e
          obtain ⟨k1, b1, b2⟩ := pz_on_r qb e
          rcases h with ⟨c3, -⟩ | ⟨c3, v2, m2, h2, h⟩
          · exfalso; omega
          · have r := cz_tsgn h2 S1
            refine pz_on_bd (fun f e => ?_) (fun p2 e => ?_)
            · obtain ⟨z1, z2⟩ := pz_on_l r e
              rcases h with ⟨c4, -⟩ | ⟨c4, ev, em⟩
              · exact absurd z1 c4
              · rw [em]; exact ⟨ev, cj_E.go G1 z2.j⟩
            · obtain ⟨z1, F2, S2⟩ := pz_on_r r e
              have s1 := pz_nx_s (t := t) (lim := 300) c2 S.2.2.2
              have s2 := pz_sgn_s e
              have s3 := pz_nx_s (t := t) (lim := 300) (p := a.2) (by omega) b2
              rcases h with ⟨c4, h⟩ | ⟨c4, -⟩
              · rw [dc_w_eq (z := ((l : Nat) : Int) + 1) (by unfold sv_I; clear h; omega), show ((l : Nat) : Int) + 1 = ((l + 1 : Nat) : Int) from rfl] at h
                have fin := ih (l + 1) m2 v m' a.1 p2 N h (by omega) (by omega) (by omega) S2 (J1.go hk F2.1) k1
                have G2 : cj_G k m m2 := cj_G.tr G1 F2.j
                cases e3 : pj_rd t n N a.1 p2 with
                | inl f =>
                  obtain ⟨x1, x2⟩ := pz_on_l fin e3
                  exact ⟨x1, cj_E.go G2 x2⟩
                | inr K =>
                  obtain ⟨x1, x2, x3⟩ := pz_on_r fin e3
                  exact ⟨x1, cj_G.tr G2 x2, x3⟩
              · exact absurd z1 (by omega)
      · have c2 : pz_k t n 300 p = 0 := by omega
        rw [if_pos c2]
        rcases h1 with ⟨c3, ev1, em1⟩ | ⟨c3, v2, m2, h2, h⟩
        · rw [S.1.2.1, S.1.2.2.1] at c3
          rw [if_pos c3, em, em1]
          exact ⟨ev.trans ev1, cj_G.rf, hJ⟩
        · rw [S.1.2.1, S.1.2.2.1] at c3
          rw [if_neg c3]
          rw [T.2.1] at h2
          obtain ⟨y1, y2⟩ := cz_mark h2
          rcases h with ⟨c4, ev1, em1⟩ | ⟨c4, -⟩
          · rw [em, em1]; exact ⟨ev.trans ev1, y2.j⟩
          · exact absurd y1 c4
/-- the JOB's text, read into the JOB at k -/
theorem cj_text {k : Nat} (hk : 3 ≤ k) {m : dc_M} {v : Int} {m' : dc_M} (h : D_35 k m v m') (hn : 0 ≤ m 1 1 ∧ m 1 1 ≤ 740) : pz_on (pj_all (m 2) (m 1 1)) (fun f => v = 0 ∧ m' 1 8 = f.1 ∧ m' 1 9 = f.2) (fun K => v = 1 ∧ m' 1 8 = 0 ∧ m' 1 9 = 0 ∧ cj_J m' k K ∧ pj_ok K) ∧ (∀ j i, j ≠ 1 → ¬ (k ≤ j ∧ j ≤ k + 8) → m' j i = m j i) ∧ m' 1 1 = m 1 1 := by
  obtain ⟨b1, y1, b2, y2, b3, y3, v1, m1, ⟨a1, x1, a2, x2, a3, x3, a4, x4, v2, m2, hd, -, em⟩, c, h⟩ := h
  subst em
  have f3 : ∀ j i, ¬ (k ≤ j ∧ j ≤ k + 8) → b3 j i = m j i := fun j i hj => by
    rw [y3]
    show (if j = k + 4 ∧ 0 ≤ i ∧ i < 4 then 0 else b2 j i) = _
    rw [if_neg (by omega), y2, dc_up_k (by omega), y1, dc_up_k (by omega)]
  have fa : ∀ j i, j ≠ 1 → a4 j i = b3 j i := fun j i hj => by rw [x4, dc_up_k hj, x3, dc_up_k hj, x2, dc_up_k hj, x1, dc_up_k hj]
  have g1 : a4 1 1 = m 1 1 := by rw [x4, dc_up_i (by decide), x3, dc_up_i (by decide), x2, dc_up_i (by decide), x1, dc_up_i (by decide), f3 1 1 (by omega)]
  have g2 : a4 1 2 = 300 := by rw [x4, dc_up_i (by decide), x3, dc_up_i (by decide), x2, dc_up_i (by decide), x1, dc_up_s]
  have g3 : a4 1 3 = 0 := by rw [x4, dc_up_i (by decide), x3, dc_up_i (by decide), x2, dc_up_s]
  have g8 : a4 1 8 = 0 := by rw [x4, dc_up_i (by decide), x3, dc_up_s]
  have g9 : a4 1 9 = 0 := by rw [x4, dc_up_s]
  have gt : a4 2 = m 2 := funext fun i => by rw [fa 2 i (by decide), f3 2 i (by omega)]
  obtain ⟨q1, q2⟩ := cz_adv (t := m 2) (n := m 1 1) (lim := 300) hd ⟨gt, g1, g2, hn⟩ (by rw [g3]; omega) (by rw [g3]; omega)
  rw [g3] at q2
  have S : cz_S m1 (m 2) (m 1 1) 300 0 := ⟨cz_B.go ⟨gt, g1, g2, hn⟩ q1, q2, by omega, by omega⟩
  have k3 : m1 k 3 = 0 := by
    rw [q1.1 k 3 (by omega), fa k 3 (by omega), y3]
    show (if k = k + 4 ∧ (0 : Int) ≤ 3 ∧ (3 : Int) < 4 then 0 else b2 k 3) = 0
    rw [if_neg (by omega), y2, dc_up_i (by decide), y1, dc_up_s]
  have k9 : m1 k 9 = 0 := by
    rw [q1.1 k 9 (by omega), fa k 9 (by omega), y3]
    show (if k = k + 4 ∧ (0 : Int) ≤ 9 ∧ (9 : Int) < 4 then 0 else b2 k 9) = 0
    rw [if_neg (by omega), y2, dc_up_s]
  have kb : cj_B m1 k (fun _ => 0) := fun o o1 o3 => by
    rw [q1.1 (k + 4) o (by omega), fa (k + 4) o (by omega), y3]
    show (if k + 4 = k + 4 ∧ 0 ≤ o ∧ o < 4 then (0 : Int) else b2 (k + 4) o) = 0
    rw [if_pos ⟨rfl, by omega, by omega⟩]
  have J0 : cj_J m1 k ([], (fun _ => 0), []) := ⟨⟨k3, fun i hi => by cases hi⟩, kb, k9, fun i hi => by cases hi⟩
  have r := cj_rd hk c 0 m1 v m' _ 0 301 h rfl (by decide) (by decide) S J0 pj_ok_0
  have rb := pj_rd_b (t := m 2) hn.1 301 _ 0 pj_ok_0 (by decide) hn.1
  have fr1 : ∀ j i, j ≠ 1 → ¬ (k ≤ j ∧ j ≤ k + 8) → m1 j i = m j i := fun j i h1 h2 => by rw [q1.1 j i h1, fa j i h1, f3 j i h2]
  have n1 : m1 1 1 = m 1 1 := q1.2.1.trans g1
  unfold pj_all
  cases e2 : pj_rd (m 2) (m 1 1) 301 ([], (fun _ => 0), []) 0 with
  | inl f =>
    obtain ⟨r1, r2, r3, r4, r5⟩ := pz_on_l r e2
    exact ⟨⟨r1, r4, r5⟩, fun j i h1 h2 => (r2 j i h1 h2).trans (fr1 j i h1 h2), r3.trans n1⟩
  | inr K =>
    obtain ⟨r1, ⟨r2, r3, r4, r5, r6⟩, r7⟩ := pz_on_r r e2
    exact ⟨⟨r1, r5.trans (q1.2.2.2.1.trans g8), r6.trans (q1.2.2.2.2.trans g9), r7, pz_on_r rb e2⟩, fun j i h1 h2 => (r2 j i h1 h2).trans (fr1 j i h1 h2), r3.trans n1⟩
