/-! THE JOB'S TEXT: the reference's loop and its job() -/
theorem pj_l8 {n : Nat} (h : n ≤ 8) (c : ¬ (n : Int) = 8) : n < 8 := by omega
theorem pj_l6 {n : Nat} (h : n ≤ 6) (c : (n : Int) ≠ 6) : n < 6 := by omega
theorem pj_n6 {x : Int} (c : ¬ x ≠ 6) : ¬ x < 6 := by omega
theorem rj_rd {t : Int → Int} {n : Int} : ∀ (c : Nat) (l : Nat) (m : dc_M) (v : Int) (m' : dc_M) (J : pj_J) (p : Int) (N : Nat), LM_252 c 0 m v m' → N + l = 301 → l ≤ 300 → (l : Int) ≤ p → rz_S m t n 300 p → rj_J m J → pj_ok J → pz_on (pj_rd t n N J p) (fun f => v = 0 ∧ rj_E m m' f) (fun K => v = 1 ∧ rj_G m m' ∧ rj_J m' K) := by
  intro c
  induction c with
  | zero => intro l m v m' J p N h; exact h.elim
  | succ c ih =>
    intro l m v m' J p N h hN hl hlp S hJ ok
    obtain ⟨N, rfl⟩ : ∃ M, N = M + 1 := ⟨N - 1, by omega⟩
    obtain ⟨w1, w2, w3, w4, w5, w6, w7, w8, w9, w10⟩ := pj_w_ne
    have yes : ∀ {s0 : Nat} {x : Int}, ¬ x = 0 → ((x = 1 ∧ pj_is t n p s0) ∨ (x = 0 ∧ ¬ pj_is t n p s0)) → pj_is t n p s0 := fun a b => by
      rcases b with ⟨-, y⟩ | ⟨y, -⟩
      · exact y
      · exact absurd y a
    have no : ∀ {s0 : Nat} {x : Int}, ¬ x ≠ 0 → ((x = 1 ∧ pj_is t n p s0) ∨ (x = 0 ∧ ¬ pj_is t n p s0)) → ¬ pj_is t n p s0 := fun a b => by
      rcases b with ⟨y, -⟩ | ⟨-, y⟩
      · exact absurd (show (_ : Int) ≠ 0 by rw [y]; decide) a
      · exact y
    have T7 := S.2.1.1
    unfold pj_rd
    replace h := lm_252_0.mp h
    by_cases k0 : pz_k t n 300 p = 0
    · rw [if_pos k0]
      by_cases hn3 : n ≤ 300
      · rw [if_pos hn3]
        rw [if_neg (fun z => by omega), k0] at T7
        rcases h with ⟨c1, ev, em⟩ | ⟨c1, -⟩
        · rw [em]; exact ⟨ev, rj_G.rf, hJ⟩
        · exact absurd T7 c1
      · rw [if_neg hn3]
        rw [if_pos ⟨k0, by omega⟩] at T7
        have nis : ∀ s0, ¬ pj_is t n p s0 := fun s0 z => by have := z.1; omega
        rcases h with ⟨c1, -⟩ | ⟨-, v1, m1, h1, h⟩
        · exfalso; omega
        · obtain ⟨em1, q1⟩ := rj_isw (s0 := 264) h1 (by decide) pj_K264 S
          subst em1
          rcases h with ⟨c2, -⟩ | ⟨-, v2, m2, h2, h⟩
          · exact absurd (yes c2 q1) (nis _)
          · obtain ⟨em2, q2⟩ := rj_isw (s0 := 261) h2 (by decide) pj_K261 S
            subst em2
            rcases h with ⟨-, v3, m3, h3, h⟩ | ⟨c3, -⟩
            · obtain ⟨em3, q3⟩ := rj_isw (s0 := 262) h3 (by decide) pj_K262 S
              subst em3
              rcases h with ⟨c4, -⟩ | ⟨-, v4, m4, h4, h⟩
              · exact absurd (yes c4 q3) (nis _)
              · obtain ⟨em4, q4⟩ := rj_isw (s0 := 260) h4 (by decide) pj_K260 S
                subst em4
                rcases h with ⟨c5, -⟩ | ⟨-, v5, m5, h5, ev, em⟩
                · exact absurd (yes c5 q4) (nis _)
                · rw [S.2.1.2.1] at h5
                  obtain ⟨y1, y2⟩ := rj_bad h5
                  rw [em]; exact ⟨ev.trans y1, y2⟩
            · exact absurd (yes c3 q2) (nis _)
    · rw [if_neg k0]
      have bl := pj_line_b (t := t) S.2.2.1 S.2.2.2 ok
      have after : ∀ {m0 m1 : dc_M} {v1 : Int}, pz_on (pj_line t n J p) (fun f => v1 = 0 ∧ rj_E m0 m1 f) (rj_Q m0 v1 m1 t n) → ((v1 = 0 ∧ (v = 0 ∧ m' = m1)) ∨ (¬ v1 = 0 ∧ (∃ v2 m2, D_200 59 m1 v2 m2 ∧ ((v2 ≠ 0 ∧ LM_252 c 0 m2 v m') ∨ (¬ v2 ≠ 0 ∧ (v = 0 ∧ m' = m2)))))) → pz_on (pz_bd (pj_line t n J p) fun a => pz_bd (pz_sgn t n 300 a.2 59) fun q => pj_rd t n N a.1 q) (fun f => v = 0 ∧ rj_E m0 m' f) (fun K => v = 1 ∧ rj_G m0 m' ∧ rj_J m' K) := by
        intro m0 m1 v1 q h
        refine pz_on_bd (fun f e => ?_) (fun a e => ?_)
        · obtain ⟨y1, y2⟩ := pz_on_l q e
          rcases h with ⟨c3, ev, em⟩ | ⟨c3, -⟩
          · rw [em]; exact ⟨ev, y2⟩
          · exact absurd y1 c3
        · obtain ⟨y1, G1, S1, J1⟩ := pz_on_r q e
          obtain ⟨k1, b1, b2⟩ := pz_on_r bl e
          rcases h with ⟨c3, -⟩ | ⟨c3, v2, m2, h2, h⟩
          · exfalso; omega
          · have r := rj_sgn h2 S1
            refine pz_on_bd (fun f e => ?_) (fun p2 e => ?_)
            · obtain ⟨z1, z2⟩ := pz_on_l r e
              rcases h with ⟨c4, -⟩ | ⟨c4, ev, em⟩
              · exact absurd z1 c4
              · rw [em]; exact ⟨ev, rj_E.go G1.1 z2⟩
            · obtain ⟨z1, G2, f2, S2⟩ := pz_on_r r e
              have s1 := pz_nx_s (t := t) (lim := 300) k0 S.2.2.2
              have s2 := pz_sgn_s e
              have s3 := pz_nx_s (t := t) (lim := 300) (p := a.2) (by omega) b2
              rcases h with ⟨c4, h⟩ | ⟨c4, -⟩
              · have fin := ih (l + 1) m2 v m' a.1 p2 N h (by omega) (by omega) (by omega) S2 (J1.go f2) k1
                have GG : rj_G m0 m2 := G1.tr G2
                cases e3 : pj_rd t n N a.1 p2 with
                | inl f =>
                  obtain ⟨x1, x2⟩ := pz_on_l fin e3
                  exact ⟨x1, rj_E.go GG.1 x2⟩
                | inr K =>
                  obtain ⟨x1, x2, x3⟩ := pz_on_r fin e3
                  exact ⟨x1, GG.tr x2, x3⟩
              · exact absurd z1 (by omega)
      have badl : ∀ {m0 : dc_M} {f : Int × Int} {v1 : Int} {m1 : dc_M}, pj_line t n J p = .inl f → (v1 = 0 ∧ rj_E m0 m1 f) → v = v1 → m' = m1 → pz_on (pz_bd (pj_line t n J p) fun a => pz_bd (pz_sgn t n 300 a.2 59) fun q => pj_rd t n N a.1 q) (fun f => v = 0 ∧ rj_E m0 m' f) (fun K => v = 1 ∧ rj_G m0 m' ∧ rj_J m' K) := by
        intro m0 f v1 m1 e y ev em
        rw [e, em]; exact ⟨ev.trans y.1, y.2⟩
      rw [if_neg (fun z => k0 z.1)] at T7
      rcases h with ⟨c1, -⟩ | ⟨-, v1, m1, h1, h⟩
      · exact absurd (T7.symm.trans c1) k0
      · obtain ⟨em1, q1⟩ := rj_isw (s0 := 264) h1 (by decide) pj_K264 S
        subst em1
        rcases h with ⟨c2, -, h⟩ | ⟨c2, v2, m2, h2, h⟩
        · have is := yes c2 q1
          have n262 : ¬ pj_is t n p 262 := fun z => w9 (z.2.symm.trans is.2)
          have n260 : ¬ pj_is t n p 260 := fun z => w4 (z.2.symm.trans is.2)
          have el : pj_line t n J p = pj_sum t n J p := by unfold pj_line; rw [if_neg n262, if_neg n260, if_pos is]
          rw [hJ.2.2.1] at h
          rcases h with ⟨c3, v3, m3, h3, ev, em⟩ | ⟨c3, v3, m3, h3, h⟩
          · rw [S.2.1.2.1] at h3
            exact badl (by rw [el]; unfold pj_sum; rw [if_neg (by rw [c3]; decide)]) (rj_bad h3) ev em
          · obtain ⟨em3, q3⟩ := rj_isw (s0 := 262) h3 (by decide) pj_K262 S
            subst em3
            rcases h with ⟨c4, v4, m4, h4, h⟩ | ⟨c4, -⟩
            · exact after (by rw [el]; exact (rj_want h4 S hJ ok (pj_l8 ok.2.2.2.1 c3)).1 is) h
            · exact absurd (yes c4 q3) n262
        · have n264 := no c2 q1
          obtain ⟨em2, q2⟩ := rj_isw (s0 := 261) h2 (by decide) pj_K261 S
          subst em2
          rcases h with ⟨c3, v3, m3, h3, h⟩ | ⟨c3, -, h⟩
          · have n261 := no (fun z => z c3) q2
            obtain ⟨em3, q3⟩ := rj_isw (s0 := 262) h3 (by decide) pj_K262 S
            subst em3
            rcases h with ⟨c4, v4, m4, h4, h⟩ | ⟨c4, v4, m4, h4, h⟩
            · have is := yes c4 q3
              have el : pj_line t n J p = pj_field t n J p := by unfold pj_line; rw [if_pos is]
              obtain ⟨em4, q4⟩ := rj_isw (s0 := 262) h4 (by decide) pj_K262 S
              subst em4
              rcases h with ⟨c5, -⟩ | ⟨c5, -, h⟩
              · exact absurd is (no (fun z => z c5) q4)
              · rw [hJ.1.1] at h
                rcases h with ⟨c6, v6, m6, h6, h⟩ | ⟨c6, v6, m6, h6, ev, em⟩
                · obtain ⟨em6, q6⟩ := rj_isw (s0 := 262) h6 (by decide) pj_K262 S
                  subst em6
                  rcases h with ⟨c7, -⟩ | ⟨c7, v7, m7, h7, h⟩
                  · exact absurd is (no (fun z => z c7) q6)
                  · exact after (by rw [el]; exact rj_field h7 S hJ ok (pj_l6 ok.1 c6)) h
                · rw [S.2.1.2.1] at h6
                  exact badl (by rw [el]; unfold pj_field; rw [if_neg (pj_n6 c6)]) (rj_bad h6) ev em
            · have n262 := no c4 q3
              obtain ⟨em4, q4⟩ := rj_isw (s0 := 260) h4 (by decide) pj_K260 S
              subst em4
              rcases h with ⟨c5, v5, m5, h5, h⟩ | ⟨c5, v5, m5, h5, ev, em⟩
              · have is := yes c5 q4
                have el : pj_line t n J p = pj_break t n J p := by unfold pj_line; rw [if_neg n262, if_pos is]
                obtain ⟨em5, q5⟩ := rj_isw (s0 := 262) h5 (by decide) pj_K262 S
                subst em5
                rcases h with ⟨c6, v6, m6, h6, h⟩ | ⟨c6, -⟩
                · obtain ⟨em6, q6⟩ := rj_isw (s0 := 262) h6 (by decide) pj_K262 S
                  subst em6
                  rcases h with ⟨c7, v7, m7, h7, h⟩ | ⟨c7, -⟩
                  · exact after (by rw [el]; exact rj_break h7 S hJ ok) h
                  · exact absurd (yes c7 q6) n262
                · exact absurd (yes c6 q5) n262
              · have n260 := no c5 q4
                rw [S.2.1.2.1] at h5
                exact badl (by unfold pj_line; rw [if_neg n262, if_neg n260, if_neg n264, if_neg n261]) (rj_bad h5) ev em
          · have is := yes c3 q2
            have n262 : ¬ pj_is t n p 262 := fun z => w5 (is.2.symm.trans z.2)
            have n260 : ¬ pj_is t n p 260 := fun z => w1 (z.2.symm.trans is.2)
            have el : pj_line t n J p = pj_count t n J p := by unfold pj_line; rw [if_neg n262, if_neg n260, if_neg n264, if_pos is]
            rw [hJ.2.2.1] at h
            rcases h with ⟨c4, v4, m4, h4, ev, em⟩ | ⟨c4, v4, m4, h4, h⟩
            · rw [S.2.1.2.1] at h4
              exact badl (by rw [el]; unfold pj_count; rw [if_neg (by rw [c4]; decide)]) (rj_bad h4) ev em
            · obtain ⟨em4, q4⟩ := rj_isw (s0 := 262) h4 (by decide) pj_K262 S
              subst em4
              rcases h with ⟨c5, v5, m5, h5, h⟩ | ⟨c5, -⟩
              · exact after (by rw [el]; exact (rj_want h5 S hJ ok (pj_l8 ok.2.2.2.1 c4)).2 n264) h
              · exact absurd (yes c5 q4) n262
/-! the JOB that stands -/
def r0_J (m : dc_M) (J : pj_J) : Prop := (∀ i : Nat, i < J.1.length → m 152 (i : Nat) = (J.1.getD i ([], 0, 0)).2.1 ∧ m 153 (i : Nat) = (J.1.getD i ([], 0, 0)).2.2) ∧ (∀ o : Int, 1 ≤ o → o ≤ 3 → m 154 (o - 1) = J.2.1 o) ∧ m 155 0 = (J.2.2.length : Int) ∧ ∀ i : Nat, i < J.2.2.length → m 156 (i : Nat) = (J.2.2.getD i (0, 0, 0, 0)).1 ∧ m 157 (i : Nat) = (J.2.2.getD i (0, 0, 0, 0)).2.1 ∧ m 158 (i : Nat) = (J.2.2.getD i (0, 0, 0, 0)).2.2.1 ∧ m 159 (i : Nat) = (J.2.2.getD i (0, 0, 0, 0)).2.2.2
/-- all but the reader's fields and the JOBS -/
def rj_o (m m' : dc_M) : Prop := ∀ (k : Nat) (i : Int), ¬ (k = 114 ∧ i ∈ ([0, 2, 3, 4, 7, 8, 9, 10, 11, 12, 13, 14] : List Int)) → ¬ (151 ≤ k ∧ k ≤ 160) → m' k i = m k i
theorem rj_o.rf {m : dc_M} : rj_o m m := fun _ _ _ _ => rfl
theorem rj_o.tr {a b c : dc_M} (h : rj_o a b) (g : rj_o b c) : rj_o a c := fun k i y z => (g k i y z).trans (h k i y z)
theorem rj_o.up {a m m1 : dc_M} {k : Nat} {i v : Int} (h : rj_o a m) (e : m1 = dc_up m k i v) (hx : (k = 114 ∧ i ∈ ([0, 2, 3, 4, 7, 8, 9, 10, 11, 12, 13, 14] : List Int)) ∨ (151 ≤ k ∧ k ≤ 160)) : rj_o a m1 := fun k' i' y z => by
  rw [e]
  refine (if_neg (fun q => ?_)).trans (h k' i' y z)
  rw [q.1] at y z
  rw [q.2] at y
  rcases hx with hx | hx
  · exact y hx
  · exact z hx
theorem rj_fr.o {m m' : dc_M} (h : rj_fr m m') : rj_o m m' := fun k i y z => h k i (fun q => by
  rcases q with q | q | q | q | q | q
  · refine y ⟨q.1, ?_⟩
    have := q.2
    revert this
    simp only [List.mem_cons, List.not_mem_nil, or_false]
    omega
  · exact z (by omega)
  · exact z (by omega)
  · exact z (by omega)
  · exact z (by omega)
  · exact z (by omega))
/-- copying the wants -/
theorem rj_c3 : ∀ (c : Nat) (l : Nat) (m : dc_M) (v : Int) (m' : dc_M), LM_256 c 172 (l : Nat) m v m' → l ≤ 8 → v = m 155 0 ∧ (∀ k i, k ≠ 156 → k ≠ 157 → k ≠ 158 → k ≠ 159 → m' k i = m k i) ∧ (∀ (k : Nat) (i : Int), (k = 156 ∨ k = 157 ∨ k = 158 ∨ k = 159) → (l : Int) ≤ i → i < 8 → m' k i = m k (8 + i)) ∧ (∀ (k : Nat) (i : Int), i < (l : Int) → m' k i = m k i) := by
  intro c
  induction c with
  | zero => intro l m v m' h; exact h.elim
  | succ c ih =>
    intro l m v m' h hl
    replace h := lm_256_172.mp h
    rcases h with ⟨c1, -, ev, em⟩ | ⟨c1, -, -, m1, e1, -, -, m2, e2, -, -, m3, e3, -, -, m4, e4, h⟩
    · rw [em]
      exact ⟨ev, fun _ _ _ _ _ _ => rfl, fun k i _ y z => by omega, fun _ _ _ => rfl⟩
    · have w8 : dc_w (8 + (l : Int)) = 8 + (l : Int) := dc_w_eq (by unfold sv_I; omega)
      rw [w8] at e1 e2 e3 e4
      rw [dc_w_eq (z := ((l : Nat) : Int) + 1) (by unfold sv_I; omega), show ((l : Nat) : Int) + 1 = ((l + 1 : Nat) : Int) from rfl] at h
      obtain ⟨q1, q2, q3, q4⟩ := ih (l + 1) m4 v m' h (by omega)
      have f4 : ∀ k i, k ≠ 156 → k ≠ 157 → k ≠ 158 → k ≠ 159 → m4 k i = m k i := fun k i h1 h2 h3 h4 => by rw [e4, dc_up_k h4, e3, dc_up_k h3, e2, dc_up_k h2, e1, dc_up_k h1]
      have g4 : ∀ (k : Nat) (i : Int), i ≠ (l : Int) → m4 k i = m k i := fun k i hi => by rw [e4, dc_up_i hi, e3, dc_up_i hi, e2, dc_up_i hi, e1, dc_up_i hi]
      refine ⟨q1.trans (f4 155 0 (by decide) (by decide) (by decide) (by decide)), fun k i h1 h2 h3 h4 => (q2 k i h1 h2 h3 h4).trans (f4 k i h1 h2 h3 h4), fun k i hk y z => ?_, fun k i hi => (q4 k i (by omega)).trans (g4 k i (by omega))⟩
      by_cases ei : i = (l : Int)
      · rw [q4 k i (by omega), ei]
        rcases hk with e | e | e | e <;> subst e
        · rw [e4, dc_up_k (by decide), e3, dc_up_k (by decide), e2, dc_up_k (by decide), e1, dc_up_s]
        · rw [e4, dc_up_k (by decide), e3, dc_up_k (by decide), e2, dc_up_s, e1, dc_up_i (by omega)]
        · rw [e4, dc_up_k (by decide), e3, dc_up_s, e2, dc_up_i (by omega), e1, dc_up_i (by omega)]
        · rw [e4, dc_up_s, e3, dc_up_i (by omega), e2, dc_up_i (by omega), e1, dc_up_i (by omega)]
      · rw [q3 k i hk (by omega) z, g4 k (8 + i) (by omega)]
theorem rj_c2 : ∀ (c : Nat) (l : Nat) (m : dc_M) (v : Int) (m' : dc_M), LM_256 c 128 (l : Nat) m v m' → l ≤ 6 → v = m 155 0 ∧ (∀ k i, k ≠ 152 → k ≠ 153 → k ≠ 156 → k ≠ 157 → k ≠ 158 → k ≠ 159 → m' k i = m k i) ∧ (∀ (k : Nat) (i : Int), (k = 152 ∨ k = 153) → (l : Int) ≤ i → i < 6 → m' k i = m k (6 + i)) ∧ (∀ (k : Nat) (i : Int), (k = 152 ∨ k = 153) → i < (l : Int) → m' k i = m k i) ∧ (∀ (k : Nat) (i : Int), (k = 156 ∨ k = 157 ∨ k = 158 ∨ k = 159) → 0 ≤ i → i < 8 → m' k i = m k (8 + i)) := by
  intro c
  induction c with
  | zero => intro l m v m' h; exact h.elim
  | succ c ih =>
    intro l m v m' h hl
    replace h := lm_256_128.mp h
    rcases h with ⟨c1, h⟩ | ⟨c1, -, -, m1, e1, -, -, m2, e2, h⟩
    · obtain ⟨q1, q2, q3, q4⟩ := rj_c3 c 0 m v m' h (by decide)
      exact ⟨q1, fun k i _ _ h1 h2 h3 h4 => q2 k i h1 h2 h3 h4, fun k i _ y z => by omega, fun k i hk _ => q2 k i (by omega) (by omega) (by omega) (by omega), fun k i hk y z => q3 k i hk (by omega) z⟩
    · have w8 : dc_w (6 + (l : Int)) = 6 + (l : Int) := dc_w_eq (by unfold sv_I; omega)
      rw [w8] at e1 e2
      rw [dc_w_eq (z := ((l : Nat) : Int) + 1) (by unfold sv_I; omega), show ((l : Nat) : Int) + 1 = ((l + 1 : Nat) : Int) from rfl] at h
      obtain ⟨q1, q2, q3, q4, q5⟩ := ih (l + 1) m2 v m' h (by omega)
      have f4 : ∀ k i, k ≠ 152 → k ≠ 153 → m2 k i = m k i := fun k i h1 h2 => by rw [e2, dc_up_k h2, e1, dc_up_k h1]
      have g4 : ∀ (k : Nat) (i : Int), i ≠ (l : Int) → m2 k i = m k i := fun k i hi => by rw [e2, dc_up_i hi, e1, dc_up_i hi]
      refine ⟨q1.trans (f4 155 0 (by decide) (by decide)), fun k i h1 h2 h3 h4 h5 h6 => (q2 k i h1 h2 h3 h4 h5 h6).trans (f4 k i h1 h2), fun k i hk y z => ?_, fun k i hk hi => (q4 k i hk (by omega)).trans (g4 k i (by omega)), fun k i hk y z => (q5 k i hk y z).trans (f4 k _ (by omega) (by omega))⟩
      by_cases ei : i = (l : Int)
      · rw [q4 k i hk (by omega), ei]
        rcases hk with e | e <;> subst e
        · rw [e2, dc_up_k (by decide), e1, dc_up_s]
        · rw [e2, dc_up_s, e1, dc_up_i (by omega)]
      · rw [q3 k i hk (by omega) z, g4 k (6 + i) (by omega)]
theorem rj_c1 : ∀ (c : Nat) (l : Nat) (m : dc_M) (v : Int) (m' : dc_M), LM_256 c 101 (l : Nat) m v m' → l ≤ 3 → v = m 155 0 ∧ (∀ k i, k ≠ 152 → k ≠ 153 → k ≠ 154 → k ≠ 156 → k ≠ 157 → k ≠ 158 → k ≠ 159 → m' k i = m k i) ∧ (∀ (i : Int), (l : Int) ≤ i → i < 3 → m' 154 i = m 154 (3 + i)) ∧ (∀ (i : Int), i < (l : Int) → m' 154 i = m 154 i) ∧ (∀ (k : Nat) (i : Int), (k = 152 ∨ k = 153) → 0 ≤ i → i < 6 → m' k i = m k (6 + i)) ∧ (∀ (k : Nat) (i : Int), (k = 156 ∨ k = 157 ∨ k = 158 ∨ k = 159) → 0 ≤ i → i < 8 → m' k i = m k (8 + i)) := by
  intro c
  induction c with
  | zero => intro l m v m' h; exact h.elim
  | succ c ih =>
    intro l m v m' h hl
    replace h := lm_256_101.mp h
    rcases h with ⟨c1, h⟩ | ⟨c1, -, -, m1, e1, h⟩
    · obtain ⟨q1, q2, q3, q4, q5⟩ := rj_c2 c 0 m v m' h (by decide)
      exact ⟨q1, fun k i h1 h2 _ h3 h4 h5 h6 => q2 k i h1 h2 h3 h4 h5 h6, fun i y z => by omega, fun i _ => q2 154 i (by decide) (by decide) (by decide) (by decide) (by decide) (by decide), fun k i hk y z => q3 k i hk (by omega) z, q5⟩
    · have w8 : dc_w (3 + (l : Int)) = 3 + (l : Int) := dc_w_eq (by unfold sv_I; omega)
      rw [w8] at e1
      rw [dc_w_eq (z := ((l : Nat) : Int) + 1) (by unfold sv_I; omega), show ((l : Nat) : Int) + 1 = ((l + 1 : Nat) : Int) from rfl] at h
      obtain ⟨q1, q2, q3, q4, q5, q6⟩ := ih (l + 1) m1 v m' h (by omega)
      have f4 : ∀ (k : Nat) (i : Int), k ≠ 154 → m1 k i = m k i := fun k i h1 => by rw [e1, dc_up_k h1]
      have g4 : ∀ (i : Int), i ≠ (l : Int) → m1 154 i = m 154 i := fun i hi => by rw [e1, dc_up_i hi]
      refine ⟨q1.trans (f4 155 0 (by decide)), fun k i h1 h2 h3 h4 h5 h6 h7 => (q2 k i h1 h2 h3 h4 h5 h6 h7).trans (f4 k i h3), fun i y z => ?_, fun i hi => (q4 i (by omega)).trans (g4 i (by omega)), fun k i hk y z => (q5 k i hk y z).trans (f4 k _ (by omega)), fun k i hk y z => (q6 k i hk y z).trans (f4 k _ (by omega))⟩
      by_cases ei : i = (l : Int)
      · rw [q4 i (by omega), ei, e1, dc_up_s]
      · rw [q3 i (by omega) z, g4 (3 + i) (by omega)]
/-- what job() leaves -/
def rj_R (m : dc_M) (v : Int) (m' : dc_M) (r : pz_E pj_J) : Prop := v = pj_ans r ∧ m' 114 10 = pz_flt r ∧ rj_o m m' ∧ match r with
  | .inl _ => ∀ J, r0_J m J → J.1.length ≤ 6 → J.2.2.length ≤ 8 → r0_J m' J
  | .inr K => r0_J m' K
theorem rj_c0 {t : Int → Int} {n : Int} (hn : 0 ≤ n) : ∀ (c : Nat) (l : Nat) (m : dc_M) (v : Int) (m' : dc_M), LM_256 c 37 (l : Nat) m v m' → l ≤ 3 → rz_B m t n 300 → m 114 4 = 0 → m 114 10 = 0 → m 151 1 = 0 → m 155 1 = 0 → (∀ i : Int, 3 ≤ i → i < 3 + (l : Int) → m 154 i = 0) → rj_R m v m' (pj_all t n) := by
  intro c
  induction c with
  | zero => intro l m v m' h; exact h.elim
  | succ c ih =>
    intro l m v m' h hl B h4 h10 hF hW hz
    replace h := lm_256_37.mp h
    rcases h with ⟨c1, v1, m1, ⟨cn, h1⟩, v2, m2, ⟨c2, h2⟩, h⟩ | ⟨c1, -, m1, e1, h⟩
    · obtain ⟨F1, T1⟩ := rz_nextl cn 0 0 m v1 m1 h1 B (by omega) (by omega)
      rw [h4] at T1
      have S1 : rz_S m1 t n 300 0 := ⟨B.go F1 (by decide) (by decide), T1, by omega, by omega⟩
      have J1 : rj_J m1 ([], (fun _ => 0), []) := ⟨⟨by rw [F1 151 1 (Or.inl (by decide)), hF]; rfl, fun i hi => by cases hi⟩, fun o o1 o3 => by rw [F1 154 _ (Or.inl (by decide))]; exact hz _ (by omega) (by omega), by rw [F1 155 1 (Or.inl (by decide)), hW]; rfl, fun i hi => by cases hi⟩
      have q := rj_rd c2 0 m1 v2 m2 _ 0 301 h2 rfl (by decide) (by decide) S1 J1 pj_ok_0
      have qb := pj_rd_b (t := t) hn 301 _ 0 pj_ok_0 (by decide) hn
      have o1 : rj_o m m1 := (F1.j (by decide)).o
      unfold pj_all
      cases e : pj_rd t n 301 ([], (fun _ => 0), []) 0 with
      | inl f =>
        obtain ⟨y1, ⟨y2, y3⟩, y4⟩ := pz_on_l q e
        have fb : pz_fb n f := pz_on_l qb e
        unfold pz_fb at fb
        have b7 := B.2.2.2.2
        rcases h with ⟨d1, -⟩ | ⟨d1, ev, em⟩
        · exact absurd y1 d1
        · rw [em]
          refine ⟨?_, y2, o1.tr y4.o, fun J hJ l6 l8 => ?_⟩
          · rw [ev, y3, dc_w_eq (by unfold sv_I; omega)]; rfl
          · have fr : rj_fr m m2 := (F1.j (by decide)).tr y4
            have g : ∀ (k : Nat) (i : Int), ¬ rj_x k i → m2 k i = m k i := fr
            obtain ⟨a1, a2, a3, a4⟩ := hJ
            refine ⟨fun i hi => ?_, fun o p1 p3 => ?_, ?_, fun i hi => ?_⟩
            · rw [g 152 _ (by unfold rj_x; omega), g 153 _ (by unfold rj_x; omega)]; exact a1 i hi
            · rw [g 154 _ (by unfold rj_x; omega)]; exact a2 o p1 p3
            · rw [g 155 0 (by unfold rj_x; omega)]; exact a3
            · rw [g 156 _ (by unfold rj_x; omega), g 157 _ (by unfold rj_x; omega), g 158 _ (by unfold rj_x; omega), g 159 _ (by unfold rj_x; omega)]; exact a4 i hi
      | inr K =>
        obtain ⟨y1, G2, J2⟩ := pz_on_r q e
        have ok : pj_ok K := pz_on_r qb e
        have l6 := ok.1
        have l8 := ok.2.2.2.1
        rcases h with ⟨d1, -, -, m3, e3, -, -, m4, e4, h⟩ | ⟨d1, -⟩
        · obtain ⟨q1, q2, q3, q4, q5, q6⟩ := rj_c1 c 0 m4 v m' h (by decide)
          have o4 : rj_o m m4 := ((o1.tr G2.1.o).up e3 (Or.inr (by decide))).up e4 (Or.inr (by decide))
          have f4 : ∀ (k : Nat) (i : Int), k ≠ 151 → k ≠ 155 → m4 k i = m2 k i := fun k i p1 p2 => by rw [e4, dc_up_k p2, e3, dc_up_k p1]
          refine ⟨?_, ?_, fun k i y z => (q2 k i (by omega) (by omega) (by omega) (by omega) (by omega) (by omega) (by omega)).trans (o4 k i y z), fun i hi => ?_, fun o p1 p3 => ?_, ?_, fun i hi => ?_⟩
          · rw [q1, e4, dc_up_s, e3, dc_up_k (by decide), J2.2.2.1]; rfl
          · rw [q2 114 10 (by decide) (by decide) (by decide) (by decide) (by decide) (by decide) (by decide), f4 114 10 (by decide) (by decide), G2.2, F1.fi (by decide), h10]; rfl
          · rw [q5 152 _ (Or.inl rfl) (by omega) (by omega), q5 153 _ (Or.inr rfl) (by omega) (by omega), f4 152 _ (by decide) (by decide), f4 153 _ (by decide) (by decide)]
            exact (J2.1.2 i hi).2
          · rw [q3 (o - 1) (by omega) (by omega), f4 154 _ (by decide) (by decide), show 3 + (o - 1) = 2 + o by omega]
            exact J2.2.1 o p1 p3
          · rw [q2 155 0 (by decide) (by decide) (by decide) (by decide) (by decide) (by decide) (by decide), e4, dc_up_s, e3, dc_up_k (by decide)]
            exact J2.2.2.1
          · rw [q6 156 _ (by decide) (by omega) (by omega), q6 157 _ (by decide) (by omega) (by omega), q6 158 _ (by decide) (by omega) (by omega), q6 159 _ (by decide) (by omega) (by omega), f4 156 _ (by decide) (by decide), f4 157 _ (by decide) (by decide), f4 158 _ (by decide) (by decide), f4 159 _ (by decide) (by decide)]
            exact J2.2.2.2 i hi
        · exfalso; omega
    · have w8 : dc_w (3 + (l : Int)) = 3 + (l : Int) := dc_w_eq (by unfold sv_I; omega)
      rw [w8] at e1
      rw [dc_w_eq (z := ((l : Nat) : Int) + 1) (by unfold sv_I; omega), show ((l : Nat) : Int) + 1 = ((l + 1 : Nat) : Int) from rfl] at h
      have f1 : ∀ (k : Nat) (i : Int), k ≠ 154 → m1 k i = m k i := fun k i p1 => by rw [e1, dc_up_k p1]
      have B1 : rz_B m1 t n 300 := ⟨fun i => by rw [← B.1 i]; unfold rz_t; rw [f1 115 i (by decide)], (f1 114 3 (by decide)).trans B.2.1, (f1 114 12 (by decide)).trans B.2.2.1, B.2.2.2⟩
      obtain ⟨r1, r2, r3, r4⟩ := ih (l + 1) m1 v m' h (by omega) B1 ((f1 114 4 (by decide)).trans h4) ((f1 114 10 (by decide)).trans h10) ((f1 151 1 (by decide)).trans hF) ((f1 155 1 (by decide)).trans hW) (fun i p1 p2 => by
        rw [e1]
        by_cases ei : i = 3 + (l : Int)
        · rw [ei, dc_up_s]
        · rw [dc_up_i ei]; exact hz i p1 (by omega))
      refine ⟨r1, r2, fun k i y z => (r3 k i y z).trans (f1 k i (by omega)), ?_⟩
      cases e : pj_all t n with
      | inl f =>
        rw [e] at r4
        intro J hJ l6 l8
        refine r4 J ?_ l6 l8
        obtain ⟨a1, a2, a3, a4⟩ := hJ
        refine ⟨fun i hi => ?_, fun o p1 p3 => ?_, (f1 155 0 (by decide)).trans a3, fun i hi => ?_⟩
        · rw [f1 152 _ (by decide), f1 153 _ (by decide)]; exact a1 i hi
        · rw [e1, dc_up_i (by omega)]; exact a2 o p1 p3
        · rw [f1 156 _ (by decide), f1 157 _ (by decide), f1 158 _ (by decide), f1 159 _ (by decide)]; exact a4 i hi
      | inr K =>
        rw [e] at r4
        exact r4
/-- the reference's job() -/
theorem rj_job {m : dc_M} {v : Int} {m' : dc_M} (h : D_256 m v m') (hn : 0 ≤ m 114 2 ∧ m 114 2 ≤ 740) : rj_R m v m' (pj_all (rz_t m) (m 114 2)) := by
  obtain ⟨m1, e1, v2, m5, ⟨m2, e2, m3, e3, m4, e4, -, e5⟩, m6, e6, m7, e7, -, m8, e8, -, m9, e9, c, h⟩ := h
  subst e5
  have g2 : m1 114 2 = m 114 2 := by rw [e1, dc_up_i (by decide)]
  have f9 : ∀ k i, k ≠ 114 → k ≠ 151 → k ≠ 155 → m9 k i = m k i := fun k i p1 p2 p3 => by rw [e9, dc_up_k p3, e8, dc_up_k p2, e7, dc_up_k p1, e6, dc_up_k p1, e4, dc_up_k p1, e3, dc_up_k p1, e2, dc_up_k p1, e1, dc_up_k p1]
  have o9 : rj_o m m9 := ((((((((rj_o.rf (m := m)).up e1 (Or.inl (by decide))).up e2 (Or.inl (by decide))).up e3 (Or.inl (by decide))).up e4 (Or.inl (by decide))).up e6 (Or.inl (by decide))).up e7 (Or.inl (by decide))).up e8 (Or.inr (by decide))).up e9 (Or.inr (by decide))
  obtain ⟨r1, r2, r3, r4⟩ := rj_c0 (t := rz_t m) (n := m 114 2) hn.1 c 0 m9 v m' h (by decide) ⟨fun i => by unfold rz_t; rw [f9 115 i (by decide) (by decide) (by decide)], by rw [e9, dc_up_k (by decide), e8, dc_up_k (by decide), e7, dc_up_i (by decide), e6, dc_up_i (by decide), e4, dc_up_i (by decide), e3, dc_up_i (by decide), e2, dc_up_s, g2], by rw [e9, dc_up_k (by decide), e8, dc_up_k (by decide), e7, dc_up_s], hn⟩ (by rw [e9, dc_up_k (by decide), e8, dc_up_k (by decide), e7, dc_up_i (by decide), e6, dc_up_i (by decide), e4, dc_up_s]) (by rw [e9, dc_up_k (by decide), e8, dc_up_k (by decide), e7, dc_up_i (by decide), e6, dc_up_s]) (by rw [e9, dc_up_k (by decide), e8, dc_up_s]) (by rw [e9, dc_up_s]) (fun i p1 p2 => by omega)
  refine ⟨r1, r2, o9.tr r3, ?_⟩
  cases e : pj_all (rz_t m) (m 114 2) with
  | inl f =>
    rw [e] at r4
    intro J hJ l6 l8
    refine r4 J ?_ l6 l8
    obtain ⟨a1, a2, a3, a4⟩ := hJ
    refine ⟨fun i hi => ?_, fun o p1 p3 => ?_, ?_, fun i hi => ?_⟩
    · rw [f9 152 _ (by decide) (by decide) (by decide), f9 153 _ (by decide) (by decide) (by decide)]; exact a1 i hi
    · rw [f9 154 _ (by decide) (by decide) (by decide)]; exact a2 o p1 p3
    · rw [e9, dc_up_i (by decide), e8, dc_up_k (by decide), e7, dc_up_k (by decide), e6, dc_up_k (by decide), e4, dc_up_k (by decide), e3, dc_up_k (by decide), e2, dc_up_k (by decide), e1, dc_up_k (by decide)]; exact a3
    · rw [f9 156 _ (by decide) (by decide) (by decide), f9 157 _ (by decide) (by decide) (by decide), f9 158 _ (by decide) (by decide) (by decide), f9 159 _ (by decide) (by decide) (by decide)]; exact a4 i hi
  | inr K =>
    rw [e] at r4
    exact r4
