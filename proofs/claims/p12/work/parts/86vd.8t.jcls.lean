/-! THE JOB'S TEXT: the class reads it so -/
theorem cz_S_k {m m' : dc_M} {t : Int → Int} {n lim p : Int} (S : cz_S m t n lim p) (e1 : m' 1 = m 1) (e2 : m' 2 = m 2) : cz_S m' t n lim p := by
  unfold cz_S cz_B cz_T at *
  rw [e1, e2]
  exact S
def pj_p : Nat → Int
  | 0 => 1
  | s + 1 => 32 * pj_p s
theorem pj_p_b : ∀ s : Nat, s < 5 → pj_p s ≤ 1048576 := by decide
/-- the number that the class makes of a word -/
theorem cj_word : ∀ (c : Nat) (m : dc_M) (v : Int) (m' : dc_M) (s : Nat), LM_118 c 0 m v m' → (0 ≤ m 1 5 ∧ m 1 5 ≤ m 1 3 ∧ m 1 3 ≤ m 1 1 ∧ m 1 1 ≤ 740) → m 1 3 = m 1 5 + (s : Nat) → (s ≤ 5 → m 1 7 = pj_cv (pj_nm (m 2) (m 1 5) s) ∧ 0 ≤ m 1 7 ∧ m 1 7 < pj_p s) → pz_en 97 122 (m 2) (m 1 1) (m 1 3) - m 1 5 ≤ 5 → m' 1 7 = pj_cv (pj_nm (m 2) (m 1 5) (pz_en 97 122 (m 2) (m 1 1) (m 1 3) - m 1 5).toNat) := by
  intro c
  induction c with
  | zero => intro m v m' s h; exact h.elim
  | succ c ih =>
    intro m v m' s h hb hs hv h5
    have stop : (∃ m1, m1 = dc_up m 1 6 (dc_w ((m 1 3) - (m 1 5))) ∧ ((((m1 1 6) : Int) > 5 ∧ (∃ m2, m2 = dc_up m1 1 4 4 ∧ (v = 0 ∧ m' = m2))) ∨ (¬ (((m1 1 6) : Int) > 5) ∧ (∃ m2, m2 = dc_up m1 1 4 1 ∧ (v = 0 ∧ m' = m2))))) → ¬ (m 1 3 < m 1 1 ∧ 97 ≤ m 2 (m 1 3) ∧ m 2 (m 1 3) ≤ 122) → m' 1 7 = pj_cv (pj_nm (m 2) (m 1 5) (pz_en 97 122 (m 2) (m 1 1) (m 1 3) - m 1 5).toNat) := by
      intro hx hc
      have q := (cz_x hx ⟨by omega, by omega, by omega⟩).2
      rw [pz_en_n hc] at h5 ⊢
      rw [q, show (m 1 3 - m 1 5).toNat = s by omega]
      exact (hv (by omega)).1
    rcases lm_118_0.mp h with ⟨c1, h⟩ | ⟨c1, -, h⟩
    · exact stop h (by omega)
    · rcases h with ⟨c2, h⟩ | ⟨c2, -, h⟩
      · exact stop h (by omega)
      · rcases h with ⟨c3, h⟩ | ⟨c3, -, m1, e1, m2, e2, h⟩
        · exact stop h (by omega)
        · have a3 : m1 1 3 = m 1 3 := by rw [e1, dc_up_i (by decide)]
          have w : dc_w (m1 1 3 + 1) = m 1 3 + 1 := by rw [a3]; exact dc_w_eq (by unfold sv_I; omega)
          rw [w] at e2
          have f3 : m2 1 3 = m 1 3 + 1 := by rw [e2, dc_up_s]
          have f7 : m2 1 7 = dc_w (dc_w (dc_w (dc_w (m 1 7 * 32) + m 2 (m 1 3)) - 97) + 1) := by rw [e2, dc_up_i (by decide), e1, dc_up_s]
          have fj : ∀ j : Int, j ≠ 3 → j ≠ 7 → m2 1 j = m 1 j := fun j h3 h7 => by rw [e2, dc_up_i h3, e1, dc_up_i h7]
          have fk : ∀ k i, k ≠ 1 → m2 k i = m k i := fun k i hk => by rw [e2, dc_up_k hk, e1, dc_up_k hk]
          have ft : m2 2 = m 2 := funext fun i => fk 2 i (by decide)
          have en := pz_en_y (a := 97) (b := 122) (t := m 2) (n := m 1 1) (p := m 1 3) (by omega) ⟨by omega, by omega⟩
          have er := pz_en_r (a := 97) (b := 122) (t := m 2) (n := m 1 1) (p := m 1 3 + 1) (by omega)
          rw [en] at h5 ⊢
          have q := ih m2 v m' (s + 1) h (by rw [f3, fj 5 (by decide) (by decide), fj 1 (by decide) (by decide)]; omega) (by rw [f3, fj 5 (by decide) (by decide)]; omega) (by
            intro s5
            obtain ⟨v1, v2, v3⟩ := hv (by omega)
            have pb := pj_p_b s (by omega)
            have e7 : m2 1 7 = m 1 7 * 32 + (m 2 (m 1 3) - 96) := by
              rw [f7, dc_w_eq (z := m 1 7 * 32) (by unfold sv_I; omega), dc_w_eq (z := m 1 7 * 32 + m 2 (m 1 3)) (by unfold sv_I; omega), dc_w_eq (z := m 1 7 * 32 + m 2 (m 1 3) - 97) (by unfold sv_I; omega), dc_w_eq (by unfold sv_I; omega)]
              omega
            rw [e7, ft, fj 5 (by decide) (by decide)]
            refine ⟨?_, by omega, ?_⟩
            · show _ = pj_cv (pj_nm (m 2) (m 1 5) s) * 32 + (m 2 (m 1 5 + (s : Nat)) - 96)
              rw [← v1, ← hs]
            · show _ < 32 * pj_p s
              omega) (by rw [ft, f3, fj 5 (by decide) (by decide), fj 1 (by decide) (by decide)]; exact h5)
          rw [ft, f3, fj 5 (by decide) (by decide), fj 1 (by decide) (by decide)] at q
          exact q
theorem cj_advl : ∀ (c : Nat) (m : dc_M) (v : Int) (m' : dc_M) (t : Int → Int) (n : Int), LM_117 c 0 m v m' → cz_B m t n 300 → 0 ≤ m 1 3 → m 1 3 ≤ n → pz_k t n 300 (m 1 3) = 1 → m' 1 7 = pj_cv (pj_name t n (m 1 3)) := by
  intro c
  induction c with
  | zero => intro m v m' t n h; exact h.elim
  | succ c ih =>
    intro m v m' t n h hB h0 hn hk
    have hB0 := hB
    obtain ⟨bt, bn, bl, b0, b7⟩ := hB
    rcases cz_sh (lm_117_0.mp h) with ⟨hx, hc⟩ | ⟨hr, hc⟩
    · rw [bn, bt] at hc
      have esk : pz_sk t n (m 1 3) = m 1 3 := pz_sk_n (by omega)
      obtain ⟨k1, k2, k3, k4, k5⟩ := pz_k1 hk hn
      rw [esk] at k1 k4 k5
      have hl : 97 ≤ t (m 1 3) ∧ t (m 1 3) ≤ 122 := by
        unfold pz_k at hk
        rw [esk] at hk
        split at hk
        · omega
        · split at hk
          · assumption
          · split at hk
            · split at hk <;> omega
            · split at hk <;> omega
      have hlim : m 1 3 < 300 := (pz_nx_s (t := t) (lim := 300) (show pz_k t n 300 (m 1 3) ≠ 0 by omega) hn).2
      obtain ⟨m1, e1, m2, e2, hx⟩ := hx
      have fj : ∀ j : Int, j ≠ 6 → j ≠ 7 → m2 1 j = m 1 j := fun j h6 h7 => by rw [e2, dc_up_i h6, e1, dc_up_i h7]
      have f7 : m2 1 7 = 0 := by rw [e2, dc_up_i (by decide), e1, dc_up_s]
      have fk : ∀ k i, k ≠ 1 → m2 k i = m k i := fun k i hk => by rw [e2, dc_up_k hk, e1, dc_up_k hk]
      have g1 : m2 1 1 = n := (fj 1 (by decide) (by decide)).trans bn
      have g2 : m2 1 2 = 300 := (fj 2 (by decide) (by decide)).trans bl
      have g3 : m2 1 3 = m 1 3 := fj 3 (by decide) (by decide)
      rcases hx with ⟨c1, -⟩ | ⟨c1, hx⟩
      · exfalso; rw [g3, g1] at c1; omega
      · rcases hx with ⟨c2, m3, e3, hx⟩ | ⟨c2, -⟩
        · rw [g3] at e3
          have kj : ∀ j : Int, j ≠ 5 → m3 1 j = m2 1 j := fun j h5 => by rw [e3, dc_up_i h5]
          have kk : ∀ k i, k ≠ 1 → m3 k i = m k i := fun k i hk => by rw [e3, dc_up_k hk, fk k i hk]
          have k5' : m3 1 5 = m 1 3 := by rw [e3, dc_up_s]
          have k3' : m3 1 3 = m 1 3 := by rw [kj 3 (by decide), g3]
          have k1' : m3 1 1 = n := by rw [kj 1 (by decide), g1]
          have k7 : m3 1 7 = 0 := by rw [kj 7 (by decide), f7]
          have kt : m3 2 = t := (funext fun i => kk 2 i (by decide)).trans bt
          rcases cz_sh2 hx with ⟨⟨v1, m4, ⟨c9, hd⟩, -, e5⟩, d1, d2⟩ | ⟨-, d1, d2, d3⟩ | ⟨-, d1, d2⟩
          · subst e5
            have q := cj_word c9 m3 v1 m' 0 hd (by rw [k5', k3', k1']; omega) (by rw [k3', k5']; omega) (fun _ => ⟨k7, by omega, by rw [k7]; decide⟩) (by rw [kt, k1', k3', k5']; omega)
            rw [kt, k1', k3', k5'] at q
            rw [q]
            unfold pj_name
            rw [k1, k4]
          · exfalso; rw [kt, k3'] at d1; omega
          · exfalso; rw [kt, k3'] at d1 d2; omega
        · exfalso; rw [g3, g2] at c2; omega
    · obtain ⟨m1, e1, hr⟩ := hr
      rw [bn, bt] at hc
      have w : dc_w (m 1 3 + 1) = m 1 3 + 1 := dc_w_eq (by unfold sv_I; omega)
      rw [w] at e1
      have f3 : m1 1 3 = m 1 3 + 1 := by rw [e1, dc_up_s]
      have fj : ∀ j : Int, j ≠ 3 → m1 1 j = m 1 j := fun j h3 => by rw [e1, dc_up_i h3]
      have fk : ∀ k i, k ≠ 1 → m1 k i = m k i := fun k i hk => by rw [e1, dc_up_k hk]
      have F1 : cz_F m m1 := ⟨fk, fj 1 (by decide), fj 2 (by decide), fj 8 (by decide), fj 9 (by decide)⟩
      have esk : pz_sk t n (m 1 3) = pz_sk t n (m 1 3 + 1) := pz_sk_y (by omega) (by omega)
      have q := ih m1 v m' t n hr (hB0.go F1) (by rw [f3]; omega) (by rw [f3]; omega)
      rw [f3] at q
      unfold pj_name at q ⊢
      unfold pz_k at q hk
      unfold pz_pl pz_nx at q ⊢
      rw [esk] at hk ⊢
      exact q hk
theorem cj_adv {m : dc_M} {v : Int} {m' : dc_M} {t : Int → Int} {n p : Int} (h : D_117 m v m') (S : cz_S m t n 300 p) : pz_k t n 300 (pz_nx t n 300 p) = 1 → m' 1 7 = pj_cv (pj_name t n (pz_nx t n 300 p)) := by
  obtain ⟨B, T, p0, p1⟩ := S
  obtain ⟨c, h⟩ := h
  have r := pz_nx_r (t := t) (lim := 300) p1
  have e3 := T.2.2.1
  have q := cj_advl c m v m' t n h B (by rw [e3]; omega) (by rw [e3]; omega)
  rw [e3] at q
  exact q
theorem cj_stands : ∀ (c : Nat) (s0 : Nat) (l3 : Int) (m : dc_M) (v : Int) (m' : dc_M) (pl : Int), LM_122 s0 0 c 2 l3 m v m' → m 1 6 = ((dc_xs s0).length : Int) → (dc_xs s0).length ≤ 5 → m 1 5 = pl → 0 ≤ pl → pl ≤ 740 → 0 ≤ l3 → l3 ≤ (dc_xs s0).length → (∀ i : Nat, (i : Int) < l3 → sv_g ((dc_xs s0).getD i 0) = m 2 (pl + i)) → m' = m ∧ ((v = 1 ∧ ∀ i : Nat, i < (dc_xs s0).length → sv_g ((dc_xs s0).getD i 0) = m 2 (pl + i)) ∨ (v = 0 ∧ ¬ ∀ i : Nat, i < (dc_xs s0).length → sv_g ((dc_xs s0).getD i 0) = m 2 (pl + i))) := by
  intro c
  induction c with
  | zero => intro s0 l3 m v m' pl h; exact h.elim
  | succ c ih =>
    intro s0 l3 m v m' pl h h6 h5 hpl p0 p1 h0 hl hi
    replace h := lm_122_2.mp h
    rcases h with ⟨c1, ev, em⟩ | ⟨c1, h⟩
    · exact ⟨em, Or.inl ⟨ev, fun i hz => hi i (by omega)⟩⟩
    · have w1 : dc_w (0 + l3) = l3 := by rw [dc_w_eq (by unfold sv_I; omega)]; omega
      have w2 : dc_w (m 1 5 + l3) = pl + l3 := by rw [dc_w_eq (by unfold sv_I; omega), hpl]
      have w3 : dc_w (l3 + 1) = l3 + 1 := dc_w_eq (by unfold sv_I; omega)
      rw [w1, w2, w3] at h
      have et : ((l3.toNat : Nat) : Int) = l3 := by omega
      rcases h with ⟨c2, ev, em⟩ | ⟨c2, -, -, h⟩
      · exfalso; omega
      · rcases h with ⟨c3, h⟩ | ⟨c3, ev, em⟩
        · refine ih s0 (l3 + 1) m v m' pl h h6 h5 hpl p0 p1 (by omega) (by omega) (fun i hz => ?_)
          by_cases e : (i : Int) = l3
          · have e2 : i = l3.toNat := by omega
            rw [e, e2]; exact c3
          · exact hi i (by omega)
        · refine ⟨em, Or.inr ⟨ev, fun z => c3 ?_⟩⟩
          have := z l3.toNat (by omega)
          rw [et] at this
          exact this
theorem cj_isw {s0 : Nat} {m : dc_M} {v : Int} {m' : dc_M} {t : Int → Int} {n p : Int} (h : D_121 s0 m v m') (hs : s0 < 265 ∧ 260 ≤ s0) (S : cz_S m t n 300 p) : m' = m ∧ ((v = 1 ∧ pj_is t n p s0) ∨ (v = 0 ∧ ¬ pj_is t n p s0)) := by
  obtain ⟨B, T, p0, p1⟩ := S
  have h5 := (pj_w_al s0 hs.1 hs.2).1
  rcases h with ⟨c1, ev, em⟩ | ⟨c1, h⟩
  · rw [T.1] at c1
    exact ⟨em, Or.inr ⟨ev, fun z => c1 z.1⟩⟩
  · rw [T.1] at c1
    have c1 : pz_k t n 300 p = 1 := by clear h; omega
    have e6 := T.2.2.2.1 c1
    obtain ⟨k1, k2, k3, k4, k5⟩ := pz_k1 c1 p1
    have sk := pz_sk_r (t := t) p1
    rcases h with ⟨c2, ev, em⟩ | ⟨c2, v1, m1, ⟨c, hd⟩, h⟩
    · rw [e6] at c2
      refine ⟨em, Or.inr ⟨ev, fun z => c2 ?_⟩⟩
      have := congrArg List.length z.2
      unfold pj_name pj_w at this
      rw [pj_nm_len, pj_nm_len] at this
      omega
    · rw [e6] at c2
      have c2 : pz_nx t n 300 p - pz_pl t n 300 p = ((dc_xs s0).length : Int) := by clear h hd; omega
      have b7 := B.2.2.2
      obtain ⟨em1, hv⟩ := cj_stands c s0 0 m v1 m1 (pz_pl t n 300 p) hd (by rw [e6, c2]) h5 T.2.1 (by clear h hd; omega) (by clear h hd; omega) (by decide) (by clear h hd; omega) (fun i hi => by clear h hd; omega)
      have key : pj_name t n p = pj_w s0 ↔ ∀ i : Nat, i < (dc_xs s0).length → sv_g ((dc_xs s0).getD i 0) = m 2 (pz_pl t n 300 p + i) := by
        unfold pj_name pj_w
        rw [show (pz_nx t n 300 p - pz_pl t n 300 p).toNat = (dc_xs s0).length by clear h hd; omega, pj_nm_ext, B.1]
        constructor
        · intro z i hi
          have y : t (pz_pl t n 300 p + (i : Nat)) = sv_g ((dc_xs s0).getD ((0 : Int) + (i : Nat)).toNat 0) := z i hi
          rw [Int.zero_add, Int.toNat_natCast] at y
          exact y.symm
        · intro z i hi
          show t (pz_pl t n 300 p + (i : Nat)) = sv_g ((dc_xs s0).getD ((0 : Int) + (i : Nat)).toNat 0)
          rw [Int.zero_add, Int.toNat_natCast]
          exact (z i hi).symm
      subst em1
      rcases hv with ⟨e1, hz⟩ | ⟨e1, hz⟩
      · rcases h with ⟨c3, -⟩ | ⟨c3, ev, em⟩
        · exfalso; omega
        · exact ⟨em, Or.inl ⟨ev, c1, key.mpr hz⟩⟩
      · rcases h with ⟨c3, ev, em⟩ | ⟨c3, -⟩
        · exact ⟨em, Or.inr ⟨ev, fun z => hz (key.mp z.2)⟩⟩
        · exact absurd e1 c3
theorem cj_isn {m : dc_M} {v : Int} {m' : dc_M} {t : Int → Int} {n p : Int} (h : D_37 m v m') (S : cz_S m t n 300 p) : m' = m ∧ ((v = 1 ∧ pj_isn t n p) ∨ (v = 0 ∧ ¬ pj_isn t n p)) := by
  have T := S.2.1
  have no : ∀ {s0 : Nat} {x : Int}, x ≠ 0 → ((x = 1 ∧ pj_is t n p s0) ∨ (x = 0 ∧ ¬ pj_is t n p s0)) → pj_name t n p = pj_w s0 := fun a b => by
    rcases b with ⟨-, y⟩ | ⟨y, -⟩
    · exact y.2
    · exact absurd y a
  have ne : ∀ {s0 : Nat} {x : Int}, ¬ x ≠ 0 → ((x = 1 ∧ pj_is t n p s0) ∨ (x = 0 ∧ ¬ pj_is t n p s0)) → pz_k t n 300 p = 1 → ¬ pj_name t n p = pj_w s0 := fun a b c d => by
    rcases b with ⟨y, -⟩ | ⟨-, y⟩
    · omega
    · exact y ⟨c, d⟩
  rcases h with ⟨c1, ev, em⟩ | ⟨c1, v1, m1, h1, h⟩
  · rw [T.1] at c1
    exact ⟨em, Or.inr ⟨ev, fun z => c1 z.1⟩⟩
  · rw [T.1] at c1
    have c1 : pz_k t n 300 p = 1 := by clear h h1; omega
    obtain ⟨em1, q1⟩ := cj_isw h1 (by decide) S
    subst em1
    rcases h with ⟨d1, ev, em⟩ | ⟨d1, v2, m2, h2, h⟩
    · exact ⟨em, Or.inr ⟨ev, fun z => z.2.1 (no d1 q1)⟩⟩
    · obtain ⟨em2, q2⟩ := cj_isw h2 (by decide) S
      subst em2
      rcases h with ⟨d2, ev, em⟩ | ⟨d2, v3, m3, h3, h⟩
      · exact ⟨em, Or.inr ⟨ev, fun z => z.2.2.1 (no d2 q2)⟩⟩
      · obtain ⟨em3, q3⟩ := cj_isw h3 (by decide) S
        subst em3
        rcases h with ⟨d3, ev, em⟩ | ⟨d3, v4, m4, h4, h⟩
        · exact ⟨em, Or.inr ⟨ev, fun z => z.2.2.2.1 (no d3 q3)⟩⟩
        · obtain ⟨em4, q4⟩ := cj_isw h4 (by decide) S
          subst em4
          rcases h with ⟨d4, ev, em⟩ | ⟨d4, v5, m5, h5, h⟩
          · exact ⟨em, Or.inr ⟨ev, fun z => z.2.2.2.2.1 (no d4 q4)⟩⟩
          · obtain ⟨em5, q5⟩ := cj_isw h5 (by decide) S
            subst em5
            rcases h with ⟨d5, ev, em⟩ | ⟨d5, ev, em⟩
            · exact ⟨em, Or.inr ⟨ev, fun z => z.2.2.2.2.2 (no d5 q5)⟩⟩
            · exact ⟨em, Or.inl ⟨ev, c1, ne d1 q1 c1, ne d2 q2 c1, ne d3 q3 c1, ne d4 q4 c1, ne d5 q5 c1⟩⟩
/-! the JOB at k -/
def cj_F (m : dc_M) (k : Nat) (F : pj_F) : Prop := m k 3 = (F.length : Int) ∧ ∀ i : Nat, i < F.length → m (k + 1) (i : Nat) = pj_cv (F.getD i ([], 0, 0)).1 ∧ m (k + 2) (i : Nat) = (F.getD i ([], 0, 0)).2.1 ∧ m (k + 3) (i : Nat) = (F.getD i ([], 0, 0)).2.2
def cj_W (m : dc_M) (k : Nat) (W : pj_W) : Prop := m k 9 = (W.length : Int) ∧ ∀ i : Nat, i < W.length → m (k + 5) (i : Nat) = (W.getD i (0, 0, 0, 0)).1 ∧ m (k + 6) (i : Nat) = (W.getD i (0, 0, 0, 0)).2.1 ∧ m (k + 7) (i : Nat) = (W.getD i (0, 0, 0, 0)).2.2.1 ∧ m (k + 8) (i : Nat) = (W.getD i (0, 0, 0, 0)).2.2.2
def cj_B (m : dc_M) (k : Nat) (B : Int → Int) : Prop := ∀ o : Int, 1 ≤ o → o ≤ 3 → m (k + 4) o = B o
def cj_J (m : dc_M) (k : Nat) (J : pj_J) : Prop := cj_F m k J.1 ∧ cj_B m k J.2.1 ∧ cj_W m k J.2.2
/-- what reading a JOB leaves alone -/
def cj_G (k : Nat) (m m' : dc_M) : Prop := (∀ j i, j ≠ 1 → ¬ (k ≤ j ∧ j ≤ k + 8) → m' j i = m j i) ∧ m' 1 1 = m 1 1 ∧ m' 1 2 = m 1 2 ∧ m' 1 8 = m 1 8 ∧ m' 1 9 = m 1 9
def cj_E (k : Nat) (m m' : dc_M) (f : Int × Int) : Prop := (∀ j i, j ≠ 1 → ¬ (k ≤ j ∧ j ≤ k + 8) → m' j i = m j i) ∧ m' 1 1 = m 1 1 ∧ m' 1 8 = f.1 ∧ m' 1 9 = f.2
theorem cj_G.rf {k : Nat} {m : dc_M} : cj_G k m m := ⟨fun _ _ _ _ => rfl, rfl, rfl, rfl, rfl⟩
theorem cj_G.tr {k : Nat} {a b c : dc_M} (h : cj_G k a b) (g : cj_G k b c) : cj_G k a c := ⟨fun j i h1 h2 => (g.1 j i h1 h2).trans (h.1 j i h1 h2), g.2.1.trans h.2.1, g.2.2.1.trans h.2.2.1, g.2.2.2.1.trans h.2.2.2.1, g.2.2.2.2.trans h.2.2.2.2⟩
theorem cj_E.go {k : Nat} {a b c : dc_M} {f : Int × Int} (h : cj_G k a b) (g : cj_E k b c f) : cj_E k a c f := ⟨fun j i h1 h2 => (g.1 j i h1 h2).trans (h.1 j i h1 h2), g.2.1.trans h.2.1, g.2.2⟩
theorem cz_F.j {k : Nat} {a b : dc_M} (h : cz_F a b) : cj_G k a b := ⟨fun j i h1 _ => h.1 j i h1, h.2.1, h.2.2.1, h.2.2.2.1, h.2.2.2.2⟩
theorem cz_E.j {k : Nat} {a b : dc_M} {f : Int × Int} (h : cz_E a b f) : cj_E k a b f := ⟨fun j i h1 _ => h.1 j i h1, h.2.1, h.2.2⟩
/-- stores into the JOB alone -/
theorem cj_G.of {k : Nat} {a b : dc_M} (hk : 3 ≤ k) (h : ∀ j i, ¬ (k ≤ j ∧ j ≤ k + 8) → b j i = a j i) : cj_G k a b := ⟨fun j i _ h2 => h j i h2, h 1 1 (by omega), h 1 2 (by omega), h 1 8 (by omega), h 1 9 (by omega)⟩
theorem cj_S_k {k : Nat} {m m' : dc_M} {t : Int → Int} {n lim p : Int} (hk : 3 ≤ k) (S : cz_S m t n lim p) (h : ∀ j i, ¬ (k ≤ j ∧ j ≤ k + 8) → m' j i = m j i) : cz_S m' t n lim p := cz_S_k S (funext fun i => h 1 i (by omega)) (funext fun i => h 2 i (by omega))
theorem cj_J.go {k : Nat} {m m' : dc_M} {J : pj_J} (hJ : cj_J m k J) (hk : 3 ≤ k) (f : ∀ j i, j ≠ 1 → m' j i = m j i) : cj_J m' k J := by
  obtain ⟨⟨f0, f1⟩, b, w0, w1⟩ := hJ
  refine ⟨⟨(f k 3 (by omega)).trans f0, fun i hi => ?_⟩, fun o h1 h3 => (f (k + 4) o (by omega)).trans (b o h1 h3), (f k 9 (by omega)).trans w0, fun i hi => ?_⟩
  · rw [f (k + 1) _ (by omega), f (k + 2) _ (by omega), f (k + 3) _ (by omega)]; exact f1 i hi
  · rw [f (k + 5) _ (by omega), f (k + 6) _ (by omega), f (k + 7) _ (by omega), f (k + 8) _ (by omega)]; exact w1 i hi
theorem cj_fol {k : Nat} {w : List Int} {F : pj_F} (hw : pj_al w) (hF : ∀ a ∈ F, pj_al a.1) (h6 : F.length ≤ 6) : ∀ (c : Nat) (m : dc_M) (v : Int) (m' : dc_M) (i : Nat), LM_38 k (pj_cv w) c 2 (i : Nat) m v m' → cj_F m k F → i ≤ F.length → m' = m ∧ v = pj_fo (F.drop i) w (i : Nat) := by
  intro c
  induction c with
  | zero => intro m v m' i h; exact h.elim
  | succ c ih =>
    intro m v m' i h hm hi
    replace h := lm_38_2.mp h
    rw [hm.1] at h
    rcases h with ⟨c1, ev, em⟩ | ⟨c1, -, h⟩
    · rw [List.drop_eq_nil_of_le (by omega)]
      exact ⟨em, ev⟩
    · have hl : i < F.length := by clear h; omega
      rw [(hm.2 i hl).1, dc_w_eq (z := ((i : Nat) : Int) + 1) (by unfold sv_I; clear h; omega), show ((i : Nat) : Int) + 1 = ((i + 1 : Nat) : Int) from rfl] at h
      rw [pj_drop ([], 0, 0) hl]
      show m' = m ∧ v = (if (F.getD i ([], 0, 0)).1 = w then ((i : Nat) : Int) else pj_fo (F.drop (i + 1)) w (((i : Nat) : Int) + 1))
      rcases h with ⟨c2, h⟩ | ⟨c2, ev, em⟩
      · obtain ⟨q1, q2⟩ := ih m v m' (i + 1) h hm (by omega)
        rw [if_neg (fun z => c2 (by rw [z]))]
        exact ⟨q1, q2⟩
      · rw [if_pos (pj_cv_inj (hF _ (pj_gm hl)) hw (by omega))]
        exact ⟨em, ev⟩
theorem cj_foR {k : Nat} {x : Int} {w : List Int} {J : pj_J} {m : dc_M} {v : Int} {m' : dc_M} (h : D_38 k x m v m') (hx : x = pj_cv w) (hw : pj_al w) (ok : pj_ok J) (hJ : cj_J m k J) : m' = m ∧ v = pj_fo J.1 w 0 := by
  obtain ⟨c, h⟩ := h
  rw [hx] at h
  exact cj_fol hw (fun a ha => (ok.2.1 a ha).1.1) ok.1 c m v m' 0 h hJ.1 (by omega)
/-- a field more -/
theorem cj_putF {k : Nat} {m m1 m2 m3 m4 : dc_M} {J : pj_J} {w : List Int} {x a b : Int} (e1 : m1 = dc_up m (k + 1) (m k 3) x) (e2 : m2 = dc_up m1 (k + 2) (m1 k 3) a) (e3 : m3 = dc_up m2 (k + 3) (m2 k 3) b) (e4 : m4 = dc_up m3 k 3 (dc_w (m3 k 3 + 1))) (hJ : cj_J m k J) (hl : (J.1.length : Int) < 6) (hx : x = pj_cv w) : cj_J m4 k (J.1 ++ [(w, a, b)], J.2) ∧ ∀ j i, ¬ (k ≤ j ∧ j ≤ k + 8) → m4 j i = m j i := by
  obtain ⟨⟨f0, f1⟩, bb, w0, w1⟩ := hJ
  rw [f0] at e1
  have g1 : m1 k 3 = (J.1.length : Int) := by rw [e1, dc_up_k (by omega), f0]
  rw [g1] at e2
  have g2 : m2 k 3 = (J.1.length : Int) := by rw [e2, dc_up_k (by omega), g1]
  rw [g2] at e3
  have g3 : m3 k 3 = (J.1.length : Int) := by rw [e3, dc_up_k (by omega), g2]
  rw [g3, dc_w_eq (by unfold sv_I; omega)] at e4
  have fr : ∀ j i, j ≠ k → j ≠ k + 1 → j ≠ k + 2 → j ≠ k + 3 → m4 j i = m j i := fun j i h0 h1 h2 h3 => by rw [e4, dc_up_k h0, e3, dc_up_k h3, e2, dc_up_k h2, e1, dc_up_k h1]
  refine ⟨⟨⟨?_, fun i hi => ?_⟩, fun o h1 h3 => (fr (k + 4) o (by omega) (by omega) (by omega) (by omega)).trans (bb o h1 h3), ?_, fun i hi => ?_⟩, fun j i hj => fr j i (by omega) (by omega) (by omega) (by omega)⟩
  · rw [e4, dc_up_s]
    show _ = ((J.1 ++ [(w, a, b)]).length : Int)
    rw [List.length_append]; rfl
  · have hi : i < (J.1 ++ [(w, a, b)]).length := hi
    rw [List.length_append] at hi
    have hi : i < J.1.length + 1 := hi
    have r1 : m4 (k + 1) (i : Nat) = m1 (k + 1) (i : Nat) := by rw [e4, dc_up_k (by omega), e3, dc_up_k (by omega), e2, dc_up_k (by omega)]
    have r2 : m4 (k + 2) (i : Nat) = m2 (k + 2) (i : Nat) := by rw [e4, dc_up_k (by omega), e3, dc_up_k (by omega)]
    have r3 : m4 (k + 3) (i : Nat) = m3 (k + 3) (i : Nat) := by rw [e4, dc_up_k (by omega)]
    rw [r1, r2, r3]
    show m1 (k + 1) (i : Nat) = pj_cv ((J.1 ++ [(w, a, b)]).getD i ([], 0, 0)).1 ∧ m2 (k + 2) (i : Nat) = ((J.1 ++ [(w, a, b)]).getD i ([], 0, 0)).2.1 ∧ m3 (k + 3) (i : Nat) = ((J.1 ++ [(w, a, b)]).getD i ([], 0, 0)).2.2
    by_cases z : i < J.1.length
    · rw [pj_gl z, e3, dc_up_i (by omega), e2, dc_up_i (by omega), dc_up_k (by omega), e1, dc_up_i (by omega), dc_up_k (by omega), dc_up_k (by omega)]
      exact f1 i z
    · have z : i = J.1.length := by omega
      subst z
      rw [pj_gr, e3, dc_up_s, e2, dc_up_s, e1, dc_up_s]
      exact ⟨hx, rfl, rfl⟩
  · rw [e4, dc_up_i (by decide), e3, dc_up_k (by omega), e2, dc_up_k (by omega), e1, dc_up_k (by omega)]; exact w0
  · rw [fr (k + 5) _ (by omega) (by omega) (by omega) (by omega), fr (k + 6) _ (by omega) (by omega) (by omega) (by omega), fr (k + 7) _ (by omega) (by omega) (by omega) (by omega), fr (k + 8) _ (by omega) (by omega) (by omega) (by omega)]
    exact w1 i hi
