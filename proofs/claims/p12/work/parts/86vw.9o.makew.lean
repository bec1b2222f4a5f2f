/-! MAKE: the boards that it leaves -/
theorem pn_makeW {J : pj_J} (ok : pj_ok J) {r : Int} {m0 m1 mm : dc_M} {v v' : Int} {m2 : dc_M} (hC : cn_R J m0) (hk : (m0 0 10).toNat = 96 ∨ (m0 0 10).toNat = 105) (ht : cm_tb (m0 0 8).toNat) (hJ : cj_J m0 (m0 0 10).toNat J) (hc : D_166 r m0 v mm) (h : D_265 r m1 v' m2) (hR : r0_J m1 J) : v' = v ∧ (∀ (k : Nat) (i : Int), k ≠ 46 → k ≠ 53 → k ≠ 54 → ¬ ((m0 0 8).toNat ≤ k ∧ k ≤ (m0 0 8).toNat + 2) → mm k i = m0 k i) ∧ (∀ (k : Nat) (i : Int), ¬ (161 ≤ k ∧ k ≤ 167) → k ≠ 114 → ¬ ((k = 118 ∨ k = 119) ∧ 0 ≤ i ∧ i < 60) → ¬ (k = 120 ∧ i = 0) → m2 k i = m1 k i) ∧ ((∃ W, cz_W mm (m0 0 8).toNat W ∧ rz_V m2 0 W) ∨ ((∀ (k : Nat) (i : Int), (m0 0 8).toNat ≤ k → k ≤ (m0 0 8).toNat + 2 → mm k i = m0 k i) ∧ ∀ (k : Nat) (i : Int), ¬ (161 ≤ k ∧ k ≤ 167) → k ≠ 114 → m2 k i = m1 k i)) := by
  obtain ⟨m3, e3, v4, m4, h4, h⟩ := h
  have R3 : r0_J m3 J := hR.go (fun k i k1 k2 => by rw [e3, dc_up_k (by omega)])
  obtain ⟨q, f4⟩ := pn_part ok hC h4 R3
  clear h4
  have f41 : ∀ (k : Nat) (i : Int), ¬ (161 ≤ k ∧ k ≤ 167) → k ≠ 114 → m4 k i = m1 k i := fun k i k1 k2 => (f4 k i k1 (fun z => k2 z.1)).trans (by rw [e3, dc_up_k k2])
  obtain ⟨v1, m5, h1, hc⟩ := hc
  obtain ⟨e5, p1⟩ := pn_has h1
  clear h1
  subst e5
  rcases hc with ⟨d1, -, v6, m6, h6, ev, em⟩ | ⟨d1, ev, em⟩
  · rcases q with ⟨a1, a2, a3, s, a4, a5, a6⟩ | ⟨a1, a2⟩
    · rw [a3, a4] at h6
      obtain ⟨y6, f6, -⟩ := cm_make ht hk ok a5 h6 hJ
      clear h6
      have L6 : cz_W m6 (m5 0 8).toNat (pl_mk J s).1 := by
        rcases y6 with ⟨-, -, w⟩ | ⟨-, nf⟩
        · exact w
        · exact absurd a6 nf
      have ff : ∀ (k : Nat) (i : Int), k ≠ 46 → k ≠ 53 → k ≠ 54 → ¬ ((m5 0 8).toNat ≤ k ∧ k ≤ (m5 0 8).toNat + 2) → m6 k i = m5 k i := fun k i h1 h2 h3 h4 => f6 k i h1 h2 h3 (by clear h; omega) (by clear h; omega) (by clear h; omega)
      have g6 : m6 0 8 = m5 0 8 := ff 0 8 (by decide) (by decide) (by decide) (by clear h; omega)
      have e1 : v = ((pl_mk J s).1.length : Int) := by rw [ev, g6]; exact L6.1
      rcases h with ⟨c1, v7, m7, h7, -, m8, e8, c, h⟩ | ⟨c1, -⟩
      · rw [a4] at h7
        obtain ⟨y7, f7⟩ := rm_make ok a5 h7 (R3.fn f4)
        clear h7
        have L7 : rm_L m7 (pl_mk J s).1 := by
          rcases y7 with ⟨-, -, w⟩ | ⟨-, nf⟩
          · exact w
          · exact absurd a6 nf
        have l60 := L6.2.1
        have key : ∀ (c : Nat) (l2 l3 : Int) (m : dc_M), LM_265 r c 35 l2 l3 m v' m2 → 0 ≤ l3 → l3 ≤ m 114 79 → m 114 79 ≤ 60 → v' = m 114 79 ∧ (∀ (k : Nat) (i : Int), ¬ ((k = 118 ∨ k = 119) ∧ l3 ≤ i ∧ i < m 114 79) → m2 k i = m k i) ∧ ∀ i : Int, l3 ≤ i → i < m 114 79 → m2 118 i = m 161 i ∧ m2 119 i = m 162 i := by
          intro c
          induction c with
          | zero => intro l2 l3 m h; exact h.elim
          | succ c ih =>
            intro l2 l3 m h h0 hl h60
            replace h := lm_265_35.mp h
            rcases h with ⟨z, ev, em⟩ | ⟨z, -, -, m9, e9, -, -, m10, e10, h⟩
            · rw [em]
              exact ⟨ev, fun _ _ _ => rfl, fun i i1 i2 => by exfalso; omega⟩
            · rw [dc_w_eq (by unfold sv_I; clear h; omega)] at h
              have g : m10 114 79 = m 114 79 := by rw [e10, dc_up_k (by decide), e9, dc_up_k (by decide)]
              obtain ⟨i1, i2, i3⟩ := ih l2 (l3 + 1) m10 h (by clear h; omega) (by rw [g]; clear h; omega) (by rw [g]; exact h60)
              clear h
              rw [g] at i1 i2 i3
              refine ⟨i1, fun k i z2 => ?_, fun i j1 j2 => ?_⟩
              · rw [i2 k i (fun y => z2 ⟨y.1, by omega, y.2.2⟩), e10]
                refine (if_neg (fun y => z2 ⟨Or.inr y.1, by omega, by omega⟩)).trans ?_
                rw [e9]
                exact if_neg (fun y => z2 ⟨Or.inl y.1, by omega, by omega⟩)
              · by_cases x : i = l3
                · subst x
                  rw [i2 118 _ (by omega), i2 119 _ (by omega), e10, dc_up_k (by decide), dc_up_s, e9, dc_up_s, dc_up_k (by decide)]
                  exact ⟨rfl, rfl⟩
                · obtain ⟨q1, q2⟩ := i3 i (by omega) j2
                  rw [q1, q2, e10, dc_up_k (by decide), dc_up_k (by decide), e9, dc_up_k (by decide), dc_up_k (by decide)]
                  exact ⟨rfl, rfl⟩
        have g79 : m8 114 79 = ((pl_mk J s).1.length : Int) := by rw [e8, dc_up_k (by decide)]; exact L7.1
        obtain ⟨k1, k2, k3⟩ := key c _ 0 m8 h (Int.le_refl 0) (by rw [g79]; clear h; omega) (by rw [g79]; clear h; omega)
        clear h
        rw [g79] at k1 k2 k3
        have F2 : ∀ (k : Nat) (i : Int), ¬ (161 ≤ k ∧ k ≤ 167) → k ≠ 114 → ¬ ((k = 118 ∨ k = 119) ∧ 0 ≤ i ∧ i < 60) → ¬ (k = 120 ∧ i = 0) → m2 k i = m1 k i := fun k i a b c d => by
          rw [k2 k i (fun y => c ⟨y.1, y.2.1, by omega⟩), e8]
          refine (if_neg d).trans ?_
          rw [f7 k i (by omega) (by omega) (by omega) (by omega) (fun y => b y.1)]
          exact f41 k i a b
        rw [em]
        refine ⟨by rw [k1, e1], ff, F2, Or.inl ⟨_, L6, ?_, l60, fun i hi => ?_⟩⟩
        · rw [k2 120 0 (by omega), e8, dc_up_s]; exact L7.1
        · obtain ⟨q1, q2⟩ := k3 (i : Nat) (by omega) (by omega)
          obtain ⟨w1, w2⟩ := L7.2 i hi
          rw [show (60 : Int) * 0 + (i : Int) = (i : Int) by omega, q1, q2, e8, dc_up_k (by decide), dc_up_k (by decide)]
          exact ⟨w1, w2⟩
      · exfalso; omega
    · exfalso; clear h h6; omega
  · rcases q with ⟨a1, a2, -⟩ | ⟨a1, a2⟩
    · exfalso; clear h; omega
    · rcases h with ⟨c1, -⟩ | ⟨c1, ev2, em2⟩
      · exfalso; omega
      · rw [em, em2]
        exact ⟨by rw [ev, ev2], fun _ _ _ _ _ _ => rfl, fun k i a b _ _ => f41 k i a b, Or.inr ⟨fun _ _ _ _ => rfl, f41⟩⟩
