/-! A RUN's BOARD: the reference (printed by wip/p22/g9e.py) -/
def rm_fr (m m' : dc_M) : Prop := ∀ (k : Nat) (i : Int), k ≠ 161 → k ≠ 162 → k ≠ 163 → k ≠ 164 → ¬ (k = 114 ∧ (i = 79 ∨ i = 80 ∨ i = 81)) → m' k i = m k i
theorem rm_fr.rf {m : dc_M} : rm_fr m m := fun _ _ _ _ _ _ _ => rfl
theorem rm_fr.tr {a b c : dc_M} (h : rm_fr a b) (g : rm_fr b c) : rm_fr a c := fun k i h1 h2 h3 h4 h5 => (g k i h1 h2 h3 h4 h5).trans (h k i h1 h2 h3 h4 h5)
theorem rm_fr.up {a m m1 : dc_M} {k : Nat} {i v : Int} (h : rm_fr a m) (e : m1 = dc_up m k i v) (hx : k = 161 ∨ k = 162 ∨ k = 163 ∨ k = 164 ∨ (k = 114 ∧ (i = 79 ∨ i = 80 ∨ i = 81))) : rm_fr a m1 := fun k' i' h1 h2 h3 h4 h5 => by
  rw [e]
  refine (if_neg (fun z => ?_)).trans (h k' i' h1 h2 h3 h4 h5)
  omega
def rm_L (m : dc_M) (L : List (Int × Int)) : Prop := m 114 79 = (L.length : Int) ∧ ∀ i : Nat, i < L.length → m 161 (i : Nat) = (L.getD i (0, 0)).1 ∧ m 162 (i : Nat) = (L.getD i (0, 0)).2
def rm_R (m : dc_M) (R : List (Int × Int)) : Prop := m 114 80 = (R.length : Int) ∧ ∀ i : Nat, i < R.length → m 163 (i : Nat) = (R.getD i (0, 0)).1 ∧ m 164 (i : Nat) = (R.getD i (0, 0)).2
def rm_S (m : dc_M) (s : pl_S) : Prop := pl_ok s ∧ rm_L m s.1 ∧ rm_R m s.2.1 ∧ (m 114 81 = 0 ↔ s.2.2.1 = false)
theorem rm_layL {a b : Int} {m : dc_M} {v : Int} {m' : dc_M} {L : List (Int × Int)} (h : D_257 a b m v m') (hL : rm_L m L) : rm_L m' (L ++ [(a, b)]) ∧ (∀ (k : Nat) (i : Int), k ≠ 161 → k ≠ 162 → ¬ (k = 114 ∧ i = 79) → m' k i = m k i) := by
  obtain ⟨r1, m1, e1, r2, m2, e2, m3, e3, -, em⟩ := h
  subst em
  rw [hL.1] at e1 r1
  have g1 : m1 114 79 = (L.length : Int) := by rw [e1, dc_up_k (by decide), hL.1]
  rw [g1] at e2
  have g2 : m2 114 79 = (L.length : Int) := by rw [e2, dc_up_k (by decide), g1]
  rw [g2, dc_w_eq (by unfold sv_I; omega)] at e3
  refine ⟨⟨?_, fun i hi => ?_⟩, fun k i k1 k2 k3 => ?_⟩
  · rw [e3, dc_up_s, List.length_append]; rfl
  · have hi : i < (L ++ [(a, b)]).length := hi
    rw [List.length_append] at hi
    have hi : i < L.length + 1 := hi
    rw [e3, dc_up_k (by decide), dc_up_k (by decide), e2, dc_up_k (by decide)]
    by_cases z : i < L.length
    · rw [pj_gl z, dc_up_i (by omega), e1, dc_up_i (by omega), dc_up_k (by decide)]
      exact hL.2 i z
    · have z : i = L.length := by omega
      subst z
      rw [pj_gr, dc_up_s, e1, dc_up_s]
      exact ⟨rfl, rfl⟩
  · rw [e3]
    refine (if_neg (fun z => k3 z)).trans ?_
    rw [e2, dc_up_k k2, e1, dc_up_k k1]
theorem rm_lay {a b a' b' : Int} {m : dc_M} {v : Int} {m' : dc_M} {s : pl_S} (h : D_257 a b m v m') (S : rm_S m s) (ea : a = a') (eb : b = b') : rm_S m' (pl_lay s a' b') ∧ rm_fr m m' := by
  subst ea eb
  obtain ⟨ok, hL, hR, hT⟩ := S
  obtain ⟨q1, f⟩ := rm_layL h hL
  refine ⟨⟨ok, q1, ⟨(f 114 80 (by decide) (by decide) (by decide)).trans hR.1, fun i hi => ?_⟩, ?_⟩, fun k i k1 k2 k3 k4 k5 => f k i k1 k2 (fun z => k5 ⟨z.1, Or.inl z.2⟩)⟩
  · rw [f 163 _ (by decide) (by decide) (by simp), f 164 _ (by decide) (by decide) (by simp)]; exact hR.2 i hi
  · rw [f 114 81 (by decide) (by decide) (by decide)]; exact hT
/-- the end of a relay's search -/
theorem rm_pe {why l2 : Int} {m : dc_M} {v : Int} {m' : dc_M} {s : pl_S} {l : Nat} (h : ((((l2 : Int) ≠ 4 ∧ ((((l2 : Int) ≠ (m 114 80) ∧ ((0 ≤ (l2 : Int) ∧ (l2 : Int) < 4) ∧ ((0 ≤ (l2 : Int) ∧ (l2 : Int) < 4) ∧ ∃ m_67, m_67 = dc_up m 164 l2 (dc_w ((m 164 l2) + 1)) ∧ ((0 ≤ (l2 : Int) ∧ (l2 : Int) < 4) ∧ (v = (dc_w ((dc_w ((dc_w (3 * l2)) + (m_67 164 l2))) - 1)) ∧ m' = m_67))))) ∨ (¬ ((l2 : Int) ≠ (m 114 80)) ∧ ((0 ≤ (l2 : Int) ∧ (l2 : Int) < 4) ∧ ∃ m_122, m_122 = dc_up m 163 l2 why ∧ ((0 ≤ (l2 : Int) ∧ (l2 : Int) < 4) ∧ ∃ m_143, m_143 = dc_up m_122 164 l2 0 ∧ (∃ m_166, m_166 = dc_up m_143 114 80 (dc_w ((m_143 114 80) + 1)) ∧ ((((why : Int) ≤ 20 ∧ (∃ v_209 m_214, D_257 ((dc_w ((dc_w (40 + why)) - 1))) ((dc_w (144 + l2))) m_166 v_209 m_214 ∧ ((0 ≤ (l2 : Int) ∧ (l2 : Int) < 4) ∧ ((0 ≤ (l2 : Int) ∧ (l2 : Int) < 4) ∧ ∃ m_248, m_248 = dc_up m_214 164 l2 (dc_w ((m_214 164 l2) + 1)) ∧ ((0 ≤ (l2 : Int) ∧ (l2 : Int) < 4) ∧ (v = (dc_w ((dc_w ((dc_w (3 * l2)) + (m_248 164 l2))) - 1)) ∧ m' = m_248)))))) ∨ (¬ ((why : Int) ≤ 20) ∧ (∃ v_321 m_326, D_257 ((dc_w ((dc_w ((dc_w (65 + why)) - 20)) - 1))) ((dc_w (144 + l2))) m_166 v_321 m_326 ∧ ((0 ≤ (l2 : Int) ∧ (l2 : Int) < 4) ∧ ((0 ≤ (l2 : Int) ∧ (l2 : Int) < 4) ∧ ∃ m_360, m_360 = dc_up m_326 164 l2 (dc_w ((m_326 164 l2) + 1)) ∧ ((0 ≤ (l2 : Int) ∧ (l2 : Int) < 4) ∧ (v = (dc_w ((dc_w ((dc_w (3 * l2)) + (m_360 164 l2))) - 1)) ∧ m' = m_360))))))))))))))) ∨ (¬ ((l2 : Int) ≠ 4) ∧ (∃ m_407, m_407 = dc_up m 114 81 1 ∧ (v = 0 ∧ m' = m_407)))))) (S : rm_S m s) (hw : 1 ≤ why ∧ why ≤ 23) (el : l2 = (l : Nat)) (hix : pl_ix s.2.1 why 0 = l) : rm_S m' (pl_pt s why).2 ∧ v = (pl_pt s why).1 ∧ rm_fr m m' := by
  have okp := pl_pt_ok hw S.1
  obtain ⟨ok, hL, hR, hT⟩ := S
  have r := pl_ix_r s.2.1 why 0
  rw [hR.1, el] at h
  rcases h with ⟨c4, h⟩ | ⟨c4, m9, e9, ev, em⟩
  · rcases h with ⟨c7, -, -, m3, e3, -, ev, em⟩ | ⟨c7, -, m3, e3, -, m4, e4, m5, e5, h⟩
    · have hl : l < s.2.1.length := by omega
      have q := ok.2 l hl
      obtain ⟨r1, r2⟩ := hR.2 l hl
      have at0 := pl_ix_at s.2.1 why 0 (by omega)
      rw [Nat.sub_zero, hix] at at0
      have ep : pl_pt s why = (3 * (l : Int) + (s.2.1.getD l (0, 0)).2, (s.1, s.2.1.set l (why, (s.2.1.getD l (0, 0)).2 + 1), s.2.2)) := by
        unfold pl_pt
        rw [hix, if_neg (by have := ok.1; omega), if_neg (by omega)]
      rw [r2, dc_w_eq (z := (s.2.1.getD l (0, 0)).2 + 1) (by unfold sv_I; omega)] at e3
      rw [ep] at okp ⊢
      rw [em]
      refine ⟨⟨okp, ⟨by rw [e3, dc_up_k (by decide)]; exact hL.1, fun i hi => by rw [e3, dc_up_k (by decide), dc_up_k (by decide)]; exact hL.2 i hi⟩, ⟨?_, fun i hi => ?_⟩, by rw [e3, dc_up_k (by decide)]; exact hT⟩, ?_, rm_fr.rf.up e3 (by omega)⟩
      · rw [e3, dc_up_k (by decide)]
        show _ = ((s.2.1.set l (why, (s.2.1.getD l (0, 0)).2 + 1)).length : Int)
        rw [List.length_set]; exact hR.1
      · have hi : i < (s.2.1.set l (why, (s.2.1.getD l (0, 0)).2 + 1)).length := hi
        rw [List.length_set] at hi
        obtain ⟨x1, x2⟩ := hR.2 i hi
        show m3 163 (i : Nat) = ((s.2.1.set l (why, (s.2.1.getD l (0, 0)).2 + 1)).getD i (0, 0)).1 ∧ m3 164 (i : Nat) = ((s.2.1.set l (why, (s.2.1.getD l (0, 0)).2 + 1)).getD i (0, 0)).2
        rw [pl_gs hi, e3, dc_up_k (by decide)]
        by_cases ei : l = i
        · subst ei
          rw [if_pos rfl, dc_up_s]
          exact ⟨x1.trans at0.1, rfl⟩
        · rw [if_neg ei, dc_up_i (by omega)]
          exact ⟨x1, x2⟩
      · rw [ev, e3, dc_up_s, dc_w_eq (z := 3 * (l : Int)) (by unfold sv_I; have := ok.1; omega), dc_w_eq (z := 3 * (l : Int) + ((s.2.1.getD l (0, 0)).2 + 1)) (by unfold sv_I; have := ok.1; omega), dc_w_eq (by unfold sv_I; have := ok.1; omega)]
        show 3 * (l : Int) + ((s.2.1.getD l (0, 0)).2 + 1) - 1 = 3 * (l : Int) + _
        omega
    · have hl : l = s.2.1.length := by clear h; omega
      have l4 : l < 4 := by have := ok.1; clear h; omega
      have ep : pl_pt s why = ((3 * (s.2.1.length : Int)), (s.1 ++ [(pl_hub why, 144 + (s.2.1.length : Int))], s.2.1 ++ [(why, 1)], s.2.2)) := by
        unfold pl_pt
        rw [hix, if_neg (by clear h; omega), if_pos hl]
      have g5 : m4 114 80 = (s.2.1.length : Int) := by rw [e4, dc_up_k (by decide), e3, dc_up_k (by decide)]; exact hR.1
      rw [g5, dc_w_eq (z := (s.2.1.length : Int) + 1) (by unfold sv_I; clear h; omega)] at e5
      have fr5 : rm_fr m m5 := ((rm_fr.rf.up e3 (by omega)).up e4 (by omega)).up e5 (by omega)
      have L5 : rm_L m5 s.1 := ⟨by rw [e5, dc_up_i (by decide), e4, dc_up_k (by decide), e3, dc_up_k (by decide)]; exact hL.1, fun i hi => by rw [e5, dc_up_k (by decide), dc_up_k (by decide), e4, dc_up_k (by decide), dc_up_k (by decide), e3, dc_up_k (by decide), dc_up_k (by decide)]; exact hL.2 i hi⟩
      have fin : ∀ a b : Int, a = pl_hub why → b = 144 + (s.2.1.length : Int) → (∃ v6 m6, D_257 a b m5 v6 m6 ∧ ∃ m7, m7 = dc_up m6 164 ((l : Nat) : Int) (dc_w (m6 164 ((l : Nat) : Int) + 1)) ∧ (v = dc_w (dc_w (dc_w (3 * ((l : Nat) : Int)) + m7 164 ((l : Nat) : Int)) - 1) ∧ m' = m7)) → rm_S m' (pl_pt s why).2 ∧ v = (pl_pt s why).1 ∧ rm_fr m m' := by
        intro a b ea eb ⟨v6, m6, h6, m7, e7, ev, em⟩
        obtain ⟨L6, f6⟩ := rm_layL h6 L5
        rw [ea, eb, hl.symm] at L6
        have z6 : m6 164 ((l : Nat) : Int) = 0 := by rw [f6 164 _ (by decide) (by decide) (by simp), e5, dc_up_k (by decide), e4, dc_up_s]
        rw [z6, dc_w_eq (z := (0 : Int) + 1) (by unfold sv_I; decide)] at e7
        rw [ep] at okp ⊢
        rw [em]
        have fr6 : rm_fr m5 m6 := fun k i k1 k2 k3 k4 k5 => f6 k i k1 k2 (fun z => k5 ⟨z.1, Or.inl z.2⟩)
        refine ⟨⟨okp, ?_, ⟨?_, fun i hi => ?_⟩, ?_⟩, ?_, (fr5.tr fr6).up e7 (by omega)⟩
        · rw [← hl]
          exact ⟨by rw [e7, dc_up_k (by decide)]; exact L6.1, fun i hi => by rw [e7, dc_up_k (by decide), dc_up_k (by decide)]; exact L6.2 i hi⟩
        · rw [e7, dc_up_k (by decide), f6 114 80 (by decide) (by decide) (by decide), e5, dc_up_s]
          show _ = ((s.2.1 ++ [(why, (1 : Int))]).length : Int)
          rw [List.length_append]; rfl
        · have hi : i < (s.2.1 ++ [(why, (1 : Int))]).length := hi
          rw [List.length_append] at hi
          have hi : i < s.2.1.length + 1 := hi
          show m7 163 (i : Nat) = ((s.2.1 ++ [(why, (1 : Int))]).getD i (0, 0)).1 ∧ m7 164 (i : Nat) = ((s.2.1 ++ [(why, (1 : Int))]).getD i (0, 0)).2
          have a3 : m7 163 (i : Nat) = m3 163 (i : Nat) := by rw [e7, dc_up_k (by decide), f6 163 _ (by decide) (by decide) (by simp), e5, dc_up_k (by decide), e4, dc_up_k (by decide)]
          by_cases z : i < s.2.1.length
          · obtain ⟨x1, x2⟩ := hR.2 i z
            rw [pj_gl z, a3, e3, dc_up_i (by omega), e7, dc_up_i (by omega), f6 164 _ (by decide) (by decide) (by simp), e5, dc_up_k (by decide), e4, dc_up_i (by omega), e3, dc_up_k (by decide)]
            exact ⟨x1, x2⟩
          · have z : i = l := by omega
            rw [show (s.2.1 ++ [(why, (1 : Int))]).getD i (0, 0) = (why, 1) by rw [z, hl, pj_gr], a3, e3, z, dc_up_s, e7, dc_up_s]
            exact ⟨rfl, rfl⟩
        · rw [e7, dc_up_k (by decide), f6 114 81 (by decide) (by decide) (by decide), e5, dc_up_i (by decide), e4, dc_up_k (by decide), e3, dc_up_k (by decide)]; exact hT
        · rw [ev, e7, dc_up_s, dc_w_eq (z := 3 * (l : Int)) (by unfold sv_I; have := ok.1; omega), dc_w_eq (z := 3 * (l : Int) + (0 + 1)) (by unfold sv_I; have := ok.1; omega), dc_w_eq (by unfold sv_I; have := ok.1; omega)]
          show 3 * (l : Int) + 1 - 1 = 3 * (s.2.1.length : Int)
          omega
      rcases h with ⟨c8, v6, m6, h6, -, -, m7, e7, -, ev, em⟩ | ⟨c8, v6, m6, h6, -, -, m7, e7, -, ev, em⟩
      · exact fin _ _ (by unfold pl_hub; rw [if_pos c8, dc_w_eq (z := 40 + why) (by unfold sv_I; omega), dc_w_eq (by unfold sv_I; omega)]) (by rw [dc_w_eq (by unfold sv_I; omega), hl]) ⟨v6, m6, h6, m7, e7, ev, em⟩
      · exact fin _ _ (by unfold pl_hub; rw [if_neg c8, dc_w_eq (z := 65 + why) (by unfold sv_I; omega), dc_w_eq (z := 65 + why - 20) (by unfold sv_I; omega), dc_w_eq (by unfold sv_I; omega)]) (by rw [dc_w_eq (by unfold sv_I; omega), hl]) ⟨v6, m6, h6, m7, e7, ev, em⟩
  · have ep : pl_pt s why = (0, (s.1, s.2.1, true, s.2.2.2)) := by
      unfold pl_pt
      rw [hix, if_pos (by omega)]
    rw [ep] at okp ⊢
    rw [em]
    refine ⟨⟨okp, ⟨by rw [e9, dc_up_i (by decide)]; exact hL.1, fun i hi => by rw [e9, dc_up_k (by decide), dc_up_k (by decide)]; exact hL.2 i hi⟩, ⟨by rw [e9, dc_up_i (by decide)]; exact hR.1, fun i hi => by rw [e9, dc_up_k (by decide), dc_up_k (by decide)]; exact hR.2 i hi⟩, ?_⟩, ev, rm_fr.rf.up e9 (by omega)⟩
    rw [e9, dc_up_s]
    exact ⟨fun z => absurd z (by decide), fun z => by cases z⟩
theorem rm_point {why : Int} {m : dc_M} {v : Int} {m' : dc_M} {s : pl_S} (h : D_258 why m v m') (S : rm_S m s) (hw : 1 ≤ why ∧ why ≤ 23) : rm_S m' (pl_pt s why).2 ∧ v = (pl_pt s why).1 ∧ rm_fr m m' := by
  have R := S.2.2.1
  obtain ⟨c, h⟩ := h
  have key : ∀ (c : Nat) (l : Nat), LM_258 why c 2 (l : Nat) m v m' → l ≤ s.2.1.length → pl_ix (s.2.1.drop l) why l = pl_ix s.2.1 why 0 → rm_S m' (pl_pt s why).2 ∧ v = (pl_pt s why).1 ∧ rm_fr m m' := by
    intro c
    induction c with
    | zero => intro l h; exact h.elim
    | succ c ih =>
      intro l h hl hix
      replace h := lm_258_2.mp h
      rcases h with ⟨c1, h⟩ | ⟨c1, -, h⟩
      · rw [R.1] at c1
        exact rm_pe h S hw rfl (by rw [← hix, List.drop_eq_nil_of_le (by omega)]; rfl)
      · rw [R.1] at c1
        have hlt : l < s.2.1.length := by clear h; omega
        obtain ⟨r1, r2⟩ := R.2 l hlt
        have l4 := S.1.1
        have nxt : LM_258 why c 2 (dc_w ((l : Nat) + 1)) m v m' → ¬ ((s.2.1.getD l (0, 0)).1 = why ∧ (s.2.1.getD l (0, 0)).2 ≠ 3) → rm_S m' (pl_pt s why).2 ∧ v = (pl_pt s why).1 ∧ rm_fr m m' := by
          intro h hn
          rw [dc_w_eq (z := ((l : Nat) : Int) + 1) (by unfold sv_I; clear h; omega), show ((l : Nat) : Int) + 1 = ((l + 1 : Nat) : Int) from rfl] at h
          exact ih (l + 1) h (by clear h; omega) (by rw [← hix, pl_ix_s hlt, if_neg hn])
        rcases h with ⟨c2, h⟩ | ⟨c2, -, h⟩
        · exact nxt h (fun z => c2 (r1.trans z.1))
        · have ew : (s.2.1.getD l (0, 0)).1 = why := r1.symm.trans (Decidable.not_not.mp c2)
          rcases h with ⟨c3, h⟩ | ⟨c3, h⟩
          · exact rm_pe h S hw rfl (by rw [← hix, pl_ix_s hlt, if_pos ⟨ew, fun z => c3 (r2.trans z)⟩])
          · exact nxt h (fun z => c3 (fun y => z.2 (r2.symm.trans y)))
  exact key c 0 h (Nat.zero_le _) rfl
theorem r0_J.fr {m m' : dc_M} {J : pj_J} (hJ : r0_J m J) (f : rm_fr m m') : r0_J m' J := by
  obtain ⟨a1, a2, a3, a4⟩ := hJ
  have g : ∀ (k : Nat) (i : Int), 152 ≤ k → k ≤ 159 → m' k i = m k i := fun k i h1 h2 => f k i (by omega) (by omega) (by omega) (by omega) (by omega)
  refine ⟨fun i hi => ?_, fun o p1 p3 => (g 154 _ (by decide) (by decide)).trans (a2 o p1 p3), (g 155 0 (by decide) (by decide)).trans a3, fun i hi => ?_⟩
  · rw [g 152 _ (by decide) (by decide), g 153 _ (by decide) (by decide)]; exact a1 i hi
  · rw [g 156 _ (by decide) (by decide), g 157 _ (by decide) (by decide), g 158 _ (by decide) (by decide), g 159 _ (by decide) (by decide)]; exact a4 i hi
theorem rm_ov {x0 x1 o : Int} {m : dc_M} {v : Int} {m' : dc_M} {s : pl_S} (h : (((((m 159 x0) : Int) ≠ 0 ∧ ((0 ≤ (x0 : Int) ∧ (x0 : Int) < 16) ∧ (∃ v_47 m_52, D_258 ((m 159 x0)) m v_47 m_52 ∧ (∃ v_85 m_90, D_257 60 ((dc_w (181 + v_47))) m_52 v_85 m_90 ∧ (∃ v_119 m_124, D_257 ((dc_w (193 + v_47))) ((dc_w (120 + x1))) m_90 v_119 m_124 ∧ (∃ v_153 m_158, D_257 ((dc_w (205 + v_47))) ((dc_w (124 + x1))) m_124 v_153 m_158 ∧ (v = 0 ∧ m' = m_158))))))) ∨ (¬ (((m 159 x0) : Int) ≠ 0) ∧ (∃ v_182 m_187, D_257 60 ((dc_w (120 + x1))) m v_182 m_187 ∧ (v = 0 ∧ m' = m_187)))))) (S : rm_S m s) (eo : m 159 x0 = o) (ho : 0 ≤ o ∧ o ≤ 20) (hv : 0 ≤ x1 ∧ x1 ≤ 8) : rm_S m' (pl_ov o x1 s) ∧ rm_fr m m' := by
  rw [eo] at h
  unfold pl_ov
  rcases h with ⟨c1, -, v1, m1, h1, v2, m2, h2, v3, m3, h3, v4, m4, h4, -, em⟩ | ⟨c1, v1, m1, h1, -, em⟩
  · rw [if_neg c1]
    obtain ⟨S1, q1, F1⟩ := rm_point h1 S (by clear h1 h2 h3 h4; omega)
    have r := pl_pt_r (why := o) S.1
    subst q1
    obtain ⟨S2, F2⟩ := rm_lay h2 S1 rfl (dc_w_eq (by unfold sv_I; clear h1 h2 h3 h4; omega))
    obtain ⟨S3, F3⟩ := rm_lay h3 S2 (dc_w_eq (by unfold sv_I; clear h1 h2 h3 h4; omega)) (dc_w_eq (by unfold sv_I; clear h1 h2 h3 h4; omega))
    obtain ⟨S4, F4⟩ := rm_lay h4 S3 (dc_w_eq (by unfold sv_I; clear h1 h2 h3 h4; omega)) (dc_w_eq (by unfold sv_I; clear h1 h2 h3 h4; omega))
    rw [em]
    exact ⟨S4, ((F1.tr F2).tr F3).tr F4⟩
  · rw [if_pos (by clear h1; omega), em]
    exact rm_lay h1 S rfl (dc_w_eq (by unfold sv_I; clear h1; omega))
theorem rm_add {J : pj_J} (ok : pj_ok J) {x1 : Int} {i : Nat} {m : dc_M} {v : Int} {m' : dc_M} {s : pl_S} (h : D_260 (i : Nat) x1 m v m') (S : rm_S m s) (hJ : r0_J m J) (hi : i < J.2.2.length) (hv : 0 ≤ x1 ∧ x1 ≤ 8) : rm_S m' (pl_add J.1 (J.2.2.getD i (0, 0, 0, 0)) x1 s) ∧ rm_fr m m' := by
  obtain ⟨w1, w2, w3, w4⟩ := hJ.2.2.2 i hi
  obtain ⟨k1', -, -, k4⟩ := ok.2.2.2.2 _ (pj_gm (d := (0, 0, 0, 0)) hi)
  have l8 := ok.2.2.2.1
  have l6 := ok.1
  unfold pl_add pl_fd
  obtain ⟨-, h⟩ := h
  rw [w1] at h
  rcases h with ⟨c1, c, h⟩ | ⟨c1, v0, m0, h0, c, h⟩
  · have hf : 0 ≤ (J.2.2.getD i (0, 0, 0, 0)).1 ∧ (J.2.2.getD i (0, 0, 0, 0)).1 < J.1.length := by clear h; omega
    rw [if_neg (by clear h; omega)]
    obtain ⟨f, ef⟩ : ∃ f : Nat, (J.2.2.getD i (0, 0, 0, 0)).1 = f := ⟨(J.2.2.getD i (0, 0, 0, 0)).1.toNat, by clear h; omega⟩
    rw [ef] at h hf ⊢
    rw [Int.toNat_natCast]
    have hfl : f < J.1.length := by clear h; omega
    obtain ⟨-, g1, g2, g3, g5⟩ := ok.2.1 _ (pj_gm (d := ([], 0, 0)) hfl)
    have key : ∀ (c n : Nat) (l4 : Int) (m : dc_M) (s : pl_S), LM_260 (i : Nat) x1 c 27 (f : Nat) l4 m v m' → rm_S m s → r0_J m J → l4 + n = (J.1.getD f ([], 0, 0)).2.2 - (J.1.getD f ([], 0, 0)).2.1 + 1 → 0 ≤ l4 → rm_S m' (pl_ov (J.2.2.getD i (0, 0, 0, 0)).2.2.2 x1 (pl_dg (J.1.getD f ([], 0, 0)).2.2 x1 n l4 s)) ∧ rm_fr m m' := by
      intro c
      induction c with
      | zero => intro n l4 m s h; exact h.elim
      | succ c ih =>
        intro n l4 m s h S hJ hn h40
        obtain ⟨f2, f3⟩ := hJ.1 f hfl
        replace h := lm_260_27.mp h
        rcases h with ⟨c1, -⟩ | ⟨c1, -, -, h⟩
        · exfalso; omega
        · rw [f2, f3, dc_w_eq (z := (J.1.getD f ([], 0, 0)).2.2 - (J.1.getD f ([], 0, 0)).2.1) (by unfold sv_I; clear h; omega)] at h
          rcases h with ⟨c2, -, h⟩ | ⟨c2, -, v1, m1, h1, h⟩
          · have : n = 0 := by clear h; omega
            subst this
            exact rm_ov h S (hJ.2.2.2 i hi).2.2.2 k4 hv
          · obtain ⟨n, rfl⟩ : ∃ q, n = q + 1 := ⟨n - 1, by clear h h1; omega⟩
            rw [dc_w_eq (z := l4 + 1) (by unfold sv_I; clear h h1; omega)] at h
            obtain ⟨S1, F1⟩ := rm_lay (a' := (J.1.getD f ([], 0, 0)).2.2 - l4 - 1) (b' := 96 + 6 * x1 + l4) h1 S (by
              rw [dc_w_eq (z := 0 + (J.1.getD f ([], 0, 0)).2.2) (by unfold sv_I; clear h h1; omega), dc_w_eq (z := 0 + (J.1.getD f ([], 0, 0)).2.2 - l4) (by unfold sv_I; clear h h1; omega), dc_w_eq (by unfold sv_I; clear h h1; omega)]; clear h h1; omega) (by
              rw [dc_w_eq (z := 6 * x1) (by unfold sv_I; clear h h1; omega), dc_w_eq (z := 96 + 6 * x1) (by unfold sv_I; clear h h1; omega), dc_w_eq (by unfold sv_I; clear h h1; omega)])
            obtain ⟨y1, y2⟩ := ih n (l4 + 1) m1 _ h S1 (hJ.fr F1) (by clear h h1; omega) (by clear h h1; omega)
            exact ⟨y1, F1.tr y2⟩
    exact key c _ 0 m s h S hJ (by clear h; omega) (by decide)
  · have e1 : (J.2.2.getD i (0, 0, 0, 0)).1 = -1 := by clear h h0; omega
    rw [if_pos (by rw [e1]; decide)]
    obtain ⟨S0, F0⟩ := rm_lay (a' := 60) (b' := 96 + 6 * x1) h0 S rfl (by rw [dc_w_eq (z := 6 * x1) (by unfold sv_I; clear h h0; omega), dc_w_eq (by unfold sv_I; clear h h0; omega)])
    have J0 := hJ.fr F0
    rw [e1] at h
    cases c with
    | zero => exact h.elim
    | succ c =>
      replace h := lm_260_27.mp h
      rcases h with ⟨-, -, h⟩ | ⟨c1, -⟩
      · obtain ⟨y1, y2⟩ := rm_ov h S0 (J0.2.2.2 i hi).2.2.2 k4 hv
        exact ⟨y1, F0.tr y2⟩
      · exact absurd (by decide) c1
/-! the counting of a set -/
theorem rm_cnt0 : ∀ v : Nat, v < 256 → v = 0 ∨ (Nat.land v (ae_lsub v 1) < 256 ∧ pl_cnt (Nat.land v (ae_lsub v 1)) + 1 = pl_cnt v) := by decide +kernel
theorem rm_cntb : ∀ v : Nat, v < 256 → 0 ≤ pl_cnt v ∧ pl_cnt v ≤ 8 := by decide +kernel
theorem rm_cnt {y0 : Nat} : ∀ (c : Nat) (l2 : Int) (l3 : Nat) (m : dc_M) (v : Int) (m' : dc_M), LM_232 y0 c 4 l2 l3 m v m' → l3 < 256 → 0 ≤ l2 → l2 ≤ 1000 - pl_cnt l3 → v = l2 + pl_cnt l3 ∧ m' = m := by
  intro c
  induction c with
  | zero => intro l2 l3 m v m' h; exact h.elim
  | succ c ih =>
    intro l2 l3 m v m' h h3 h20 h2
    have z := rz_lz (Y := l3) (K := 0) (by omega) (by decide)
    have b := rm_cntb l3 h3
    replace h := lm_232_4.mp h
    rcases h with ⟨c1, ev, em⟩ | ⟨c1, h⟩
    · have e := z.mp c1
      subst e
      exact ⟨by rw [ev, show pl_cnt 0 = 0 by decide +kernel]; omega, em⟩
    · rcases rm_cnt0 l3 h3 with e | ⟨q1, q2⟩
      · exact absurd (z.mpr e) c1
      · rw [dc_w_eq (z := l2 + 1) (by unfold sv_I; clear h z c1; omega)] at h
        obtain ⟨y1, y2⟩ := ih (l2 + 1) _ m v m' h q1 (by clear h z c1; omega) (by clear h z c1; omega)
        exact ⟨by clear h z c1; omega, y2⟩
theorem rm_i2l : ∀ set : Nat, set < 256 → ae_i2l (sv_u (set : Nat)) = set := by decide +kernel
theorem rm_bit : ∀ set : Nat, set < 256 → ∀ k : Nat, k < 8 → sv_g (sv_u (sv_g (ae_shr (sv_u (set : Nat)) (sv_u (k : Nat)))) &&& sv_u 1) = (if pl_bit set k = true then 1 else 0) := by decide +kernel
/-! the whole -/
/-- what make0 answers, and leaves -/
def rm_Q (J : pj_J) (set : Nat) (m : dc_M) (v : Int) (m' : dc_M) : Prop := ((v = 1 ∧ pl_fit J set ∧ rm_L m' (pl_mk J set).1) ∨ (v = 0 ∧ ¬ pl_fit J set)) ∧ rm_fr m m'
theorem rm_Q.tr {J : pj_J} {set : Nat} {a b : dc_M} {v : Int} {m' : dc_M} (q : rm_Q J set b v m') (f : rm_fr a b) : rm_Q J set a v m' := ⟨q.1, f.tr q.2⟩
/-- from the printing on -/
theorem rm_print {J : pj_J} (ok : pj_ok J) {set : Nat} (hset : set < 256) (hc : pl_cnt set ≤ 4) (hd : pl_ds set J.2.2 0 ≤ 12) : ∀ (c : Nat), (∀ (i : Nat) (l2 l3 l4 l7 : Int) (m : dc_M) (v : Int) (m' : dc_M) (s : pl_S), LM_259 (set : Nat) c 217 l2 l3 l4 s.2.2.2 (i : Nat) l7 m v m' → rm_S m s → r0_J m J → i ≤ J.2.2.length → 0 ≤ l4 → l4 ≤ i → 0 ≤ s.2.2.2 → s.2.2.2 ≤ 6 * i → pl_lp set (J.2.2.drop i) i l4 s = pl_mk J set → rm_Q J set m v m') ∧ (∀ (i n : Nat) (l2 l3 l4 : Int) (m : dc_M) (v : Int) (m' : dc_M) (s : pl_S), LM_259 (set : Nat) c 251 l2 l3 l4 s.2.2.2 (i : Nat) ((n : Int) - 1) m v m' → rm_S m s → r0_J m J → i < J.2.2.length → 0 ≤ l4 → l4 ≤ i → n ≤ 6 → 0 ≤ s.2.2.2 → s.2.2.2 + n ≤ 6 * i + 6 → pl_lp set (J.2.2.drop (i + 1)) (i + 1) (l4 + 1) (pl_lay (pl_pr (J.2.2.getD i (0, 0, 0, 0)).2.2.1 l4 n s) (65 + (J.2.2.getD i (0, 0, 0, 0)).2.2.1 - 1) (128 + l4)) = pl_mk J set → rm_Q J set m v m') := by
  have l8 := ok.2.2.2.1
  intro c
  induction c with
  | zero => exact ⟨fun i l2 l3 l4 l7 m v m' s h => h.elim, fun i n l2 l3 l4 m v m' s h => h.elim⟩
  | succ c ih =>
    obtain ⟨ih1, ih2⟩ := ih
    refine ⟨fun i l2 l3 l4 l7 m v m' s h S hJ hi h40 h4i b0 b6 fin => ?_, fun i n l2 l3 l4 m v m' s h S hJ hi h40 h4i hn b0 b6 fin => ?_⟩
    · replace h := lm_259_217.mp h
      obtain ⟨-, h⟩ := h
      rw [hJ.2.2.1] at h
      rcases h with ⟨c1, h⟩ | ⟨c1, h⟩
      · rw [List.drop_eq_nil_of_le (by clear h; omega)] at fin
        have fin : s = pl_mk J set := fin
        rw [S.2.1.1] at h
        have br : (pl_mk J set).2.2.2 ≤ 12 := by rw [pl_mk_bar ok]; exact hd
        rcases h with ⟨c2, ev, em⟩ | ⟨c2, h⟩
        · rw [em]
          refine ⟨Or.inr ⟨ev, fun z => z.2 (Or.inl ?_)⟩, rm_fr.rf⟩
          rw [← fin]
          cases e : s.2.2.1 with
          | true => rfl
          | false => exact absurd (S.2.2.2.mpr e) c2
        · rcases h with ⟨c3, ev, em⟩ | ⟨c3, ev, em⟩
          · rw [em]
            refine ⟨Or.inr ⟨ev, fun z => z.2 (Or.inr (Or.inl ?_))⟩, rm_fr.rf⟩
            rw [← fin]; omega
          · rw [em]
            refine ⟨Or.inl ⟨ev, ⟨hc, fun z => ?_⟩, by rw [← fin]; exact S.2.1⟩, rm_fr.rf⟩
            rw [← fin] at z br
            rcases z with z | z | z
            · have := S.2.2.2.mp (Decidable.not_not.mp c2)
              rw [z] at this; cases this
            · omega
            · omega
      · have hl : i < J.2.2.length := by clear h; omega
        have w1 : dc_w (((i : Nat) : Int) + 1) = ((i + 1 : Nat) : Int) := by rw [dc_w_eq (by unfold sv_I; clear h; omega)]; rfl
        have bit := rm_bit set hset i (by clear h; omega)
        rw [bit, w1] at h
        rw [pj_drop (0, 0, 0, 0) hl] at fin
        have fin : (if pl_bit set i = true then pl_lp set (J.2.2.drop (i + 1)) (i + 1) (l4 + 1) (pl_prt (J.2.2.getD i (0, 0, 0, 0)) l4 s) else pl_lp set (J.2.2.drop (i + 1)) (i + 1) l4 s) = pl_mk J set := fin
        obtain ⟨-, d1, -, -⟩ := ok.2.2.2.2 _ (pj_gm (d := (0, 0, 0, 0)) hl)
        rcases h with ⟨c2, -, h⟩ | ⟨c2, h⟩
        · have yb : pl_bit set i = true := by
            cases e : pl_bit set i with
            | true => rfl
            | false => rw [e] at c2; exact absurd rfl c2
          rw [if_pos yb] at fin
          rw [(hJ.2.2.2 i hl).2.1, dc_w_eq (z := (J.2.2.getD i (0, 0, 0, 0)).2.1 - 1) (by unfold sv_I; clear h; omega), show (J.2.2.getD i (0, 0, 0, 0)).2.1 - 1 = (((J.2.2.getD i (0, 0, 0, 0)).2.1.toNat : Nat) : Int) - 1 by clear h; omega] at h
          exact ih2 i _ l2 l3 l4 m v m' s h S hJ hl h40 h4i (by clear h; omega) b0 (by clear h; omega) fin
        · have nb : ¬ pl_bit set i = true := fun e => c2 (by rw [if_pos e]; decide)
          rw [if_neg nb] at fin
          exact ih1 (i + 1) l2 l3 l4 0 m v m' s h S hJ (by clear h; omega) h40 (by clear h; omega) b0 (by clear h; omega) fin
    · obtain ⟨-, -, d3, -⟩ := ok.2.2.2.2 _ (pj_gm (d := (0, 0, 0, 0)) hi)
      have e3 := (hJ.2.2.2 i hi).2.2.1
      replace h := lm_259_251.mp h
      rw [e3] at h
      rcases h with ⟨c1, -, v1, m1, h1, h⟩ | ⟨c1, -, v1, m1, h1, v2, m2, h2, v3, m3, h3, h⟩
      · have : n = 0 := by clear h h1; omega
        subst this
        have w1 : dc_w (((i : Nat) : Int) + 1) = ((i + 1 : Nat) : Int) := by rw [dc_w_eq (by unfold sv_I; clear h h1; omega)]; rfl
        rw [w1, dc_w_eq (z := l4 + 1) (by unfold sv_I; clear h h1; omega)] at h
        obtain ⟨S1, F1⟩ := rm_lay (a' := 65 + (J.2.2.getD i (0, 0, 0, 0)).2.2.1 - 1) (b' := 128 + l4) h1 S (by rw [dc_w_eq (z := 65 + (J.2.2.getD i (0, 0, 0, 0)).2.2.1) (by unfold sv_I; clear h h1; omega), dc_w_eq (by unfold sv_I; clear h h1; omega)]) (dc_w_eq (by unfold sv_I; clear h h1; omega))
        exact (ih1 (i + 1) l2 l3 (l4 + 1) 0 m1 v m' (pl_lay s (65 + (J.2.2.getD i (0, 0, 0, 0)).2.2.1 - 1) (128 + l4)) h S1 (hJ.fr F1) (by clear h h1; omega) (by clear h h1; omega) (by clear h h1; omega) b0 (by show s.2.2.2 ≤ 6 * ((i + 1 : Nat) : Int); clear h h1; omega) fin).tr F1
      · obtain ⟨n, rfl⟩ : ∃ q, n = q + 1 := ⟨n - 1, by clear h h1 h2 h3; omega⟩
        rw [dc_w_eq (z := 20 + (J.2.2.getD i (0, 0, 0, 0)).2.2.1) (by unfold sv_I; clear h h1 h2 h3; omega)] at h1
        obtain ⟨S1, q1, F1⟩ := rm_point h1 S (by clear h h1 h2 h3; omega)
        have r := pl_pt_r (why := 20 + (J.2.2.getD i (0, 0, 0, 0)).2.2.1) S.1
        subst q1
        obtain ⟨S2, F2⟩ := rm_lay (a' := 68 + 6 * l4 + (n : Int)) (b' := 181 + (pl_pt s (20 + (J.2.2.getD i (0, 0, 0, 0)).2.2.1)).1) h2 S1 (by rw [dc_w_eq (z := 6 * l4) (by unfold sv_I; clear h h1 h2 h3; omega), dc_w_eq (z := 68 + 6 * l4) (by unfold sv_I; clear h h1 h2 h3; omega), dc_w_eq (by unfold sv_I; clear h h1 h2 h3; omega)]; clear h h1 h2 h3; omega) (dc_w_eq (by unfold sv_I; clear h h1 h2 h3; omega))
        obtain ⟨S3, F3⟩ := rm_lay (a' := 205 + (pl_pt s (20 + (J.2.2.getD i (0, 0, 0, 0)).2.2.1)).1) (b' := 132 + s.2.2.2) h3 S2 (dc_w_eq (by unfold sv_I; clear h h1 h2 h3; omega)) (dc_w_eq (by unfold sv_I; clear h h1 h2 h3; omega))
        have S4 : rm_S m3 (pl_p1 (J.2.2.getD i (0, 0, 0, 0)).2.2.1 l4 n s) := S3
        have eb : (pl_p1 (J.2.2.getD i (0, 0, 0, 0)).2.2.1 l4 n s).2.2.2 = s.2.2.2 + 1 := by
          show (pl_pt s (20 + (J.2.2.getD i (0, 0, 0, 0)).2.2.1)).2.2.2.2 + 1 = _
          rw [pl_pt_bar]
        rw [dc_w_eq (z := s.2.2.2 + 1) (by unfold sv_I; clear h h1 h2 h3; omega), ← eb, dc_w_eq (z := ((n + 1 : Nat) : Int) - 1 + (-1)) (by unfold sv_I; clear h h1 h2 h3; omega), show ((n + 1 : Nat) : Int) - 1 + (-1) = (n : Int) - 1 by clear h h1 h2 h3; omega] at h
        have F := (F1.tr F2).tr F3
        exact (ih2 i n l2 l3 l4 m3 v m' _ h S4 (hJ.fr F) hi h40 h4i (by clear h h1 h2 h3; omega) (by rw [eb]; clear h h1 h2 h3; omega) (by rw [eb]; clear h h1 h2 h3; omega) fin).tr F
theorem rm_adds {J : pj_J} (ok : pj_ok J) {set : Nat} (hset : set < 256) (hc : pl_cnt set ≤ 4) (hd : pl_ds set J.2.2 0 ≤ 12) : ∀ (c i : Nat) (l2 l3 l4 l6 l7 : Int) (m : dc_M) (v : Int) (m' : dc_M) (s : pl_S), LM_259 (set : Nat) c 168 l2 l3 l4 (i : Nat) l6 l7 m v m' → rm_S m s → r0_J m J → i ≤ J.2.2.length → 0 ≤ l4 → l4 ≤ i → s.2.2.2 = 0 → pl_lp set J.2.2 0 0 (pl_la J.1 set (J.2.2.drop i) i l4 s) = pl_mk J set → rm_Q J set m v m' := by
  have l8 := ok.2.2.2.1
  intro c
  induction c with
  | zero => intro i l2 l3 l4 l6 l7 m v m' s h; exact h.elim
  | succ c ih =>
    intro i l2 l3 l4 l6 l7 m v m' s h S hJ hi h40 h4i hb fin
    replace h := lm_259_168.mp h
    obtain ⟨-, h⟩ := h
    rw [hJ.2.2.1] at h
    rcases h with ⟨c1, h⟩ | ⟨c1, h⟩
    · rw [List.drop_eq_nil_of_le (by clear h; omega)] at fin
      exact (rm_print ok hset hc hd c).1 0 l2 l3 0 0 m v m' s (by rw [hb]; exact h) S hJ (Nat.zero_le _) (by decide) (by decide) (by rw [hb]; decide) (by rw [hb]; decide) fin
    · have hl : i < J.2.2.length := by clear h; omega
      have w1 : dc_w (((i : Nat) : Int) + 1) = ((i + 1 : Nat) : Int) := by rw [dc_w_eq (by unfold sv_I; clear h; omega)]; rfl
      have bit := rm_bit set hset i (by clear h; omega)
      rw [bit, w1, dc_w_eq (z := l4 + 1) (by unfold sv_I; clear h; omega)] at h
      rw [pj_drop (0, 0, 0, 0) hl] at fin
      have fin : pl_lp set J.2.2 0 0 (if pl_bit set i = true then pl_la J.1 set (J.2.2.drop (i + 1)) (i + 1) (l4 + 1) (pl_add J.1 (J.2.2.getD i (0, 0, 0, 0)) l4 s) else pl_la J.1 set (J.2.2.drop (i + 1)) (i + 1) l4 s) = pl_mk J set := fin
      rcases h with ⟨c2, v1, m1, h1, h⟩ | ⟨c2, h⟩
      · have yb : pl_bit set i = true := by
          cases e : pl_bit set i with
          | true => rfl
          | false => rw [e] at c2; exact absurd rfl c2
        rw [if_pos yb] at fin
        obtain ⟨S1, F1⟩ := rm_add ok h1 S hJ hl (by clear h h1; omega)
        exact (ih (i + 1) l2 l3 (l4 + 1) 0 0 m1 v m' _ h S1 (hJ.fr F1) (by clear h h1; omega) (by clear h h1; omega) (by clear h h1; omega) (by rw [pl_add_bar]; exact hb) fin).tr F1
      · have nb : ¬ pl_bit set i = true := fun e => c2 (by rw [if_pos e]; decide)
        rw [if_neg nb] at fin
        exact ih (i + 1) l2 l3 l4 0 0 m v m' s h S hJ (by clear h; omega) h40 (by clear h; omega) hb fin
theorem rm_brk {J : pj_J} (ok : pj_ok J) {set : Nat} (hset : set < 256) (hc : pl_cnt set ≤ 4) (hd : pl_ds set J.2.2 0 ≤ 12) : ∀ (c n : Nat) (l2 j o l5 l6 l7 : Int) (m : dc_M) (v : Int) (m' : dc_M) (s : pl_S), LM_259 (set : Nat) c 79 l2 j (o - 1) l5 l6 l7 m v m' → rm_S m s → r0_J m J → o + n = 4 → 1 ≤ o → 0 ≤ j → j < o → s.2.2.2 = 0 → pl_lp set J.2.2 0 0 (pl_la J.1 set J.2.2 0 0 (pl_bk J.2.1 n o (s, j))) = pl_mk J set → rm_Q J set m v m' := by
  intro c
  induction c with
  | zero => intro n l2 j o l5 l6 l7 m v m' s h; exact h.elim
  | succ c ih =>
    intro n l2 j o l5 l6 l7 m v m' s h S hJ hn ho hj0 hj hb fin
    replace h := lm_259_79.mp h
    rcases h with ⟨c1, h⟩ | ⟨c1, -, h⟩
    · have : n = 0 := by clear h; omega
      subst this
      exact rm_adds ok hset hc hd c 0 l2 j 0 0 0 m v m' s h S hJ (Nat.zero_le _) (by decide) (by decide) hb fin
    · obtain ⟨n, rfl⟩ : ∃ q, n = q + 1 := ⟨n - 1, by clear h; omega⟩
      have eb := hJ.2.1 o ho (by clear h; omega)
      have bb := ok.2.2.1 o
      rw [eb] at h
      have fin : pl_lp set J.2.2 0 0 (pl_la J.1 set J.2.2 0 0 (pl_bk J.2.1 n (o + 1) (pl_b1 J.2.1 (s, j) o))) = pl_mk J set := fin
      unfold pl_b1 at fin
      rcases h with ⟨c2, -, v1, m1, h1, -, v2, m2, h2, v3, m3, h3, h⟩ | ⟨c2, h⟩
      · rw [if_neg c2] at fin
        obtain ⟨S1, F1⟩ := rm_lay (a' := J.2.1 o - 1) (b' := 148 + j) h1 S (by rw [dc_w_eq (z := 0 + J.2.1 o) (by unfold sv_I; clear h h1 h2 h3; omega), dc_w_eq (by unfold sv_I; clear h h1 h2 h3; omega)]; clear h h1 h2 h3; omega) (dc_w_eq (by unfold sv_I; clear h h1 h2 h3; omega))
        rw [(hJ.fr F1).2.1 o ho (by clear h h1 h2 h3; omega)] at h2
        obtain ⟨S2, F2⟩ := rm_lay (a' := 20 + J.2.1 o - 1) (b' := 152 + j) h2 S1 (by rw [dc_w_eq (z := 20 + J.2.1 o) (by unfold sv_I; clear h h1 h2 h3; omega), dc_w_eq (by unfold sv_I; clear h h1 h2 h3; omega)]) (dc_w_eq (by unfold sv_I; clear h h1 h2 h3; omega))
        obtain ⟨S3, F3⟩ := rm_lay (a' := 61 + j) (b' := 156 + o - 1) h3 S2 (dc_w_eq (by unfold sv_I; clear h h1 h2 h3; omega)) (by rw [dc_w_eq (by unfold sv_I; clear h h1 h2 h3; omega)]; clear h h1 h2 h3; omega)
        have F := (F1.tr F2).tr F3
        rw [dc_w_eq (z := o - 1 + 1) (by unfold sv_I; clear h h1 h2 h3; omega), show o - 1 + 1 = (o + 1) - 1 by clear h h1 h2 h3; omega, dc_w_eq (z := j + 1) (by unfold sv_I; clear h h1 h2 h3; omega)] at h
        exact (ih n l2 (j + 1) (o + 1) 0 0 0 m3 v m' _ h S3 (hJ.fr F) (by clear h h1 h2 h3; omega) (by clear h h1 h2 h3; omega) (by clear h h1 h2 h3; omega) (by clear h h1 h2 h3; omega) hb fin).tr F
      · rw [if_pos (Decidable.not_not.mp c2)] at fin
        rw [dc_w_eq (z := o - 1 + 1) (by unfold sv_I; clear h; omega), show o - 1 + 1 = (o + 1) - 1 by clear h; omega] at h
        exact ih n l2 j (o + 1) 0 0 0 m v m' s h S hJ (by clear h; omega) (by clear h; omega) hj0 (by clear h; omega) hb fin
theorem pl_ds_b {F : pj_F} {set : Nat} : ∀ (W : pj_W) (k : Nat), pl_wo F W → 0 ≤ pl_ds set W k ∧ pl_ds set W k ≤ 6 * W.length
  | [], _, _ => ⟨Int.le_refl 0, Int.le_refl 0⟩
  | w :: W, k, h => by
    have d := (pl_wo_h h).2.1
    have q := pl_ds_b (set := set) W (k + 1) (pl_wo_t h)
    show 0 ≤ (if pl_bit set k = true then w.2.1 else 0) + pl_ds set W (k + 1) ∧ (if pl_bit set k = true then w.2.1 else 0) + pl_ds set W (k + 1) ≤ 6 * ((W.length + 1 : Nat) : Int)
    split <;> omega
theorem rm_dig {J : pj_J} (ok : pj_ok J) {set : Nat} (hset : set < 256) : ∀ (c i : Nat) (l2 l4 l5 l6 l7 : Int) (m : dc_M) (v : Int) (m' : dc_M), LM_259 (set : Nat) c 19 l2 (i : Nat) l4 l5 l6 l7 m v m' → rm_S m pl_0 → r0_J m J → i ≤ J.2.2.length → 0 ≤ l2 → l2 ≤ 6 * i → l2 + pl_ds set (J.2.2.drop i) i = pl_ds set J.2.2 0 → rm_Q J set m v m' := by
  have l8 := ok.2.2.2.1
  intro c
  induction c with
  | zero => intro i l2 l4 l5 l6 l7 m v m' h; exact h.elim
  | succ c ih =>
    intro i l2 l4 l5 l6 l7 m v m' h S hJ hi h20 h26 fin
    replace h := lm_259_19.mp h
    obtain ⟨-, h⟩ := h
    rw [hJ.2.2.1] at h
    rcases h with ⟨c1, v1, m1, ⟨cc, h1⟩, h⟩ | ⟨c1, h⟩
    · rw [List.drop_eq_nil_of_le (by clear h h1; omega)] at fin
      have fin : l2 + 0 = pl_ds set J.2.2 0 := fin
      rw [rm_i2l set hset] at h1
      have b := rm_cntb set hset
      obtain ⟨q1, q2⟩ := rm_cnt cc 0 set m v1 m1 h1 hset (by decide) (by clear h h1; omega)
      subst q2
      rcases h with ⟨c2, ev, em⟩ | ⟨c2, h⟩
      · rw [em]; exact ⟨Or.inr ⟨ev, fun z => by have := z.1; clear h1; omega⟩, rm_fr.rf⟩
      · rcases h with ⟨c3, h⟩ | ⟨c3, ev, em⟩
        · exact rm_brk ok hset (by clear h h1; omega) (by clear h h1; omega) c 3 l2 0 1 0 0 0 m1 v m' pl_0 h S hJ rfl (by decide) (by decide) (by decide) rfl rfl
        · rw [em]
          refine ⟨Or.inr ⟨ev, fun z => z.2 (Or.inr (Or.inr ?_))⟩, rm_fr.rf⟩
          rw [pl_mk_bar ok]; clear h1; omega
    · have hl : i < J.2.2.length := by clear h; omega
      have w1 : dc_w (((i : Nat) : Int) + 1) = ((i + 1 : Nat) : Int) := by rw [dc_w_eq (by unfold sv_I; clear h; omega)]; rfl
      have bit := rm_bit set hset i (by clear h; omega)
      obtain ⟨-, d1, -, -⟩ := ok.2.2.2.2 _ (pj_gm (d := (0, 0, 0, 0)) hl)
      rw [bit, w1, (hJ.2.2.2 i hl).2.1, dc_w_eq (z := l2 + 0) (by unfold sv_I; clear h; omega), dc_w_eq (z := l2 + (J.2.2.getD i (0, 0, 0, 0)).2.1) (by unfold sv_I; clear h; omega)] at h
      rw [pj_drop (0, 0, 0, 0) hl] at fin
      have fin : l2 + ((if pl_bit set i = true then (J.2.2.getD i (0, 0, 0, 0)).2.1 else 0) + pl_ds set (J.2.2.drop (i + 1)) (i + 1)) = pl_ds set J.2.2 0 := fin
      rcases h with ⟨c2, h⟩ | ⟨c2, -, h⟩
      · have nb : ¬ pl_bit set i = true := fun e => c2 (by rw [if_pos e])
        rw [if_neg nb] at fin
        exact ih (i + 1) (l2 + 0) 0 0 0 0 m v m' h S hJ (by clear h; omega) (by clear h; omega) (by clear h; omega) (by clear h; omega)
      · have yb : pl_bit set i = true := by
          cases e : pl_bit set i with
          | true => rfl
          | false => rw [e] at c2; exact absurd (by decide) c2
        rw [if_pos yb] at fin
        exact ih (i + 1) _ 0 0 0 0 m v m' h S hJ (by clear h; omega) (by clear h; omega) (by clear h; omega) (by clear h; omega)
/-- the reference's make0 -/
theorem rm_make {J : pj_J} (ok : pj_ok J) {set : Nat} (hset : set < 256) {m : dc_M} {v : Int} {m' : dc_M} (h : D_259 (set : Nat) m v m') (hJ : r0_J m J) : rm_Q J set m v m' := by
  obtain ⟨m1, e1, m2, e2, m3, e3, c, h⟩ := h
  have F : rm_fr m m3 := ((rm_fr.rf.up e1 (by omega)).up e2 (by omega)).up e3 (by omega)
  have S : rm_S m3 pl_0 := ⟨pl_0_ok, ⟨by rw [e3, dc_up_i (by decide), e2, dc_up_i (by decide), e1, dc_up_s]; rfl, fun i hi => (by cases hi)⟩, ⟨by rw [e3, dc_up_i (by decide), e2, dc_up_s]; rfl, fun i hi => (by cases hi)⟩, by rw [e3, dc_up_s]; exact ⟨fun _ => rfl, fun _ => rfl⟩⟩
  exact (rm_dig ok hset c 0 0 0 0 0 0 m3 v m' h S (hJ.fr F) (Nat.zero_le _) (by decide) (by decide) (by rw [List.drop_zero]; omega)).tr F
