/-! ran, wheel, bar, column, testSet, shown, unseenAt: in both -/
def ps_ran (F : dc_M) (x : Int) : Int := if x = 0 then F 0 3 else if x = 1 then F 0 4 else if x = 2 then F 0 1 else if x = 3 then F 0 2 else if x = 4 then F 0 5 else if x = 5 then F 0 6 else if x = 6 then F 0 7 else -1
theorem cs_153 {F m : dc_M} (O : m 0 12 ≠ 0 → co_0 11 m F) {x v : Int} {m' : dc_M} (h : D_153 x m v m') : m' = m ∧ v = if m 0 12 = 0 then -1 else ps_ran F x := by
  rcases h with ⟨c1, ev, em⟩ | ⟨c1, v1, m1, h, ev, em⟩
  · rw [if_pos c1]; exact ⟨em, ev⟩
  · rw [if_neg c1, ev, em]
    obtain ⟨o1, o2, o3, o4, o5, o6, o7, -⟩ := O c1
    unfold ps_ran
    rcases h with ⟨d, ev, em⟩ | ⟨d0, h⟩
    · rw [if_pos d]; exact ⟨em, ev.trans o3⟩
    · rw [if_neg d0]
      rcases h with ⟨d, ev, em⟩ | ⟨d1, h⟩
      · rw [if_pos d]; exact ⟨em, ev.trans o4⟩
      · rw [if_neg d1]
        rcases h with ⟨d, ev, em⟩ | ⟨d2, h⟩
        · rw [if_pos d]; exact ⟨em, ev.trans o1⟩
        · rw [if_neg d2]
          rcases h with ⟨d, ev, em⟩ | ⟨d3, h⟩
          · rw [if_pos d]; exact ⟨em, ev.trans o2⟩
          · rw [if_neg d3]
            rcases h with ⟨d, ev, em⟩ | ⟨d4, h⟩
            · rw [if_pos d]; exact ⟨em, ev.trans o5⟩
            · rw [if_neg d4]
              rcases h with ⟨d, ev, em⟩ | ⟨d5, h⟩
              · rw [if_pos d]; exact ⟨em, ev.trans o6⟩
              · rw [if_neg d5]
                rcases h with ⟨d, ev, em⟩ | ⟨d6, ev, em⟩
                · rw [if_pos d]; exact ⟨em, ev.trans o7⟩
                · rw [if_neg d6]; exact ⟨em, ev⟩
theorem rs_226 {F m : dc_M} (O : m 114 44 ≠ 0 → mr_O 1 m F) {x v : Int} {m' : dc_M} (h : D_226 x m v m') : (∀ (k : Nat) (i : Int), ¬ (k = 114 ∧ i = 0) → m' k i = m k i) ∧ v = if m 114 44 = 0 then -1 else ps_ran F x := by
  obtain ⟨m0, e0, h⟩ := h
  have f0 : ∀ (k : Nat) (i : Int), ¬ (k = 114 ∧ i = 0) → m0 k i = m k i := fun k i z => by rw [e0]; exact if_neg z
  have g : ∀ {w : Int}, m' = m0 → v = w → (∀ (k : Nat) (i : Int), ¬ (k = 114 ∧ i = 0) → m' k i = m k i) ∧ v = w := fun a b => ⟨by rw [a]; exact f0, b⟩
  rw [f0 114 44 (by decide)] at h
  rcases h with ⟨c1, h⟩ | ⟨c1, ev, em⟩
  · rw [if_neg c1]
    obtain ⟨-, o1, o2, o3, o4, o5, o6, o7, -⟩ := O c1
    unfold ps_ran
    rcases h with ⟨d, -, ev, em⟩ | ⟨d0, h⟩
    · rw [if_pos d]; exact g em ((ev.trans (f0 136 1 (by decide))).trans o3)
    · rw [if_neg d0]
      rcases h with ⟨d, -, ev, em⟩ | ⟨d1, h⟩
      · rw [if_pos d]; exact g em ((ev.trans (f0 137 1 (by decide))).trans o4)
      · rw [if_neg d1]
        rcases h with ⟨d, -, ev, em⟩ | ⟨d2, h⟩
        · rw [if_pos d]; exact g em ((ev.trans (f0 131 1 (by decide))).trans o1)
        · rw [if_neg d2]
          rcases h with ⟨d, -, ev, em⟩ | ⟨d3, h⟩
          · rw [if_pos d]; exact g em ((ev.trans (f0 132 1 (by decide))).trans o2)
          · rw [if_neg d3]
            rcases h with ⟨d, -, ev, em⟩ | ⟨d4, h⟩
            · rw [if_pos d]; exact g em ((ev.trans (f0 138 1 (by decide))).trans o5)
            · rw [if_neg d4]
              rcases h with ⟨d, -, ev, em⟩ | ⟨d5, h⟩
              · rw [if_pos d]; exact g em ((ev.trans (f0 139 1 (by decide))).trans o6)
              · rw [if_neg d5]
                rcases h with ⟨d, -, ev, em⟩ | ⟨d6, ev, em⟩
                · rw [if_pos d]; exact g em ((ev.trans (f0 140 1 (by decide))).trans o7)
                · rw [if_neg d6]; exact g em ev
  · rw [if_pos (Decidable.not_not.mp c1)]; exact g em ev
theorem rs_183_0 {m : dc_M} {v : Int} {m' : dc_M} (h : D_183 0 m v m') : v = 0 ∧ m' = dc_up m 114 0 0 := by
  rcases h with ⟨-, m1, e1, ev, em⟩ | ⟨c, -⟩
  · exact ⟨ev, em.trans e1⟩
  · exact absurd rfl c
theorem rs_183_1 {m : dc_M} {v : Int} {m' : dc_M} (h : D_183 1 m v m') : v = 1 ∧ m' = dc_up m 114 0 1 := by
  rcases h with ⟨c, -⟩ | ⟨-, m1, e1, ev, em⟩
  · exact absurd c (by decide)
  · exact ⟨ev, em.trans e1⟩
/-- what a reference that may tell 'thrown' leaves -/
def rs_T (P : Prop) (w : Int) (m : dc_M) (v : Int) (m' : dc_M) : Prop := (∀ (k : Nat) (i : Int), ¬ (k = 114 ∧ i = 0) → m' k i = m k i) ∧ ((P ∧ v = w ∧ m' 114 0 = 0) ∨ (¬ P ∧ m' 114 0 = 1))
theorem rs_T.no {P : Prop} {w : Int} {m : dc_M} {v : Int} {m' m2 : dc_M} (z : ¬ P) {v2 : Int} (h : D_183 1 m v2 m2) {R : Prop} (q : (v2 = 0 ∧ R) ∨ (¬ v2 = 0 ∧ v = 0 ∧ m' = m2)) : rs_T P w m v m' := by
  obtain ⟨e1, e2⟩ := rs_183_1 h
  rcases q with ⟨q, -⟩ | ⟨-, -, q⟩
  · rw [e1] at q; exact absurd q (by decide)
  · rw [q, e2]
    exact ⟨fun k i y => if_neg y, Or.inr ⟨z, by rw [dc_up_s]⟩⟩
theorem rs_T.yes {P : Prop} {w : Int} {m : dc_M} {v : Int} {m' m2 : dc_M} (z : P) {v2 : Int} (h : D_183 0 m v2 m2) {k0 : Nat} {i0 : Int} {Q R : Prop} (e : m k0 i0 = w) (n0 : ¬ (k0 = 114 ∧ i0 = 0)) (q : (v2 = 0 ∧ (Q ∧ (v = m2 k0 i0 ∧ m' = m2))) ∨ (¬ v2 = 0 ∧ R)) : rs_T P w m v m' := by
  obtain ⟨e1, e2⟩ := rs_183_0 h
  rcases q with ⟨-, -, q1, q2⟩ | ⟨q, -⟩
  · have g : m2 k0 i0 = m k0 i0 := by rw [e2]; exact if_neg n0
    refine ⟨fun k i y => by rw [q2, e2]; exact if_neg y, Or.inl ⟨z, (q1.trans g).trans e, by rw [q2, e2, dc_up_s]⟩⟩
  · exact absurd e1 q
theorem cs_155 {x : Int} {m : dc_M} {v : Int} {m' : dc_M} (h : D_155 x m v m') : m' = m ∧ (m 0 12 ≠ 0 ∧ 1 ≤ x ∧ x ≤ 4) ∧ v = m 14 (x - 1) := by
  rcases h with ⟨-, h⟩ | ⟨c1, ⟨-, h⟩ | ⟨c2, ⟨c3, -, ev, em⟩ | ⟨-, h⟩⟩⟩
  · exact h.elim
  · exact h.elim
  · rw [dw (z := x - 1) (by omega) (by omega)] at ev
    exact ⟨em, ⟨c1, by omega, c3⟩, ev⟩
  · exact h.elim
theorem rs_228 {x : Int} {m : dc_M} {v : Int} {m' : dc_M} (h : D_228 x m v m') : rs_T (m 114 44 ≠ 0 ∧ 1 ≤ x ∧ x ≤ 4) (m 134 (4 + (x - 1))) m v m' := by
  rcases h with ⟨c1, v2, m2, h2, h⟩ | ⟨c1, v2, m2, h2, h⟩
  · exact rs_T.no (fun z => z.1 c1) h2 h
  · obtain ⟨e2, q2⟩ := rz_in h2
    clear h2
    rw [e2] at h
    rcases h with ⟨c2, v3, m3, h3, h⟩ | ⟨c2, v3, m3, h3, h⟩
    · rcases q2 with ⟨q, -⟩ | ⟨-, q⟩
      · exact absurd q c2
      · rw [dw (z := 4 + x) (by omega) (by omega), dw (z := 4 + x - 1) (by omega) (by omega), show 4 + x - 1 = 4 + (x - 1) by omega] at h
        exact rs_T.yes ⟨c1, q⟩ h3 rfl (by omega) h
    · rcases q2 with ⟨-, q⟩ | ⟨q, -⟩
      · exact rs_T.no (fun z => q z.2) h3 h
      · exfalso; clear h h3; omega
theorem cs_95 {k : Nat} {x y : Int} {m : dc_M} {v : Int} {m' : dc_M} (h : D_95 k x y m v m') : m' = m ∧ ((v = 1 ∧ (0 ≤ x ∧ x < (if 60 < m k 1 then 60 else m k 1)) ∧ 1 ≤ y ∧ y ≤ 12) ∨ (v = 0 ∧ ¬ ((0 ≤ x ∧ x < (if 60 < m k 1 then 60 else m k 1)) ∧ 1 ≤ y ∧ y ≤ 12))) := by
  rcases h with ⟨c1, ev, em⟩ | ⟨c1, v2, m2, ⟨ev2, em2⟩, h⟩
  · exact ⟨em, Or.inr ⟨ev, fun z => by omega⟩⟩
  · rw [em2, ev2] at h
    rcases h with ⟨c2, ev, em⟩ | ⟨c2, ⟨c3, ev, em⟩ | ⟨c3, ⟨c4, ev, em⟩ | ⟨c4, ev, em⟩⟩⟩
    · exact ⟨em, Or.inr ⟨ev, fun z => absurd z.1.2 (Int.not_lt.mpr c2)⟩⟩
    · exact ⟨em, Or.inr ⟨ev, fun z => by omega⟩⟩
    · exact ⟨em, Or.inr ⟨ev, fun z => by omega⟩⟩
    · exact ⟨em, Or.inl ⟨ev, ⟨by omega, by omega⟩, by omega, by omega⟩⟩
theorem cs_154 {x y : Int} {m : dc_M} {v : Int} {m' : dc_M} (h : D_154 x y m v m') : m' = m ∧ ((0 ≤ x ∧ x < (if 60 < m 12 1 then 60 else m 12 1)) ∧ 1 ≤ y ∧ y ≤ 12) ∧ v = m 13 (12 * x + (y - 1)) := by
  obtain ⟨v1, m1, h1, h⟩ := h
  obtain ⟨e1, q1⟩ := cs_95 h1
  clear h1
  rw [e1] at h
  rcases h with ⟨c1, v2, m2, ⟨-, ev2, em2⟩, ev, em⟩ | ⟨-, h⟩
  · rcases q1 with ⟨-, q⟩ | ⟨q, -⟩
    · have hx : x < 60 := by
        have := q.1.2
        split at this <;> omega
      have y1 := q.2
      have x0 := q.1.1
      rw [dw (z := x * 12) (by omega) (by omega), dw (z := x * 12 + y) (by omega) (by omega), dw (z := x * 12 + y - 1) (by omega) (by omega), show x * 12 + y - 1 = 12 * x + (y - 1) by omega] at ev2
      exact ⟨em.trans em2, q, ev.trans ev2⟩
    · exact absurd q c1
  · exact h.elim
theorem rs_227 {x y : Int} {m : dc_M} (hl : 0 ≤ m 131 1 ∧ m 131 1 ≤ 60) {v : Int} {m' : dc_M} (h : D_227 x y m v m') : rs_T (m 114 44 ≠ 0 ∧ (0 ≤ x ∧ x < m 131 1) ∧ 1 ≤ y ∧ y ≤ 12) (m 133 (720 + (12 * x + (y - 1)))) m v m' := by
  rcases h with ⟨c1, v2, m2, h2, h⟩ | ⟨c1, -, v2, m2, h2, h⟩
  · exact rs_T.no (fun z => z.1 c1) h2 h
  · rw [dw (z := m 131 1 - 1) (by omega) (by omega)] at h2
    obtain ⟨e2, q2⟩ := rz_in h2
    clear h2
    rw [e2] at h
    rcases h with ⟨c2, v3, m3, h3, h⟩ | ⟨c2, v3, m3, h3, h⟩
    · rcases q2 with ⟨-, q⟩ | ⟨q, -⟩
      · exact rs_T.no (fun z => q ⟨z.2.1.1, by have := z.2.1.2; clear h h3; omega⟩) h3 h
      · exfalso; clear h h3; omega
    · rcases q2 with ⟨q, -⟩ | ⟨-, q⟩
      · exact absurd q c2
      · obtain ⟨e3, q3⟩ := rz_in h3
        clear h3
        rw [e3] at h
        rcases h with ⟨c3, v4, m4, h4, h⟩ | ⟨c3, v4, m4, h4, h⟩
        · rcases q3 with ⟨p, -⟩ | ⟨-, p⟩
          · exact absurd p c3
          · rw [dw (z := 12 * x) (by omega) (by omega), dw (z := 720 + 12 * x) (by omega) (by omega), dw (z := 720 + 12 * x + y) (by omega) (by omega), dw (z := 720 + 12 * x + y - 1) (by omega) (by omega), show 720 + 12 * x + y - 1 = 720 + (12 * x + (y - 1)) by omega] at h
            exact rs_T.yes ⟨c1, ⟨q.1, by omega⟩, p⟩ h4 rfl (by omega) h
        · rcases q3 with ⟨-, p⟩ | ⟨p, -⟩
          · exact rs_T.no (fun z => p z.2.2) h4 h
          · exfalso; clear h h4; omega
theorem cs_148 {N : Int → Int} {B : Int → Int → Int → Int} {m : dc_M} (hb : bx_C N B m) {x y z v : Int} {m' : dc_M} (h : D_148 x y z m v m') : m' = m ∧ ((0 ≤ x ∧ x < 8) ∧ (0 ≤ y ∧ y < N x) ∧ 1 ≤ z ∧ z ≤ 20) ∧ v = B x y (z - 1) := by
  obtain ⟨v1, m1, h1, h⟩ := h
  have q1 : m1 = m ∧ (v1 ≠ 0 → (0 ≤ x ∧ x < 8) ∧ (0 ≤ y ∧ y < N x)) := by
    obtain ⟨v2, m2, h2, h1⟩ := h1
    obtain ⟨e2, q2⟩ := ck_box h2
    rw [e2] at h1
    rcases h1 with ⟨-, ev, em⟩ | ⟨c2, ⟨-, ev, em⟩ | ⟨c3, -, ⟨-, ev, em⟩ | ⟨c4, ev, em⟩⟩⟩
    · exact ⟨em, fun w => absurd ev w⟩
    · exact ⟨em, fun w => absurd ev w⟩
    · exact ⟨em, fun w => absurd ev w⟩
    · rcases q2 with ⟨-, q2⟩ | ⟨q2, -⟩
      · rw [(hb.1 x q2.1 q2.2).1] at c4
        exact ⟨em, fun _ => ⟨q2, by omega, by omega⟩⟩
      · exact absurd q2 c2
  clear h1
  rw [q1.1] at h
  rcases h with ⟨-, h⟩ | ⟨c1, v2, m2, h2, h⟩
  · exact h.elim
  · obtain ⟨hx, hy⟩ := q1.2 c1
    have q2 : m2 = m ∧ (v2 ≠ 0 → 1 ≤ z ∧ z ≤ 20) := by
      rcases h2 with ⟨-, ev, em⟩ | ⟨c2, ⟨-, ev, em⟩ | ⟨c3, ev, em⟩⟩
      · exact ⟨em, fun w => absurd ev w⟩
      · exact ⟨em, fun w => absurd ev w⟩
      · exact ⟨em, fun _ => ⟨by omega, by omega⟩⟩
    clear h2
    rw [q2.1] at h
    rcases h with ⟨c2, v3, m3, h3, -, ev, em⟩ | ⟨-, h⟩
    · have hz := q2.2 c2
      have n40 := (hb.1 x hx.1 hx.2).2.2
      obtain ⟨a1, a2⟩ := bx_18 hb hx.1 hx.2 hy.1 (by omega) h3
      have st := hb.st hx.1 hx.2 hy.1 (k := y) (by omega)
      rw [a2, dw (z := m 5 (40 * x + y) + z) (by clear h3; omega) (by clear h3; omega), dw (z := m 5 (40 * x + y) + z - 1) (by clear h3; omega) (by clear h3; omega), show m 5 (40 * x + y) + z - 1 = m 5 (40 * x + y) + (z - 1) by clear h3; omega, a1, hb.2.2.2 x y (z - 1) hx.1 hx.2 hy.1 hy.2 (by clear h3; omega) (by clear h3; omega)] at ev
      exact ⟨em.trans a1, ⟨hx, hy, hz⟩, ev⟩
    · exact h.elim
theorem rs_193 {N : Int → Int} {B : Int → Int → Int → Int} {m : dc_M} (hb : bx_R N B m) {x y z v : Int} {m' : dc_M} (h : D_193 x y z m v m') : rs_T ((0 ≤ x ∧ x < 8) ∧ (0 ≤ y ∧ y < N x) ∧ 1 ≤ z ∧ z ≤ 20) (B x y (z - 1)) m v m' := by
  obtain ⟨v1, m1, h1, h⟩ := h
  obtain ⟨e1, q1⟩ := rl_box h1
  clear h1
  rw [e1] at h
  rcases h with ⟨c1, v2, m2, h2, h⟩ | ⟨c1, v2, m2, h2, h⟩
  · refine rs_T.no (fun w => ?_) h2 h
    rcases q1 with ⟨q, -⟩ | ⟨-, q⟩
    · clear h h2; omega
    · exact q w.1
  · have hx : 0 ≤ x ∧ x < 8 := by
      rcases q1 with ⟨-, q⟩ | ⟨q, -⟩
      · exact q
      · exact absurd q c1
    obtain ⟨nx, n0, n40⟩ := hb.1 x hx.1 hx.2
    obtain ⟨e2, q2⟩ := rz_in h2
    clear h2
    rw [e2] at h
    rcases h with ⟨c2, v3, m3, h3, h⟩ | ⟨c2, ⟨c3, v3, m3, h3, h⟩ | ⟨c3, v3, m3, h3, h⟩⟩
    · refine rs_T.no (fun w => ?_) h3 h
      rcases q2 with ⟨-, q⟩ | ⟨q, -⟩
      · exact q w.2.2
      · clear h h3; omega
    · exact rs_T.no (fun w => by have := w.2.1.1; clear h h3; omega) h3 h
    · have hz : 1 ≤ z ∧ z ≤ 20 := by
        rcases q2 with ⟨q, -⟩ | ⟨-, q⟩
        · exact absurd q c2
        · exact q
      obtain ⟨e3, q3⟩ := rl_box h3
      clear h3
      rw [e3] at h
      rcases h with ⟨c4, -⟩ | ⟨c4, -, h⟩
      · exfalso
        rcases q3 with ⟨q, -⟩ | ⟨-, q⟩
        · omega
        · exact q hx
      · rw [nx] at h
        rcases h with ⟨c5, v4, m4, h4, h⟩ | ⟨c5, v4, m4, h4, h⟩
        · rw [dw (z := 40 * x) (by clear h h4; omega) (by clear h h4; omega), dw (z := 40 * x + y) (by clear h h4; omega) (by clear h h4; omega), dw (z := 20 * (40 * x + y)) (by clear h h4; omega) (by clear h h4; omega), dw (z := 20 * (40 * x + y) + z) (by clear h h4; omega) (by clear h h4; omega), dw (z := 20 * (40 * x + y) + z - 1) (by clear h h4; omega) (by clear h h4; omega), show 20 * (40 * x + y) + z - 1 = 20 * (40 * x + y) + (z - 1) by clear h h4; omega] at h
          exact rs_T.yes ⟨hx, ⟨by clear h h4; omega, c5⟩, hz⟩ h4 (hb.2 x y (z - 1) hx.1 hx.2 (by clear h h4; omega) c5 (by clear h h4; omega) (by clear h h4; omega)) (by clear h h4; omega) h
        · exact rs_T.no (fun w => c5 w.2.1.2) h4 h
theorem cs_173 {x : Int} {m : dc_M} {v : Int} {m' : dc_M} (h : D_173 x m v m') : m' = m ∧ v = if 0 ≤ x ∧ x < m 29 11 then m 44 x else -1 := by
  rcases h with ⟨c1, ev, em⟩ | ⟨c1, ⟨c2, ev, em⟩ | ⟨c2, -, ev, em⟩⟩
  · rw [if_neg (by omega)]; exact ⟨em, ev⟩
  · rw [if_neg (by omega)]; exact ⟨em, ev⟩
  · rw [if_pos (by omega)]; exact ⟨em, ev⟩
theorem rs_244 {x : Int} {m : dc_M} (hl : 0 ≤ m 114 54 ∧ m 114 54 ≤ 40) {v : Int} {m' : dc_M} (h : D_244 x m v m') : (∀ (k : Nat) (i : Int), ¬ (k = 114 ∧ i = 0) → m' k i = m k i) ∧ v = if 0 ≤ x ∧ x < m 114 54 then m 144 x else -1 := by
  obtain ⟨m0, e0, v1, m1, h1, h⟩ := h
  have f0 : ∀ (k : Nat) (i : Int), ¬ (k = 114 ∧ i = 0) → m0 k i = m k i := fun k i z => by rw [e0]; exact if_neg z
  rw [f0 114 54 (by decide), dw (z := m 114 54 - 1) (by omega) (by omega)] at h1
  obtain ⟨e1, q1⟩ := rz_in h1
  clear h1
  rw [e1] at h
  rcases h with ⟨c1, ev, em⟩ | ⟨c1, -, ev, em⟩
  · rcases q1 with ⟨-, q⟩ | ⟨q, -⟩
    · rw [if_neg (fun z => q ⟨z.1, by omega⟩)]; exact ⟨by rw [em]; exact f0, ev⟩
    · exfalso; omega
  · rcases q1 with ⟨q, -⟩ | ⟨-, q⟩
    · exact absurd q c1
    · rw [if_pos ⟨q.1, by omega⟩]; exact ⟨by rw [em]; exact f0, ev.trans (f0 144 x (by omega))⟩
