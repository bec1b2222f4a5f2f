/-! BOARDS, whole: what board() leaves, the reference (printed by wip/p35/g9k.py) -/
def rb_t (k : Nat) (i : Int) : Prop := k = 114 ∨ k = 121
def rb_f (m m' : dc_M) : Prop := ∀ (k : Nat) (i : Int), ¬ rb_t k i → m' k i = m k i
theorem rb_f.rf {m : dc_M} : rb_f m m := fun _ _ _ => rfl
theorem rb_f.tr {a b c : dc_M} (h : rb_f a b) (g : rb_f b c) : rb_f a c := fun k i z => (g k i z).trans (h k i z)
theorem rb_f.up {a m m1 : dc_M} {k : Nat} {i v : Int} (h : rb_f a m) (e : m1 = dc_up m k i v) (hx : rb_t k i) : rb_f a m1 := fun k' i' z => by
  rw [e]
  refine (if_neg (fun q => ?_)).trans (h k' i' z)
  rw [q.1, q.2] at z
  exact z hx
theorem rb_187  {m : dc_M} {v : Int} {m' : dc_M} (h : D_187 m v m') : rb_f m m' := by
  obtain ⟨m1, e1, h⟩ := h
  have f1 := (rb_f.rf (m := m)).up e1 (by simp [rb_t])
  obtain ⟨m2, e2, h⟩ := h
  have f2 := f1.up e2 (by simp [rb_t])
  obtain ⟨m3, e3, h⟩ := h
  have f3 := f2.up e3 (by simp [rb_t])
  obtain ⟨-, em⟩ := h
  rw [em]
  exact f3
theorem rb_188 {x0 : Int} {x1 : Int} {x2 : Int} {m : dc_M} {v : Int} {m' : dc_M} (h : D_188 x0 x1 x2 m v m') : rb_f m m' := by
  rcases h with ⟨-, h⟩ | ⟨-, h⟩
  · obtain ⟨-, em⟩ := h
    rw [em]
    exact (rb_f.rf (m := m))
  · rcases h with ⟨-, h⟩ | ⟨-, h⟩
    · obtain ⟨-, em⟩ := h
      rw [em]
      exact (rb_f.rf (m := m))
    · obtain ⟨-, em⟩ := h
      rw [em]
      exact (rb_f.rf (m := m))
theorem rb_195  {m : dc_M} {v : Int} {m' : dc_M} (h : D_195 m v m') : rb_f m m' := by
  rcases h with ⟨-, h⟩ | ⟨-, h⟩
  · obtain ⟨-, em⟩ := h
    rw [em]
    exact (rb_f.rf (m := m))
  · obtain ⟨-, h⟩ := h
    obtain ⟨-, em⟩ := h
    rw [em]
    exact (rb_f.rf (m := m))
theorem rb_196 {x0 : Int} {m : dc_M} {v : Int} {m' : dc_M} (h : D_196 x0 m v m') : rb_f m m' := by
  rcases h with ⟨-, h⟩ | ⟨-, h⟩
  · obtain ⟨-, em⟩ := h
    rw [em]
    exact (rb_f.rf (m := m))
  · rcases h with ⟨-, h⟩ | ⟨-, h⟩
    · obtain ⟨-, em⟩ := h
      rw [em]
      exact (rb_f.rf (m := m))
    · obtain ⟨-, em⟩ := h
      rw [em]
      exact (rb_f.rf (m := m))
theorem rb_197 {x0 : Int} {m : dc_M} {v : Int} {m' : dc_M} (h : D_197 x0 m v m') : rb_f m m' := by
  rcases h with ⟨-, h⟩ | ⟨-, h⟩
  · obtain ⟨-, em⟩ := h
    rw [em]
    exact (rb_f.rf (m := m))
  · rcases h with ⟨-, h⟩ | ⟨-, h⟩
    · obtain ⟨-, em⟩ := h
      rw [em]
      exact (rb_f.rf (m := m))
    · obtain ⟨-, em⟩ := h
      rw [em]
      exact (rb_f.rf (m := m))
theorem rb_198  {m : dc_M} {v : Int} {m' : dc_M} (h : D_198 m v m') : rb_f m m' := by
  have key : ∀ c : Nat, (∀ (l1 : Int) (l2 : Int) (m : dc_M) (v : Int) (m' : dc_M), LM_198 c 0 l1 l2 m v m' → rb_f m m') ∧ (∀ (l1 : Int) (l2 : Int) (m : dc_M) (v : Int) (m' : dc_M), LM_198 c 111 l1 l2 m v m' → rb_f m m') ∧ (∀ (l1 : Int) (l2 : Int) (m : dc_M) (v : Int) (m' : dc_M), LM_198 c 190 l1 l2 m v m' → rb_f m m') := by
    intro c
    induction c with
    | zero => exact ⟨fun _ _ _ _ _ h => h.elim, fun _ _ _ _ _ h => h.elim, fun _ _ _ _ _ h => h.elim⟩
    | succ c ih =>
      refine ⟨?_, ?_, ?_⟩
      · intro l1 l2 m v m' h
        replace h := lm_198_0.mp h
        obtain ⟨v1, m1, h1, h⟩ := h
        have f1 := (rb_f.rf (m := m)).tr (rb_195 h1)
        rcases h with ⟨-, h⟩ | ⟨-, h⟩
        · obtain ⟨m2, e2, h⟩ := h
          have f2 := f1.up e2 (by simp [rb_t])
          exact f2.tr (ih.1 _ _ _ _ _ h)
        · obtain ⟨v2, m2, h2, h⟩ := h
          have f2 := f1.tr (rb_195 h2)
          rcases h with ⟨-, h⟩ | ⟨-, h⟩
          · obtain ⟨m3, e3, h⟩ := h
            have f3 := f2.up e3 (by simp [rb_t])
            rcases h with ⟨-, h⟩ | ⟨-, h⟩
            · obtain ⟨v4, m4, h4, h⟩ := h
              have f4 := f3.tr (rb_195 h4)
              obtain ⟨m5, e5, h⟩ := h
              have f5 := f4.up e5 (by simp [rb_t])
              obtain ⟨m6, e6, h⟩ := h
              have f6 := f5.up e6 (by simp [rb_t])
              rcases h with ⟨-, h⟩ | ⟨-, h⟩
              · obtain ⟨v7, m7, h7, h⟩ := h
                have f7 := f6.tr (rb_196 h7)
                rcases h with ⟨-, h⟩ | ⟨-, h⟩
                · obtain ⟨v8, m8, h8, h⟩ := h
                  have f8 := f7.tr (rb_197 h8)
                  rcases h with ⟨-, h⟩ | ⟨-, h⟩
                  · rcases h with ⟨-, h⟩ | ⟨-, h⟩
                    · obtain ⟨m9, e9, h⟩ := h
                      have f9 := f8.up e9 (by simp [rb_t])
                      obtain ⟨m10, e10, h⟩ := h
                      have f10 := f9.up e10 (by simp [rb_t])
                      obtain ⟨m11, e11, h⟩ := h
                      have f11 := f10.up e11 (by simp [rb_t])
                      obtain ⟨-, em⟩ := h
                      rw [em]
                      exact f11
                    · rcases h with ⟨-, h⟩ | ⟨-, h⟩
                      · obtain ⟨m9, e9, h⟩ := h
                        have f9 := f8.up e9 (by simp [rb_t])
                        obtain ⟨m10, e10, h⟩ := h
                        have f10 := f9.up e10 (by simp [rb_t])
                        obtain ⟨m11, e11, h⟩ := h
                        have f11 := f10.up e11 (by simp [rb_t])
                        obtain ⟨-, em⟩ := h
                        rw [em]
                        exact f11
                      · rcases h with ⟨-, h⟩ | ⟨-, h⟩
                        · obtain ⟨m9, e9, h⟩ := h
                          have f9 := f8.up e9 (by simp [rb_t])
                          obtain ⟨m10, e10, h⟩ := h
                          have f10 := f9.up e10 (by simp [rb_t])
                          obtain ⟨m11, e11, h⟩ := h
                          have f11 := f10.up e11 (by simp [rb_t])
                          obtain ⟨-, em⟩ := h
                          rw [em]
                          exact f11
                        · obtain ⟨m9, e9, h⟩ := h
                          have f9 := f8.up e9 (by simp [rb_t])
                          obtain ⟨m10, e10, h⟩ := h
                          have f10 := f9.up e10 (by simp [rb_t])
                          obtain ⟨m11, e11, h⟩ := h
                          have f11 := f10.up e11 (by simp [rb_t])
                          obtain ⟨-, em⟩ := h
                          rw [em]
                          exact f11
                  · exact f8.tr (ih.2.2 _ _ _ _ _ h)
                · exact f7.tr (ih.2.1 _ _ _ _ _ h)
              · obtain ⟨m7, e7, h⟩ := h
                have f7 := f6.up e7 (by simp [rb_t])
                obtain ⟨-, em⟩ := h
                rw [em]
                exact f7
            · rcases h with ⟨-, h⟩ | ⟨-, h⟩
              · obtain ⟨v4, m4, h4, h⟩ := h
                have f4 := f3.tr (rb_195 h4)
                obtain ⟨m5, e5, h⟩ := h
                have f5 := f4.up e5 (by simp [rb_t])
                obtain ⟨m6, e6, h⟩ := h
                have f6 := f5.up e6 (by simp [rb_t])
                rcases h with ⟨-, h⟩ | ⟨-, h⟩
                · obtain ⟨v7, m7, h7, h⟩ := h
                  have f7 := f6.tr (rb_196 h7)
                  rcases h with ⟨-, h⟩ | ⟨-, h⟩
                  · obtain ⟨v8, m8, h8, h⟩ := h
                    have f8 := f7.tr (rb_197 h8)
                    rcases h with ⟨-, h⟩ | ⟨-, h⟩
                    · rcases h with ⟨-, h⟩ | ⟨-, h⟩
                      · obtain ⟨m9, e9, h⟩ := h
                        have f9 := f8.up e9 (by simp [rb_t])
                        obtain ⟨m10, e10, h⟩ := h
                        have f10 := f9.up e10 (by simp [rb_t])
                        obtain ⟨m11, e11, h⟩ := h
                        have f11 := f10.up e11 (by simp [rb_t])
                        obtain ⟨-, em⟩ := h
                        rw [em]
                        exact f11
                      · rcases h with ⟨-, h⟩ | ⟨-, h⟩
                        · obtain ⟨m9, e9, h⟩ := h
                          have f9 := f8.up e9 (by simp [rb_t])
                          obtain ⟨m10, e10, h⟩ := h
                          have f10 := f9.up e10 (by simp [rb_t])
                          obtain ⟨m11, e11, h⟩ := h
                          have f11 := f10.up e11 (by simp [rb_t])
                          obtain ⟨-, em⟩ := h
                          rw [em]
                          exact f11
                        · rcases h with ⟨-, h⟩ | ⟨-, h⟩
                          · obtain ⟨m9, e9, h⟩ := h
                            have f9 := f8.up e9 (by simp [rb_t])
                            obtain ⟨m10, e10, h⟩ := h
                            have f10 := f9.up e10 (by simp [rb_t])
                            obtain ⟨m11, e11, h⟩ := h
                            have f11 := f10.up e11 (by simp [rb_t])
                            obtain ⟨-, em⟩ := h
                            rw [em]
                            exact f11
                          · obtain ⟨m9, e9, h⟩ := h
                            have f9 := f8.up e9 (by simp [rb_t])
                            obtain ⟨m10, e10, h⟩ := h
                            have f10 := f9.up e10 (by simp [rb_t])
                            obtain ⟨m11, e11, h⟩ := h
                            have f11 := f10.up e11 (by simp [rb_t])
                            obtain ⟨-, em⟩ := h
                            rw [em]
                            exact f11
                    · exact f8.tr (ih.2.2 _ _ _ _ _ h)
                  · exact f7.tr (ih.2.1 _ _ _ _ _ h)
                · obtain ⟨m7, e7, h⟩ := h
                  have f7 := f6.up e7 (by simp [rb_t])
                  obtain ⟨-, em⟩ := h
                  rw [em]
                  exact f7
              · obtain ⟨m4, e4, h⟩ := h
                have f4 := f3.up e4 (by simp [rb_t])
                obtain ⟨m5, e5, h⟩ := h
                have f5 := f4.up e5 (by simp [rb_t])
                obtain ⟨-, em⟩ := h
                rw [em]
                exact f5
          · obtain ⟨m3, e3, h⟩ := h
            have f3 := f2.up e3 (by simp [rb_t])
            exact f3.tr (ih.1 _ _ _ _ _ h)
      · intro l1 l2 m v m' h
        replace h := lm_198_111.mp h
        obtain ⟨v1, m1, h1, h⟩ := h
        have f1 := (rb_f.rf (m := m)).tr (rb_195 h1)
        obtain ⟨v2, m2, h2, h⟩ := h
        have f2 := f1.tr (rb_196 h2)
        rcases h with ⟨-, h⟩ | ⟨-, h⟩
        · rcases h with ⟨-, h⟩ | ⟨-, h⟩
          · obtain ⟨m3, e3, h⟩ := h
            have f3 := f2.up e3 (by simp [rb_t])
            obtain ⟨-, em⟩ := h
            rw [em]
            exact f3
          · obtain ⟨m3, e3, h⟩ := h
            have f3 := f2.up e3 (by simp [rb_t])
            obtain ⟨-, em⟩ := h
            rw [em]
            exact f3
        · rcases h with ⟨-, h⟩ | ⟨-, h⟩
          · obtain ⟨m3, e3, h⟩ := h
            have f3 := f2.up e3 (by simp [rb_t])
            obtain ⟨m4, e4, h⟩ := h
            have f4 := f3.up e4 (by simp [rb_t])
            exact f4.tr (ih.2.1 _ _ _ _ _ h)
          · obtain ⟨v3, m3, h3, h⟩ := h
            have f3 := f2.tr (rb_195 h3)
            obtain ⟨m4, e4, h⟩ := h
            have f4 := f3.up e4 (by simp [rb_t])
            obtain ⟨m5, e5, h⟩ := h
            have f5 := f4.up e5 (by simp [rb_t])
            exact f5.tr (ih.2.1 _ _ _ _ _ h)
      · intro l1 l2 m v m' h
        replace h := lm_198_190.mp h
        obtain ⟨v1, m1, h1, h⟩ := h
        have f1 := (rb_f.rf (m := m)).tr (rb_195 h1)
        obtain ⟨v2, m2, h2, h⟩ := h
        have f2 := f1.tr (rb_197 h2)
        rcases h with ⟨-, h⟩ | ⟨-, h⟩
        · rcases h with ⟨-, h⟩ | ⟨-, h⟩
          · obtain ⟨m3, e3, h⟩ := h
            have f3 := f2.up e3 (by simp [rb_t])
            obtain ⟨-, em⟩ := h
            rw [em]
            exact f3
          · obtain ⟨m3, e3, h⟩ := h
            have f3 := f2.up e3 (by simp [rb_t])
            obtain ⟨-, em⟩ := h
            rw [em]
            exact f3
        · rcases h with ⟨-, h⟩ | ⟨-, h⟩
          · obtain ⟨m3, e3, h⟩ := h
            have f3 := f2.up e3 (by simp [rb_t])
            obtain ⟨m4, e4, h⟩ := h
            have f4 := f3.up e4 (by simp [rb_t])
            exact f4.tr (ih.2.2 _ _ _ _ _ h)
          · obtain ⟨v3, m3, h3, h⟩ := h
            have f3 := f2.tr (rb_195 h3)
            obtain ⟨m4, e4, h⟩ := h
            have f4 := f3.up e4 (by simp [rb_t])
            obtain ⟨m5, e5, h⟩ := h
            have f5 := f4.up e5 (by simp [rb_t])
            exact f5.tr (ih.2.2 _ _ _ _ _ h)
  obtain ⟨c, h⟩ := h
  exact (rb_f.rf (m := m)).tr ((key c).1 _ _ _ _ _ h)
theorem rb_199 {x0 : Int} {x1 : Int} {m : dc_M} {v : Int} {m' : dc_M} (h : D_199 x0 x1 m v m') : rb_f m m' := by
  obtain ⟨m1, e1, h⟩ := h
  have f1 := (rb_f.rf (m := m)).up e1 (by simp [rb_t])
  obtain ⟨m2, e2, h⟩ := h
  have f2 := f1.up e2 (by simp [rb_t])
  obtain ⟨-, em⟩ := h
  rw [em]
  exact f2
theorem rb_200 {x0 : Int} {m : dc_M} {v : Int} {m' : dc_M} (h : D_200 x0 m v m') : rb_f m m' := by
  rcases h with ⟨-, h⟩ | ⟨-, h⟩
  · obtain ⟨v1, m1, h1, h⟩ := h
    have f1 := (rb_f.rf (m := m)).tr (rb_199 h1)
    obtain ⟨-, em⟩ := h
    rw [em]
    exact f1
  · rcases h with ⟨-, h⟩ | ⟨-, h⟩
    · obtain ⟨v1, m1, h1, h⟩ := h
      have f1 := (rb_f.rf (m := m)).tr (rb_198 h1)
      obtain ⟨-, em⟩ := h
      rw [em]
      exact f1
    · obtain ⟨v1, m1, h1, h⟩ := h
      have f1 := (rb_f.rf (m := m)).tr (rb_199 h1)
      obtain ⟨-, em⟩ := h
      rw [em]
      exact f1
theorem rb_201 {x0 : Int} {x1 : Int} {m : dc_M} {v : Int} {m' : dc_M} (h : D_201 x0 x1 m v m') : rb_f m m' := by
  rcases h with ⟨-, h⟩ | ⟨-, h⟩
  · obtain ⟨v1, m1, h1, h⟩ := h
    have f1 := (rb_f.rf (m := m)).tr (rb_188 h1)
    rcases h with ⟨-, h⟩ | ⟨-, h⟩
    · obtain ⟨m2, e2, h⟩ := h
      have f2 := f1.up e2 (by simp [rb_t])
      obtain ⟨v3, m3, h3, h⟩ := h
      have f3 := f2.tr (rb_198 h3)
      obtain ⟨-, em⟩ := h
      rw [em]
      exact f3
    · obtain ⟨v2, m2, h2, h⟩ := h
      have f2 := f1.tr (rb_199 h2)
      obtain ⟨-, em⟩ := h
      rw [em]
      exact f2
  · obtain ⟨v1, m1, h1, h⟩ := h
    have f1 := (rb_f.rf (m := m)).tr (rb_199 h1)
    obtain ⟨-, em⟩ := h
    rw [em]
    exact f1
theorem rb_203 {y0 : Nat} {m : dc_M} {v : Int} {m' : dc_M} (h : D_203 y0 m v m') : rb_f m m' := by
  obtain ⟨m1, e1, h⟩ := h
  have f1 := (rb_f.rf (m := m)).up e1 (by simp [rb_t])
  obtain ⟨m2, e2, h⟩ := h
  have f2 := f1.up e2 (by simp [rb_t])
  rcases h with ⟨-, h⟩ | ⟨-, h⟩
  · rcases h with ⟨-, h⟩ | ⟨-, h⟩
    · rcases h with ⟨-, h⟩ | ⟨-, h⟩
      · rcases h with ⟨-, h⟩ | ⟨-, h⟩
        · obtain ⟨m3, e3, h⟩ := h
          have f3 := f2.up e3 (by simp [rb_t])
          obtain ⟨m4, e4, h⟩ := h
          have f4 := f3.up e4 (by simp [rb_t])
          rcases h with ⟨-, h⟩ | ⟨-, h⟩
          · rcases h with ⟨-, h⟩ | ⟨-, h⟩
            · rcases h with ⟨-, h⟩ | ⟨-, h⟩
              · obtain ⟨m5, e5, h⟩ := h
                have f5 := f4.up e5 (by simp [rb_t])
                obtain ⟨m6, e6, h⟩ := h
                have f6 := f5.up e6 (by simp [rb_t])
                rcases h with ⟨-, h⟩ | ⟨-, h⟩
                · rcases h with ⟨-, h⟩ | ⟨-, h⟩
                  · rcases h with ⟨-, h⟩ | ⟨-, h⟩
                    · rcases h with ⟨-, h⟩ | ⟨-, h⟩
                      · rcases h with ⟨-, h⟩ | ⟨-, h⟩
                        · rcases h with ⟨-, h⟩ | ⟨-, h⟩
                          · rcases h with ⟨-, h⟩ | ⟨-, h⟩
                            · rcases h with ⟨-, h⟩ | ⟨-, h⟩
                              · obtain ⟨m7, e7, h⟩ := h
                                have f7 := f6.up e7 (by simp [rb_t])
                                rcases h with ⟨-, h⟩ | ⟨-, h⟩
                                · obtain ⟨m8, e8, h⟩ := h
                                  have f8 := f7.up e8 (by simp [rb_t])
                                  rcases h with ⟨-, h⟩ | ⟨-, h⟩
                                  · rcases h with ⟨-, h⟩ | ⟨-, h⟩
                                    · rcases h with ⟨-, h⟩ | ⟨-, h⟩
                                      · rcases h with ⟨-, h⟩ | ⟨-, h⟩
                                        · rcases h with ⟨-, h⟩ | ⟨-, h⟩
                                          · obtain ⟨m9, e9, h⟩ := h
                                            have f9 := f8.up e9 (by simp [rb_t])
                                            obtain ⟨m10, e10, h⟩ := h
                                            have f10 := f9.up e10 (by simp [rb_t])
                                            rcases h with ⟨-, h⟩ | ⟨-, h⟩
                                            · obtain ⟨m11, e11, h⟩ := h
                                              have f11 := f10.up e11 (by simp [rb_t])
                                              rcases h with ⟨-, h⟩ | ⟨-, h⟩
                                              · rcases h with ⟨-, h⟩ | ⟨-, h⟩
                                                · rcases h with ⟨-, h⟩ | ⟨-, h⟩
                                                  · obtain ⟨m12, e12, h⟩ := h
                                                    have f12 := f11.up e12 (by simp [rb_t])
                                                    obtain ⟨-, em⟩ := h
                                                    rw [em]
                                                    exact f12
                                                  · obtain ⟨m12, e12, h⟩ := h
                                                    have f12 := f11.up e12 (by simp [rb_t])
                                                    obtain ⟨-, em⟩ := h
                                                    rw [em]
                                                    exact f12
                                                · obtain ⟨m12, e12, h⟩ := h
                                                  have f12 := f11.up e12 (by simp [rb_t])
                                                  obtain ⟨-, em⟩ := h
                                                  rw [em]
                                                  exact f12
                                              · obtain ⟨m12, e12, h⟩ := h
                                                have f12 := f11.up e12 (by simp [rb_t])
                                                obtain ⟨-, em⟩ := h
                                                rw [em]
                                                exact f12
                                            · obtain ⟨m11, e11, h⟩ := h
                                              have f11 := f10.up e11 (by simp [rb_t])
                                              rcases h with ⟨-, h⟩ | ⟨-, h⟩
                                              · rcases h with ⟨-, h⟩ | ⟨-, h⟩
                                                · rcases h with ⟨-, h⟩ | ⟨-, h⟩
                                                  · obtain ⟨m12, e12, h⟩ := h
                                                    have f12 := f11.up e12 (by simp [rb_t])
                                                    obtain ⟨-, em⟩ := h
                                                    rw [em]
                                                    exact f12
                                                  · obtain ⟨m12, e12, h⟩ := h
                                                    have f12 := f11.up e12 (by simp [rb_t])
                                                    obtain ⟨-, em⟩ := h
                                                    rw [em]
                                                    exact f12
                                                · obtain ⟨m12, e12, h⟩ := h
                                                  have f12 := f11.up e12 (by simp [rb_t])
                                                  obtain ⟨-, em⟩ := h
                                                  rw [em]
                                                  exact f12
                                              · obtain ⟨m12, e12, h⟩ := h
                                                have f12 := f11.up e12 (by simp [rb_t])
                                                obtain ⟨-, em⟩ := h
                                                rw [em]
                                                exact f12
                                          · obtain ⟨m9, e9, h⟩ := h
                                            have f9 := f8.up e9 (by simp [rb_t])
                                            obtain ⟨-, em⟩ := h
                                            rw [em]
                                            exact f9
                                        · obtain ⟨m9, e9, h⟩ := h
                                          have f9 := f8.up e9 (by simp [rb_t])
                                          obtain ⟨-, em⟩ := h
                                          rw [em]
                                          exact f9
                                      · obtain ⟨m9, e9, h⟩ := h
                                        have f9 := f8.up e9 (by simp [rb_t])
                                        obtain ⟨-, em⟩ := h
                                        rw [em]
                                        exact f9
                                    · obtain ⟨m9, e9, h⟩ := h
                                      have f9 := f8.up e9 (by simp [rb_t])
                                      obtain ⟨-, em⟩ := h
                                      rw [em]
                                      exact f9
                                  · obtain ⟨m9, e9, h⟩ := h
                                    have f9 := f8.up e9 (by simp [rb_t])
                                    obtain ⟨-, em⟩ := h
                                    rw [em]
                                    exact f9
                                · rcases h with ⟨-, h⟩ | ⟨-, h⟩
                                  · obtain ⟨m8, e8, h⟩ := h
                                    have f8 := f7.up e8 (by simp [rb_t])
                                    rcases h with ⟨-, h⟩ | ⟨-, h⟩
                                    · rcases h with ⟨-, h⟩ | ⟨-, h⟩
                                      · rcases h with ⟨-, h⟩ | ⟨-, h⟩
                                        · rcases h with ⟨-, h⟩ | ⟨-, h⟩
                                          · rcases h with ⟨-, h⟩ | ⟨-, h⟩
                                            · obtain ⟨m9, e9, h⟩ := h
                                              have f9 := f8.up e9 (by simp [rb_t])
                                              obtain ⟨m10, e10, h⟩ := h
                                              have f10 := f9.up e10 (by simp [rb_t])
                                              rcases h with ⟨-, h⟩ | ⟨-, h⟩
                                              · obtain ⟨m11, e11, h⟩ := h
                                                have f11 := f10.up e11 (by simp [rb_t])
                                                rcases h with ⟨-, h⟩ | ⟨-, h⟩
                                                · rcases h with ⟨-, h⟩ | ⟨-, h⟩
                                                  · rcases h with ⟨-, h⟩ | ⟨-, h⟩
                                                    · obtain ⟨m12, e12, h⟩ := h
                                                      have f12 := f11.up e12 (by simp [rb_t])
                                                      obtain ⟨-, em⟩ := h
                                                      rw [em]
                                                      exact f12
                                                    · obtain ⟨m12, e12, h⟩ := h
                                                      have f12 := f11.up e12 (by simp [rb_t])
                                                      obtain ⟨-, em⟩ := h
                                                      rw [em]
                                                      exact f12
                                                  · obtain ⟨m12, e12, h⟩ := h
                                                    have f12 := f11.up e12 (by simp [rb_t])
                                                    obtain ⟨-, em⟩ := h
                                                    rw [em]
                                                    exact f12
                                                · obtain ⟨m12, e12, h⟩ := h
                                                  have f12 := f11.up e12 (by simp [rb_t])
                                                  obtain ⟨-, em⟩ := h
                                                  rw [em]
                                                  exact f12
                                              · obtain ⟨m11, e11, h⟩ := h
                                                have f11 := f10.up e11 (by simp [rb_t])
                                                rcases h with ⟨-, h⟩ | ⟨-, h⟩
                                                · rcases h with ⟨-, h⟩ | ⟨-, h⟩
                                                  · rcases h with ⟨-, h⟩ | ⟨-, h⟩
                                                    · obtain ⟨m12, e12, h⟩ := h
                                                      have f12 := f11.up e12 (by simp [rb_t])
                                                      obtain ⟨-, em⟩ := h
                                                      rw [em]
                                                      exact f12
                                                    · obtain ⟨m12, e12, h⟩ := h
                                                      have f12 := f11.up e12 (by simp [rb_t])
                                                      obtain ⟨-, em⟩ := h
                                                      rw [em]
                                                      exact f12
                                                  · obtain ⟨m12, e12, h⟩ := h
                                                    have f12 := f11.up e12 (by simp [rb_t])
                                                    obtain ⟨-, em⟩ := h
                                                    rw [em]
                                                    exact f12
                                                · obtain ⟨m12, e12, h⟩ := h
                                                  have f12 := f11.up e12 (by simp [rb_t])
                                                  obtain ⟨-, em⟩ := h
                                                  rw [em]
                                                  exact f12
                                            · obtain ⟨m9, e9, h⟩ := h
                                              have f9 := f8.up e9 (by simp [rb_t])
                                              obtain ⟨-, em⟩ := h
                                              rw [em]
                                              exact f9
                                          · obtain ⟨m9, e9, h⟩ := h
                                            have f9 := f8.up e9 (by simp [rb_t])
                                            obtain ⟨-, em⟩ := h
                                            rw [em]
                                            exact f9
                                        · obtain ⟨m9, e9, h⟩ := h
                                          have f9 := f8.up e9 (by simp [rb_t])
                                          obtain ⟨-, em⟩ := h
                                          rw [em]
                                          exact f9
                                      · obtain ⟨m9, e9, h⟩ := h
                                        have f9 := f8.up e9 (by simp [rb_t])
                                        obtain ⟨-, em⟩ := h
                                        rw [em]
                                        exact f9
                                    · obtain ⟨m9, e9, h⟩ := h
                                      have f9 := f8.up e9 (by simp [rb_t])
                                      obtain ⟨-, em⟩ := h
                                      rw [em]
                                      exact f9
                                  · obtain ⟨m8, e8, h⟩ := h
                                    have f8 := f7.up e8 (by simp [rb_t])
                                    rcases h with ⟨-, h⟩ | ⟨-, h⟩
                                    · rcases h with ⟨-, h⟩ | ⟨-, h⟩
                                      · rcases h with ⟨-, h⟩ | ⟨-, h⟩
                                        · rcases h with ⟨-, h⟩ | ⟨-, h⟩
                                          · rcases h with ⟨-, h⟩ | ⟨-, h⟩
                                            · obtain ⟨m9, e9, h⟩ := h
                                              have f9 := f8.up e9 (by simp [rb_t])
                                              obtain ⟨m10, e10, h⟩ := h
                                              have f10 := f9.up e10 (by simp [rb_t])
                                              rcases h with ⟨-, h⟩ | ⟨-, h⟩
                                              · obtain ⟨m11, e11, h⟩ := h
                                                have f11 := f10.up e11 (by simp [rb_t])
                                                rcases h with ⟨-, h⟩ | ⟨-, h⟩
                                                · rcases h with ⟨-, h⟩ | ⟨-, h⟩
                                                  · rcases h with ⟨-, h⟩ | ⟨-, h⟩
                                                    · obtain ⟨m12, e12, h⟩ := h
                                                      have f12 := f11.up e12 (by simp [rb_t])
                                                      obtain ⟨-, em⟩ := h
                                                      rw [em]
                                                      exact f12
                                                    · obtain ⟨m12, e12, h⟩ := h
                                                      have f12 := f11.up e12 (by simp [rb_t])
                                                      obtain ⟨-, em⟩ := h
                                                      rw [em]
                                                      exact f12
                                                  · obtain ⟨m12, e12, h⟩ := h
                                                    have f12 := f11.up e12 (by simp [rb_t])
                                                    obtain ⟨-, em⟩ := h
                                                    rw [em]
                                                    exact f12
                                                · obtain ⟨m12, e12, h⟩ := h
                                                  have f12 := f11.up e12 (by simp [rb_t])
                                                  obtain ⟨-, em⟩ := h
                                                  rw [em]
                                                  exact f12
                                              · obtain ⟨m11, e11, h⟩ := h
                                                have f11 := f10.up e11 (by simp [rb_t])
                                                rcases h with ⟨-, h⟩ | ⟨-, h⟩
                                                · rcases h with ⟨-, h⟩ | ⟨-, h⟩
                                                  · rcases h with ⟨-, h⟩ | ⟨-, h⟩
                                                    · obtain ⟨m12, e12, h⟩ := h
                                                      have f12 := f11.up e12 (by simp [rb_t])
                                                      obtain ⟨-, em⟩ := h
                                                      rw [em]
                                                      exact f12
                                                    · obtain ⟨m12, e12, h⟩ := h
                                                      have f12 := f11.up e12 (by simp [rb_t])
                                                      obtain ⟨-, em⟩ := h
                                                      rw [em]
                                                      exact f12
                                                  · obtain ⟨m12, e12, h⟩ := h
                                                    have f12 := f11.up e12 (by simp [rb_t])
                                                    obtain ⟨-, em⟩ := h
                                                    rw [em]
                                                    exact f12
                                                · obtain ⟨m12, e12, h⟩ := h
                                                  have f12 := f11.up e12 (by simp [rb_t])
                                                  obtain ⟨-, em⟩ := h
                                                  rw [em]
                                                  exact f12
                                            · obtain ⟨m9, e9, h⟩ := h
                                              have f9 := f8.up e9 (by simp [rb_t])
                                              obtain ⟨-, em⟩ := h
                                              rw [em]
                                              exact f9
                                          · obtain ⟨m9, e9, h⟩ := h
                                            have f9 := f8.up e9 (by simp [rb_t])
                                            obtain ⟨-, em⟩ := h
                                            rw [em]
                                            exact f9
                                        · obtain ⟨m9, e9, h⟩ := h
                                          have f9 := f8.up e9 (by simp [rb_t])
                                          obtain ⟨-, em⟩ := h
                                          rw [em]
                                          exact f9
                                      · obtain ⟨m9, e9, h⟩ := h
                                        have f9 := f8.up e9 (by simp [rb_t])
                                        obtain ⟨-, em⟩ := h
                                        rw [em]
                                        exact f9
                                    · obtain ⟨m9, e9, h⟩ := h
                                      have f9 := f8.up e9 (by simp [rb_t])
                                      obtain ⟨-, em⟩ := h
                                      rw [em]
                                      exact f9
                              · obtain ⟨m7, e7, h⟩ := h
                                have f7 := f6.up e7 (by simp [rb_t])
                                obtain ⟨-, em⟩ := h
                                rw [em]
                                exact f7
                            · obtain ⟨m7, e7, h⟩ := h
                              have f7 := f6.up e7 (by simp [rb_t])
                              obtain ⟨-, em⟩ := h
                              rw [em]
                              exact f7
                          · obtain ⟨m7, e7, h⟩ := h
                            have f7 := f6.up e7 (by simp [rb_t])
                            obtain ⟨-, em⟩ := h
                            rw [em]
                            exact f7
                        · obtain ⟨m7, e7, h⟩ := h
                          have f7 := f6.up e7 (by simp [rb_t])
                          obtain ⟨-, em⟩ := h
                          rw [em]
                          exact f7
                      · obtain ⟨m7, e7, h⟩ := h
                        have f7 := f6.up e7 (by simp [rb_t])
                        obtain ⟨-, em⟩ := h
                        rw [em]
                        exact f7
                    · obtain ⟨m7, e7, h⟩ := h
                      have f7 := f6.up e7 (by simp [rb_t])
                      obtain ⟨-, em⟩ := h
                      rw [em]
                      exact f7
                  · obtain ⟨m7, e7, h⟩ := h
                    have f7 := f6.up e7 (by simp [rb_t])
                    obtain ⟨-, em⟩ := h
                    rw [em]
                    exact f7
                · obtain ⟨m7, e7, h⟩ := h
                  have f7 := f6.up e7 (by simp [rb_t])
                  obtain ⟨-, em⟩ := h
                  rw [em]
                  exact f7
              · obtain ⟨m5, e5, h⟩ := h
                have f5 := f4.up e5 (by simp [rb_t])
                obtain ⟨-, em⟩ := h
                rw [em]
                exact f5
            · obtain ⟨m5, e5, h⟩ := h
              have f5 := f4.up e5 (by simp [rb_t])
              obtain ⟨-, em⟩ := h
              rw [em]
              exact f5
          · obtain ⟨m5, e5, h⟩ := h
            have f5 := f4.up e5 (by simp [rb_t])
            obtain ⟨-, em⟩ := h
            rw [em]
            exact f5
        · obtain ⟨m3, e3, h⟩ := h
          have f3 := f2.up e3 (by simp [rb_t])
          obtain ⟨-, em⟩ := h
          rw [em]
          exact f3
      · obtain ⟨m3, e3, h⟩ := h
        have f3 := f2.up e3 (by simp [rb_t])
        obtain ⟨-, em⟩ := h
        rw [em]
        exact f3
    · obtain ⟨m3, e3, h⟩ := h
      have f3 := f2.up e3 (by simp [rb_t])
      obtain ⟨-, em⟩ := h
      rw [em]
      exact f3
  · obtain ⟨m3, e3, h⟩ := h
    have f3 := f2.up e3 (by simp [rb_t])
    obtain ⟨-, em⟩ := h
    rw [em]
    exact f3
theorem rb_204 {x0 : Int} {m : dc_M} {v : Int} {m' : dc_M} (h : D_204 x0 m v m') : rb_f m m' := by
  obtain ⟨v1, m1, h1, h⟩ := h
  have f1 := (rb_f.rf (m := m)).tr (rb_188 h1)
  obtain ⟨-, em⟩ := h
  rw [em]
  exact f1
theorem rb_205 {x0 : Int} {m : dc_M} {v : Int} {m' : dc_M} (h : D_205 x0 m v m') : rb_f m m' := by
  obtain ⟨v1, m1, h1, h⟩ := h
  have f1 := (rb_f.rf (m := m)).tr (rb_204 h1)
  rcases h with ⟨-, h⟩ | ⟨-, h⟩
  · obtain ⟨-, em⟩ := h
    rw [em]
    exact f1
  · obtain ⟨-, em⟩ := h
    rw [em]
    exact f1
theorem rb_206 {x0 : Int} {m : dc_M} {v : Int} {m' : dc_M} (h : D_206 x0 m v m') : rb_f m m' := by
  rcases h with ⟨-, h⟩ | ⟨-, h⟩
  · obtain ⟨v1, m1, h1, h⟩ := h
    have f1 := (rb_f.rf (m := m)).tr (rb_199 h1)
    obtain ⟨-, em⟩ := h
    rw [em]
    exact f1
  · obtain ⟨v1, m1, h1, h⟩ := h
    have f1 := (rb_f.rf (m := m)).tr (rb_203 h1)
    rcases h with ⟨-, h⟩ | ⟨-, h⟩
    · obtain ⟨v2, m2, h2, h⟩ := h
      have f2 := f1.tr (rb_198 h2)
      rcases h with ⟨-, h⟩ | ⟨-, h⟩
      · rcases h with ⟨-, h⟩ | ⟨-, h⟩
        · obtain ⟨v3, m3, h3, h⟩ := h
          have f3 := f2.tr (rb_199 h3)
          obtain ⟨-, em⟩ := h
          rw [em]
          exact f3
        · obtain ⟨-, h⟩ := h
          obtain ⟨v3, m3, h3, h⟩ := h
          have f3 := f2.tr (rb_205 h3)
          rcases h with ⟨-, h⟩ | ⟨-, h⟩
          · obtain ⟨-, h⟩ := h
            obtain ⟨-, h⟩ := h
            obtain ⟨m4, e4, h⟩ := h
            have f4 := f3.up e4 (by simp [rb_t])
            obtain ⟨-, em⟩ := h
            rw [em]
            exact f4
          · obtain ⟨v4, m4, h4, h⟩ := h
            have f4 := f3.tr (rb_199 h4)
            obtain ⟨-, em⟩ := h
            rw [em]
            exact f4
      · obtain ⟨v3, m3, h3, h⟩ := h
        have f3 := f2.tr (rb_201 h3)
        rcases h with ⟨-, h⟩ | ⟨-, h⟩
        · rcases h with ⟨-, h⟩ | ⟨-, h⟩
          · rcases h with ⟨-, h⟩ | ⟨-, h⟩
            · obtain ⟨v4, m4, h4, h⟩ := h
              have f4 := f3.tr (rb_199 h4)
              obtain ⟨-, em⟩ := h
              rw [em]
              exact f4
            · obtain ⟨-, h⟩ := h
              obtain ⟨v4, m4, h4, h⟩ := h
              have f4 := f3.tr (rb_205 h4)
              rcases h with ⟨-, h⟩ | ⟨-, h⟩
              · obtain ⟨-, h⟩ := h
                obtain ⟨-, h⟩ := h
                obtain ⟨m5, e5, h⟩ := h
                have f5 := f4.up e5 (by simp [rb_t])
                obtain ⟨-, em⟩ := h
                rw [em]
                exact f5
              · obtain ⟨v5, m5, h5, h⟩ := h
                have f5 := f4.tr (rb_199 h5)
                obtain ⟨-, em⟩ := h
                rw [em]
                exact f5
          · obtain ⟨v4, m4, h4, h⟩ := h
            have f4 := f3.tr (rb_200 h4)
            rcases h with ⟨-, h⟩ | ⟨-, h⟩
            · obtain ⟨-, em⟩ := h
              rw [em]
              exact f4
            · obtain ⟨v5, m5, h5, h⟩ := h
              have f5 := f4.tr (rb_201 h5)
              rcases h with ⟨-, h⟩ | ⟨-, h⟩
              · rcases h with ⟨-, h⟩ | ⟨-, h⟩
                · obtain ⟨v6, m6, h6, h⟩ := h
                  have f6 := f5.tr (rb_199 h6)
                  obtain ⟨-, em⟩ := h
                  rw [em]
                  exact f6
                · obtain ⟨-, h⟩ := h
                  obtain ⟨v6, m6, h6, h⟩ := h
                  have f6 := f5.tr (rb_205 h6)
                  rcases h with ⟨-, h⟩ | ⟨-, h⟩
                  · obtain ⟨-, h⟩ := h
                    obtain ⟨-, h⟩ := h
                    obtain ⟨m7, e7, h⟩ := h
                    have f7 := f6.up e7 (by simp [rb_t])
                    obtain ⟨-, em⟩ := h
                    rw [em]
                    exact f7
                  · obtain ⟨v7, m7, h7, h⟩ := h
                    have f7 := f6.tr (rb_199 h7)
                    obtain ⟨-, em⟩ := h
                    rw [em]
                    exact f7
              · obtain ⟨-, em⟩ := h
                rw [em]
                exact f5
        · obtain ⟨-, em⟩ := h
          rw [em]
          exact f3
    · obtain ⟨v2, m2, h2, h⟩ := h
      have f2 := f1.tr (rb_199 h2)
      obtain ⟨-, em⟩ := h
      rw [em]
      exact f2
def rc_t (k : Nat) (i : Int) : Prop := k = 114 ∨ k = 121 ∨ ((k = 118 ∨ k = 119) ∧ 60 ≤ i ∧ i < 120) ∨ (k = 120 ∧ i = 1)
def rc_f (m m' : dc_M) : Prop := ∀ (k : Nat) (i : Int), ¬ rc_t k i → m' k i = m k i
theorem rc_f.rf {m : dc_M} : rc_f m m := fun _ _ _ => rfl
theorem rc_f.tr {a b c : dc_M} (h : rc_f a b) (g : rc_f b c) : rc_f a c := fun k i z => (g k i z).trans (h k i z)
theorem rc_f.up {a m m1 : dc_M} {k : Nat} {i v : Int} (h : rc_f a m) (e : m1 = dc_up m k i v) (hx : rc_t k i) : rc_f a m1 := fun k' i' z => by
  rw [e]
  refine (if_neg (fun q => ?_)).trans (h k' i' z)
  rw [q.1, q.2] at z
  exact z hx
def rd_t (k : Nat) (i : Int) : Prop := k = 114 ∨ k = 121 ∨ ((k = 118 ∨ k = 119) ∧ 0 ≤ i ∧ i < 120) ∨ (k = 120 ∧ (i = 0 ∨ i = 1))
def rd_f (m m' : dc_M) : Prop := ∀ (k : Nat) (i : Int), ¬ rd_t k i → m' k i = m k i
theorem rd_f.rf {m : dc_M} : rd_f m m := fun _ _ _ => rfl
theorem rd_f.tr {a b c : dc_M} (h : rd_f a b) (g : rd_f b c) : rd_f a c := fun k i z => (g k i z).trans (h k i z)
theorem rd_f.up {a m m1 : dc_M} {k : Nat} {i v : Int} (h : rd_f a m) (e : m1 = dc_up m k i v) (hx : rd_t k i) : rd_f a m1 := fun k' i' z => by
  rw [e]
  refine (if_neg (fun q => ?_)).trans (h k' i' z)
  rw [q.1, q.2] at z
  exact z hx
theorem rb_f.c {a b : dc_M} (h : rb_f a b) : rc_f a b := fun k i z => h k i (fun y => z (by
  rcases y with y | y
  · exact Or.inl y
  · exact Or.inr (Or.inl y)))
theorem rc_f.d {a b : dc_M} (h : rc_f a b) : rd_f a b := fun k i z => h k i (fun y => z (by
  unfold rd_t
  rcases y with y | y | ⟨y, y1, y2⟩ | ⟨y, y1⟩
  · exact Or.inl y
  · exact Or.inr (Or.inl y)
  · exact Or.inr (Or.inr (Or.inl ⟨y, by omega, y2⟩))
  · exact Or.inr (Or.inr (Or.inr ⟨y, Or.inr y1⟩))))
theorem rc_207 {m : dc_M} {v : Int} {m' : dc_M} (h : D_207 m v m') (h0 : 0 ≤ m 120 1) (h60 : m 120 1 ≤ 60) : rc_f m m' := by
  have key : ∀ (c : Nat) (m : dc_M) (v : Int) (m' : dc_M), LM_207 c 0 m v m' → 0 ≤ m 120 1 → m 120 1 ≤ 60 → rc_f m m' := by
    intro c
    induction c with
    | zero => intro m v m' h; exact h.elim
    | succ c ih =>
      intro m v m' h h0 h60
      replace h := lm_207_0.mp h
      rcases h with ⟨-, -, em⟩ | ⟨-, h⟩
      · rw [em]; exact rc_f.rf
      · rcases h with ⟨-, v1, m1, h1, -, em⟩ | ⟨-, v1, m1, h1, h⟩
        · rw [em]; exact (rb_199 h1).c
        · have f1 := rb_203 h1
          rcases h with ⟨-, v2, m2, h2, -, em⟩ | ⟨-, -, h⟩
          · rw [em]; exact (f1.tr (rb_199 h2)).c
          · rcases h with ⟨c4, v2, m2, h2, h⟩ | ⟨-, v2, m2, h2, -, em⟩
            · have f2 := f1.tr (rb_206 h2)
              rcases h with ⟨-, -, em⟩ | ⟨-, v3, m3, h3, h⟩
              · rw [em]; exact f2.c
              · have f3 := f2.tr (rb_200 h3)
                rcases h with ⟨-, v4, m4, h4, h⟩ | ⟨-, -, em⟩
                · have f4 := f3.tr (rb_206 h4)
                  rcases h with ⟨-, -, em⟩ | ⟨-, v5, m5, h5, h⟩
                  · rw [em]; exact f4.c
                  · have f5 := f4.tr (rb_200 h5)
                    rcases h with ⟨-, -, -, m6, e6, -, -, m7, e7, -, -, m8, e8, h⟩ | ⟨-, -, em⟩
                    · have g1 : m1 120 1 = m 120 1 := f1 120 1 (by simp [rb_t])
                      have g5 : m5 120 1 = m 120 1 := f5 120 1 (by simp [rb_t])
                      have lt : m 120 1 < 60 := by rw [g1] at c4; clear h h1 h2 h3 h4 h5; omega
                      have w : dc_w (60 + m 120 1) = 60 + m 120 1 := dc_w_eq (by unfold sv_I; clear h h1 h2 h3 h4 h5; omega)
                      have w1 : dc_w (m 120 1 + 1) = m 120 1 + 1 := dc_w_eq (by unfold sv_I; clear h h1 h2 h3 h4 h5; omega)
                      rw [g5, w] at e6
                      have g6 : m6 120 1 = m 120 1 := by rw [e6, dc_up_k (by decide), g5]
                      rw [g6, w] at e7
                      have g7 : m7 120 1 = m 120 1 := by rw [e7, dc_up_k (by decide), g6]
                      rw [g7, w1] at e8
                      have f8 : rc_f m m8 := ((f5.c.up e6 (Or.inr (Or.inr (Or.inl ⟨Or.inl rfl, by clear h h1 h2 h3 h4 h5; omega, by clear h h1 h2 h3 h4 h5; omega⟩)))).up e7 (Or.inr (Or.inr (Or.inl ⟨Or.inr rfl, by clear h h1 h2 h3 h4 h5; omega, by clear h h1 h2 h3 h4 h5; omega⟩)))).up e8 (Or.inr (Or.inr (Or.inr ⟨rfl, rfl⟩)))
                      exact f8.tr (ih m8 v m' h (by rw [e8, dc_up_s]; clear h h1 h2 h3 h4 h5; omega) (by rw [e8, dc_up_s]; clear h h1 h2 h3 h4 h5; omega))
                    · rw [em]; exact f5.c
                · rw [em]; exact f3.c
            · rw [em]; exact (f1.tr (rb_199 h2)).c
  obtain ⟨c, h⟩ := h
  exact key c m v m' h h0 h60
/-- a board copied from one place to another -/
theorem rz_cp {x y : Int} (hx : 0 ≤ x ∧ x < 10) (hy : 0 ≤ y ∧ y < 10) (hxy : x ≠ y) : ∀ (c : Nat) (l : Int) (m : dc_M) (v : Int) (m' : dc_M), LM_208 x y c 14 l m v m' → 0 ≤ l → l ≤ 60 → (∀ (k : Nat) (i : Int), ¬ ((k = 118 ∨ k = 119) ∧ 60 * y + l ≤ i ∧ i < 60 * y + 60) → m' k i = m k i) ∧ ∀ i : Int, l ≤ i → i < 60 → m' 118 (60 * y + i) = m 118 (60 * x + i) ∧ m' 119 (60 * y + i) = m 119 (60 * x + i) := by
  intro c
  induction c with
  | zero => intro l m v m' h; exact h.elim
  | succ c ih =>
    intro l m v m' h l0 l60
    have wx : dc_w (60 * x) = 60 * x := dc_w_eq (by unfold sv_I; clear h; omega)
    have wy : dc_w (60 * y) = 60 * y := dc_w_eq (by unfold sv_I; clear h; omega)
    replace h := lm_208_14.mp h
    rcases h with ⟨c1, -, em⟩ | ⟨c1, -, -, m1, e1, -, -, m2, e2, h⟩
    · rw [em]
      exact ⟨fun _ _ _ => rfl, fun i h1 h2 => by exfalso; omega⟩
    · have wxl : dc_w (60 * x + l) = 60 * x + l := dc_w_eq (by unfold sv_I; clear h; omega)
      have wyl : dc_w (60 * y + l) = 60 * y + l := dc_w_eq (by unfold sv_I; clear h; omega)
      have w1 : dc_w (l + 1) = l + 1 := dc_w_eq (by unfold sv_I; clear h; omega)
      rw [wx, wxl, wy, wyl] at e1 e2
      rw [w1] at h
      obtain ⟨i1, i2⟩ := ih (l + 1) m2 v m' h (by clear h; omega) (by clear h; omega)
      clear h
      refine ⟨fun k i z => ?_, fun i h1 h2 => ?_⟩
      · rw [i1 k i (fun q => z ⟨q.1, by omega, q.2.2⟩), e2]
        refine (if_neg (fun q => z ⟨Or.inr q.1, by omega, by omega⟩)).trans ?_
        rw [e1]
        exact if_neg (fun q => z ⟨Or.inl q.1, by omega, by omega⟩)
      · by_cases z : i = l
        · subst z
          rw [i1 118 _ (by omega), i1 119 _ (by omega), e2, dc_up_k (by decide), dc_up_s, e1, dc_up_s, dc_up_k (by decide)]
          exact ⟨rfl, rfl⟩
        · obtain ⟨q1, q2⟩ := i2 i (by omega) h2
          rw [q1, q2, e2, dc_up_k (by decide), dc_up_i (by omega), e1, dc_up_i (by omega), dc_up_k (by decide)]
          exact ⟨rfl, rfl⟩
/-- the reference's board at a place -/
def rz_V (m : dc_M) (s : Int) (W : List (Int × Int)) : Prop := m 120 s = (W.length : Int) ∧ W.length ≤ 60 ∧ ∀ i : Nat, i < W.length → m 118 (60 * s + (i : Int)) = (W.getD i (0, 0)).1 ∧ m 119 (60 * s + (i : Int)) = (W.getD i (0, 0)).2
theorem rz_copyV {x y : Int} (hxy : x ≠ y) {m : dc_M} {v : Int} {m' : dc_M} (h : D_208 x y m v m') : (∀ W, rz_V m x W → rz_V m' y W) ∧ m' 120 y = m 120 x ∧ ∀ (k : Nat) (i : Int), ¬ ((k = 118 ∨ k = 119) ∧ 60 * y ≤ i ∧ i < 60 * y + 60) → ¬ (k = 120 ∧ i = y) → m' k i = m k i := by
  obtain ⟨hx, hy, m1, e1, c, h⟩ := h
  obtain ⟨q1, q2⟩ := rz_cp hx hy hxy c 0 m1 v m' h (by decide) (by decide)
  clear h
  have f : ∀ (k : Nat) (i : Int), ¬ (k = 120 ∧ i = y) → m1 k i = m k i := fun k i z => by rw [e1]; exact if_neg z
  have g : m' 120 y = m 120 x := by rw [q1 120 y (by omega), e1, dc_up_s]
  refine ⟨fun W hW => ⟨g.trans hW.1, hW.2.1, fun i hi => ?_⟩, g, fun k i z1 z2 => (q1 k i (by omega)).trans (f k i z2)⟩
  have := hW.2.1
  obtain ⟨p1, p2⟩ := q2 i (by omega) (by omega)
  rw [p1, p2, f 118 _ (by omega), f 119 _ (by omega)]
  exact hW.2.2 i hi
theorem rz_boardlW {t : Int → Int} {n : Int} : ∀ (c : Nat) (l : Int) (m : dc_M) (v : Int) (m' : dc_M), LM_209 c 30 l m v m' → 0 ≤ l → (∀ x, 0 ≤ x → x < l → x < 217 → m 121 x = 0) → rz_B m t n 700 → m 114 4 = 0 → m 120 1 = 0 → rd_f m m' ∧ match pz_all t n with
    | .inl _ => rc_f m m'
    | .inr W => rz_V m' 0 W := by
  intro c
  induction c with
  | zero => intro l m v m' h; exact h.elim
  | succ c ih =>
    intro l m v m' h h0 hz B h4 h120
    replace h := lm_209_30.mp h
    rcases h with ⟨c1, v1, m1, hn0, v2, m2, hr0, h⟩ | ⟨c1, -, m1, e1, h⟩
    · have b := B.2.2.2
      have f1 := rb_198 hn0
      obtain ⟨cn, hn⟩ := hn0
      obtain ⟨F1, T1⟩ := rz_nextl cn 0 0 m v1 m1 hn B (by (try clear h); (try clear hr0); omega) (by (try clear h); (try clear hr0); omega)
      rw [h4] at T1
      have S1 : rz_S m1 t n 700 0 := ⟨B.go F1 (by decide) (by decide), T1, by (try clear h); (try clear hr0); omega, by (try clear h); (try clear hr0); omega⟩
      have g120 : m1 120 1 = 0 := by rw [F1 120 1 (Or.inl (by decide)), h120]
      have W1 : rz_W m1 [] := ⟨by rw [g120]; rfl, by show 0 ≤ 60; decide, fun i hi => (by cases hi), fun x y1 y2 => by rw [F1 121 x (Or.inl (by decide)), hz x y1 (by (try clear h); (try clear hr0); omega) y2]; rfl, fun x => by show (0 : Int) ≤ _; split <;> decide⟩
      have f2 := f1.c.tr (rc_207 hr0 (by rw [g120]; decide) (by rw [g120]; decide))
      obtain ⟨cr, hr⟩ := hr0
      have q := rz_read cr m1 v2 m2 [] 0 61 hr rfl S1 W1
      unfold pz_all
      cases e : pz_rd t n 61 [] 0 with
      | inl f =>
        obtain ⟨q1, q2⟩ := pz_on_l q e
        rcases h with ⟨c2, -⟩ | ⟨c2, ev, em⟩
        · exact absurd q1 c2
        · rw [em]; exact ⟨f2.d, f2⟩
      | inr W =>
        obtain ⟨q1, q2, q3⟩ := pz_on_r q e
        rcases h with ⟨c2, v3, m3, h3, -, ev, em⟩ | ⟨c2, -⟩
        · rw [em]
          obtain ⟨y1, y2, y3⟩ := rz_copyV (by decide) h3
          have V1 : rz_V m2 1 W := ⟨q2.1, q2.2.1, fun i hi => q2.2.2.1 i hi⟩
          refine ⟨fun k i z => ?_, y1 W V1⟩
          unfold rd_t at z
          rw [y3 k i (fun y => z (Or.inr (Or.inr (Or.inl ⟨y.1, by (try clear h3); (try clear q); omega, by (try clear h3); (try clear q); omega⟩)))) (fun y => z (Or.inr (Or.inr (Or.inr ⟨y.1, Or.inl y.2⟩))))]
          exact f2.d k i z
        · exact absurd (show v2 ≠ 0 by rw [q1]; decide) c2
    · rw [dc_w_eq (by unfold sv_I; (try clear h); omega)] at h
      have f1 : rc_f m m1 := (rc_f.rf (m := m)).up e1 (Or.inr (Or.inl rfl))
      obtain ⟨y1, y2⟩ := ih (l + 1) m1 v m' h (by (try clear h); omega) (fun x y1 y2 y3 => by
        by_cases z : x = l
        · rw [e1, z, dc_up_s]
        · rw [e1, dc_up_i z]; exact hz x y1 (by (try clear h); omega) y3) ⟨fun i => by rw [← B.1 i]; unfold rz_t; rw [e1, dc_up_k (by decide)], by rw [e1, dc_up_k (by decide)]; exact B.2.1, by rw [e1, dc_up_k (by decide)]; exact B.2.2.1, B.2.2.2⟩ (by rw [e1, dc_up_k (by decide)]; exact h4) (by rw [e1, dc_up_k (by decide)]; exact h120)
      refine ⟨f1.d.tr y1, ?_⟩
      cases e : pz_all t n with
      | inl f => rw [e] at y2; exact f1.tr y2
      | inr W => rw [e] at y2; exact y2
theorem rz_boardW {m : dc_M} {v : Int} {m' : dc_M} (h : D_209 m v m') (hn : 0 ≤ m 114 2 ∧ m 114 2 ≤ 740) : rd_f m m' ∧ match pz_all (rz_t m) (m 114 2) with
    | .inl _ => rc_f m m'
    | .inr W => rz_V m' 0 W := by
  obtain ⟨m1, e1, v2, m5, ⟨m2, e2, m3, e3, m4, e4, -, e5⟩, m6, e6, m7, e7, -, m8, e8, c, h⟩ := h
  subst e5
  have g2 : m1 114 2 = m 114 2 := by rw [e1, dc_up_i (by decide)]
  have f5 : ∀ i, m8 115 i = m 115 i := fun i => by rw [e8, dc_up_k (by decide), e7, dc_up_k (by decide), e6, dc_up_k (by decide), e4, dc_up_k (by decide), e3, dc_up_k (by decide), e2, dc_up_k (by decide), e1, dc_up_k (by decide)]
  have f8 : rc_f m m8 := ((((((((rc_f.rf (m := m)).up e1 (Or.inl rfl)).up e2 (Or.inl rfl)).up e3 (Or.inl rfl)).up e4 (Or.inl rfl)).up e6 (Or.inl rfl)).up e7 (Or.inl rfl)).up e8 (Or.inr (Or.inr (Or.inr ⟨rfl, rfl⟩))))
  obtain ⟨y1, y2⟩ := rz_boardlW (t := rz_t m) (n := m 114 2) c 0 m8 v m' h (by decide) (fun x y1 y2 => by omega) ⟨fun i => by unfold rz_t; rw [f5], by rw [e8, dc_up_k (by decide), e7, dc_up_i (by decide), e6, dc_up_i (by decide), e4, dc_up_i (by decide), e3, dc_up_i (by decide), e2, dc_up_s, g2], by rw [e8, dc_up_k (by decide), e7, dc_up_s], hn⟩ (by rw [e8, dc_up_k (by decide), e7, dc_up_i (by decide), e6, dc_up_i (by decide), e4, dc_up_s]) (by rw [e8, dc_up_s])
  refine ⟨f8.d.tr y1, ?_⟩
  cases e : pz_all (rz_t m) (m 114 2) with
  | inl f => rw [e] at y2; exact f8.tr y2
  | inr W => rw [e] at y2; exact y2
