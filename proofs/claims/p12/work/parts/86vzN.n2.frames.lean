/-! WHAT THE METHODS LEAVE that change nothing which is looked at (printed by wip/mach/gn2.py) -/
def fx_t (k : Nat) (i : Int) : Prop := (k = 1 ∧ i = 1) ∨ k = 2
def fx_f (m m' : dc_M) : Prop := ∀ (k : Nat) (i : Int), ¬ fx_t k i → m' k i = m k i
theorem fx_f.rf {m : dc_M} : fx_f m m := fun _ _ _ => rfl
theorem fx_f.tr {a b c : dc_M} (h : fx_f a b) (g : fx_f b c) : fx_f a c := fun k i z => (g k i z).trans (h k i z)
theorem fx_f.up {a m m1 : dc_M} {k : Nat} {i v : Int} (h : fx_f a m) (e : m1 = dc_up m k i v) (hx : fx_t k i) : fx_f a m1 := fun k' i' z => by
  rw [e]
  refine (if_neg (fun q => ?_)).trans (h k' i' z)
  rw [q.1, q.2] at z
  exact z hx
theorem fx_f.cp {a m m1 : dc_M} {s : Nat} {sp : Int} {d : Nat} {dp c : Int} (h : fx_f a m) (e : m1 = dc_cpy m s sp d dp c) (hx : ∀ i, fx_t d i) : fx_f a m1 := fun k' i' z => by
  rw [e]
  refine (if_neg (fun q => ?_)).trans (h k' i' z)
  rw [q.1] at z
  exact z (hx _)
theorem fx_f.fi {a m m1 : dc_M} {k : Nat} {len v : Int} (h : fx_f a m) (e : m1 = dc_fill m k len v) (hx : ∀ i, fx_t k i) : fx_f a m1 := fun k' i' z => by
  rw [e]
  refine (if_neg (fun q => ?_)).trans (h k' i' z)
  rw [q.1] at z
  exact z (hx _)
theorem fx_113 {x0 : Int} {m : dc_M} {v : Int} {m' : dc_M} (h : D_113 x0 m v m') : fx_f m m' := by
  have key : ∀ c : Nat, (∀ (l2 : Int) (m : dc_M) (v : Int) (m' : dc_M), LM_113 x0 c 3 l2 m v m' → fx_f m m') := by
    intro c'
    induction c' with
    | zero => exact fun _ _ _ _ h => h.elim
    | succ c ih =>
      intro l2 m v m' h
      replace h := lm_113_3.mp h
      rcases h with ⟨-, h⟩ | ⟨-, h⟩
      · obtain ⟨-, em⟩ := h
        rw [em]
        exact (fx_f.rf (m := m))
      · rcases h with ⟨-, h⟩ | ⟨-, h⟩
        · obtain ⟨-, em⟩ := h
          rw [em]
          exact (fx_f.rf (m := m))
        · obtain ⟨-, h⟩ := h
          obtain ⟨m1, e1, h⟩ := h
          have f1 := (fx_f.rf (m := m)).up e1 (by simp [fx_t])
          obtain ⟨m2, e2, h⟩ := h
          have f2 := f1.up e2 (by simp [fx_t])
          exact f2.tr (ih _ _ _ _ h)
  obtain ⟨c, h⟩ := h
  exact (fx_f.rf (m := m)).tr ((key c) _ _ _ _ h)
theorem fx_144 {x0 : Int} {x1 : Int} {x2 : Int} {x3 : Int} {x4 : Int} {m : dc_M} {v : Int} {m' : dc_M} (h : D_144 x0 x1 x2 x3 x4 m v m') : fx_f m m' := by
  rcases h with ⟨-, h⟩ | ⟨-, h⟩
  · obtain ⟨v1, m1, h1, h⟩ := h
    have f1 := (fx_f.rf (m := m)).tr (fx_113 h1)
    obtain ⟨v2, m2, h2, h⟩ := h
    have f2 := f1.tr (fx_113 h2)
    obtain ⟨v3, m3, h3, h⟩ := h
    have f3 := f2.tr (fx_113 h3)
    obtain ⟨v4, m4, h4, h⟩ := h
    have f4 := f3.tr (fx_113 h4)
    obtain ⟨v5, m5, h5, h⟩ := h
    have f5 := f4.tr (fx_113 h5)
    obtain ⟨-, em⟩ := h
    rw [em]
    exact f5
  · obtain ⟨-, em⟩ := h
    rw [em]
    exact (fx_f.rf (m := m))
def fy_t (k : Nat) (i : Int) : Prop := (k = 114 ∧ (i = 0 ∨ i = 2)) ∨ k = 115
def fy_f (m m' : dc_M) : Prop := ∀ (k : Nat) (i : Int), ¬ fy_t k i → m' k i = m k i
theorem fy_f.rf {m : dc_M} : fy_f m m := fun _ _ _ => rfl
theorem fy_f.tr {a b c : dc_M} (h : fy_f a b) (g : fy_f b c) : fy_f a c := fun k i z => (g k i z).trans (h k i z)
theorem fy_f.up {a m m1 : dc_M} {k : Nat} {i v : Int} (h : fy_f a m) (e : m1 = dc_up m k i v) (hx : fy_t k i) : fy_f a m1 := fun k' i' z => by
  rw [e]
  refine (if_neg (fun q => ?_)).trans (h k' i' z)
  rw [q.1, q.2] at z
  exact z hx
theorem fy_f.cp {a m m1 : dc_M} {s : Nat} {sp : Int} {d : Nat} {dp c : Int} (h : fy_f a m) (e : m1 = dc_cpy m s sp d dp c) (hx : ∀ i, fy_t d i) : fy_f a m1 := fun k' i' z => by
  rw [e]
  refine (if_neg (fun q => ?_)).trans (h k' i' z)
  rw [q.1] at z
  exact z (hx _)
theorem fy_f.fi {a m m1 : dc_M} {k : Nat} {len v : Int} (h : fy_f a m) (e : m1 = dc_fill m k len v) (hx : ∀ i, fy_t k i) : fy_f a m1 := fun k' i' z => by
  rw [e]
  refine (if_neg (fun q => ?_)).trans (h k' i' z)
  rw [q.1] at z
  exact z (hx _)
theorem fy_185 {x0 : Int} {m : dc_M} {v : Int} {m' : dc_M} (h : D_185 x0 m v m') : fy_f m m' := by
  have key : ∀ c : Nat, (∀ (l2 : Int) (m : dc_M) (v : Int) (m' : dc_M), LM_185 x0 c 3 l2 m v m' → fy_f m m') := by
    intro c'
    induction c' with
    | zero => exact fun _ _ _ _ h => h.elim
    | succ c ih =>
      intro l2 m v m' h
      replace h := lm_185_3.mp h
      rcases h with ⟨-, h⟩ | ⟨-, h⟩
      · obtain ⟨-, em⟩ := h
        rw [em]
        exact (fy_f.rf (m := m))
      · obtain ⟨-, h⟩ := h
        obtain ⟨m1, e1, h⟩ := h
        have f1 := (fy_f.rf (m := m)).up e1 (by simp [fy_t])
        obtain ⟨m2, e2, h⟩ := h
        have f2 := f1.up e2 (by simp [fy_t])
        exact f2.tr (ih _ _ _ _ h)
  obtain ⟨c, h⟩ := h
  exact (fy_f.rf (m := m)).tr ((key c) _ _ _ _ h)
theorem fy_184 {x0 : Int} {x1 : Int} {x2 : Int} {x3 : Int} {x4 : Int} {m : dc_M} {v : Int} {m' : dc_M} (h : D_184 x0 x1 x2 x3 x4 m v m') : fy_f m m' := by
  obtain ⟨m1, e1, h⟩ := h
  have f1 := (fy_f.rf (m := m)).up e1 (by simp [fy_t])
  rcases h with ⟨-, h⟩ | ⟨-, h⟩
  · obtain ⟨v2, m2, h2, h⟩ := h
    have f2 := f1.tr (fy_185 h2)
    obtain ⟨v3, m3, h3, h⟩ := h
    have f3 := f2.tr (fy_185 h3)
    obtain ⟨v4, m4, h4, h⟩ := h
    have f4 := f3.tr (fy_185 h4)
    obtain ⟨v5, m5, h5, h⟩ := h
    have f5 := f4.tr (fy_185 h5)
    obtain ⟨v6, m6, h6, h⟩ := h
    have f6 := f5.tr (fy_185 h6)
    obtain ⟨-, em⟩ := h
    rw [em]
    exact f6
  · obtain ⟨-, em⟩ := h
    rw [em]
    exact f1
def fb_t (k : Nat) (i : Int) : Prop := (k = 114 ∧ i ≤ 22) ∨ (118 ≤ k ∧ k ≤ 121)
def fb_f (m m' : dc_M) : Prop := ∀ (k : Nat) (i : Int), ¬ fb_t k i → m' k i = m k i
theorem fb_f.rf {m : dc_M} : fb_f m m := fun _ _ _ => rfl
theorem fb_f.tr {a b c : dc_M} (h : fb_f a b) (g : fb_f b c) : fb_f a c := fun k i z => (g k i z).trans (h k i z)
theorem fb_f.up {a m m1 : dc_M} {k : Nat} {i v : Int} (h : fb_f a m) (e : m1 = dc_up m k i v) (hx : fb_t k i) : fb_f a m1 := fun k' i' z => by
  rw [e]
  refine (if_neg (fun q => ?_)).trans (h k' i' z)
  rw [q.1, q.2] at z
  exact z hx
theorem fb_f.cp {a m m1 : dc_M} {s : Nat} {sp : Int} {d : Nat} {dp c : Int} (h : fb_f a m) (e : m1 = dc_cpy m s sp d dp c) (hx : ∀ i, fb_t d i) : fb_f a m1 := fun k' i' z => by
  rw [e]
  refine (if_neg (fun q => ?_)).trans (h k' i' z)
  rw [q.1] at z
  exact z (hx _)
theorem fb_f.fi {a m m1 : dc_M} {k : Nat} {len v : Int} (h : fb_f a m) (e : m1 = dc_fill m k len v) (hx : ∀ i, fb_t k i) : fb_f a m1 := fun k' i' z => by
  rw [e]
  refine (if_neg (fun q => ?_)).trans (h k' i' z)
  rw [q.1] at z
  exact z (hx _)
theorem fb_187  {m : dc_M} {v : Int} {m' : dc_M} (h : D_187 m v m') : fb_f m m' := by
  obtain ⟨m1, e1, h⟩ := h
  have f1 := (fb_f.rf (m := m)).up e1 (by simp [fb_t])
  obtain ⟨m2, e2, h⟩ := h
  have f2 := f1.up e2 (by simp [fb_t])
  obtain ⟨m3, e3, h⟩ := h
  have f3 := f2.up e3 (by simp [fb_t])
  obtain ⟨-, em⟩ := h
  rw [em]
  exact f3
theorem fb_188 {x0 : Int} {x1 : Int} {x2 : Int} {m : dc_M} {v : Int} {m' : dc_M} (h : D_188 x0 x1 x2 m v m') : fb_f m m' := by
  rcases h with ⟨-, h⟩ | ⟨-, h⟩
  · obtain ⟨-, em⟩ := h
    rw [em]
    exact (fb_f.rf (m := m))
  · rcases h with ⟨-, h⟩ | ⟨-, h⟩
    · obtain ⟨-, em⟩ := h
      rw [em]
      exact (fb_f.rf (m := m))
    · obtain ⟨-, em⟩ := h
      rw [em]
      exact (fb_f.rf (m := m))
theorem fb_195  {m : dc_M} {v : Int} {m' : dc_M} (h : D_195 m v m') : fb_f m m' := by
  rcases h with ⟨-, h⟩ | ⟨-, h⟩
  · obtain ⟨-, em⟩ := h
    rw [em]
    exact (fb_f.rf (m := m))
  · obtain ⟨-, h⟩ := h
    obtain ⟨-, em⟩ := h
    rw [em]
    exact (fb_f.rf (m := m))
theorem fb_196 {x0 : Int} {m : dc_M} {v : Int} {m' : dc_M} (h : D_196 x0 m v m') : fb_f m m' := by
  rcases h with ⟨-, h⟩ | ⟨-, h⟩
  · obtain ⟨-, em⟩ := h
    rw [em]
    exact (fb_f.rf (m := m))
  · rcases h with ⟨-, h⟩ | ⟨-, h⟩
    · obtain ⟨-, em⟩ := h
      rw [em]
      exact (fb_f.rf (m := m))
    · obtain ⟨-, em⟩ := h
      rw [em]
      exact (fb_f.rf (m := m))
theorem fb_197 {x0 : Int} {m : dc_M} {v : Int} {m' : dc_M} (h : D_197 x0 m v m') : fb_f m m' := by
  rcases h with ⟨-, h⟩ | ⟨-, h⟩
  · obtain ⟨-, em⟩ := h
    rw [em]
    exact (fb_f.rf (m := m))
  · rcases h with ⟨-, h⟩ | ⟨-, h⟩
    · obtain ⟨-, em⟩ := h
      rw [em]
      exact (fb_f.rf (m := m))
    · obtain ⟨-, em⟩ := h
      rw [em]
      exact (fb_f.rf (m := m))
theorem fb_198  {m : dc_M} {v : Int} {m' : dc_M} (h : D_198 m v m') : fb_f m m' := by
  have key : ∀ c : Nat, (∀ (l1 : Int) (l2 : Int) (m : dc_M) (v : Int) (m' : dc_M), LM_198 c 0 l1 l2 m v m' → fb_f m m') ∧ (∀ (l1 : Int) (l2 : Int) (m : dc_M) (v : Int) (m' : dc_M), LM_198 c 111 l1 l2 m v m' → fb_f m m') ∧ (∀ (l1 : Int) (l2 : Int) (m : dc_M) (v : Int) (m' : dc_M), LM_198 c 190 l1 l2 m v m' → fb_f m m') := by
    intro c'
    induction c' with
    | zero => exact ⟨fun _ _ _ _ _ h => h.elim, fun _ _ _ _ _ h => h.elim, fun _ _ _ _ _ h => h.elim⟩
    | succ c ih =>
      refine ⟨?_, ?_, ?_⟩
      · intro l1 l2 m v m' h
        replace h := lm_198_0.mp h
        obtain ⟨v1, m1, h1, h⟩ := h
        have f1 := (fb_f.rf (m := m)).tr (fb_195 h1)
        rcases h with ⟨-, h⟩ | ⟨-, h⟩
        · obtain ⟨m2, e2, h⟩ := h
          have f2 := f1.up e2 (by simp [fb_t])
          exact f2.tr (ih.1 _ _ _ _ _ h)
        · obtain ⟨v2, m2, h2, h⟩ := h
          have f2 := f1.tr (fb_195 h2)
          rcases h with ⟨-, h⟩ | ⟨-, h⟩
          · obtain ⟨m3, e3, h⟩ := h
            have f3 := f2.up e3 (by simp [fb_t])
            rcases h with ⟨-, h⟩ | ⟨-, h⟩
            · obtain ⟨v4, m4, h4, h⟩ := h
              have f4 := f3.tr (fb_195 h4)
              obtain ⟨m5, e5, h⟩ := h
              have f5 := f4.up e5 (by simp [fb_t])
              obtain ⟨m6, e6, h⟩ := h
              have f6 := f5.up e6 (by simp [fb_t])
              rcases h with ⟨-, h⟩ | ⟨-, h⟩
              · obtain ⟨v7, m7, h7, h⟩ := h
                have f7 := f6.tr (fb_196 h7)
                rcases h with ⟨-, h⟩ | ⟨-, h⟩
                · obtain ⟨v8, m8, h8, h⟩ := h
                  have f8 := f7.tr (fb_197 h8)
                  rcases h with ⟨-, h⟩ | ⟨-, h⟩
                  · rcases h with ⟨-, h⟩ | ⟨-, h⟩
                    · obtain ⟨m9, e9, h⟩ := h
                      have f9 := f8.up e9 (by simp [fb_t])
                      obtain ⟨m10, e10, h⟩ := h
                      have f10 := f9.up e10 (by simp [fb_t])
                      obtain ⟨m11, e11, h⟩ := h
                      have f11 := f10.up e11 (by simp [fb_t])
                      obtain ⟨-, em⟩ := h
                      rw [em]
                      exact f11
                    · rcases h with ⟨-, h⟩ | ⟨-, h⟩
                      · obtain ⟨m9, e9, h⟩ := h
                        have f9 := f8.up e9 (by simp [fb_t])
                        obtain ⟨m10, e10, h⟩ := h
                        have f10 := f9.up e10 (by simp [fb_t])
                        obtain ⟨m11, e11, h⟩ := h
                        have f11 := f10.up e11 (by simp [fb_t])
                        obtain ⟨-, em⟩ := h
                        rw [em]
                        exact f11
                      · rcases h with ⟨-, h⟩ | ⟨-, h⟩
                        · obtain ⟨m9, e9, h⟩ := h
                          have f9 := f8.up e9 (by simp [fb_t])
                          obtain ⟨m10, e10, h⟩ := h
                          have f10 := f9.up e10 (by simp [fb_t])
                          obtain ⟨m11, e11, h⟩ := h
                          have f11 := f10.up e11 (by simp [fb_t])
                          obtain ⟨-, em⟩ := h
                          rw [em]
                          exact f11
                        · obtain ⟨m9, e9, h⟩ := h
                          have f9 := f8.up e9 (by simp [fb_t])
                          obtain ⟨m10, e10, h⟩ := h
                          have f10 := f9.up e10 (by simp [fb_t])
                          obtain ⟨m11, e11, h⟩ := h
                          have f11 := f10.up e11 (by simp [fb_t])
                          obtain ⟨-, em⟩ := h
                          rw [em]
                          exact f11
                  · exact f8.tr (ih.2.2 _ _ _ _ _ h)
                · exact f7.tr (ih.2.1 _ _ _ _ _ h)
              · obtain ⟨m7, e7, h⟩ := h
                have f7 := f6.up e7 (by simp [fb_t])
                obtain ⟨-, em⟩ := h
                rw [em]
                exact f7
            · rcases h with ⟨-, h⟩ | ⟨-, h⟩
              · obtain ⟨v4, m4, h4, h⟩ := h
                have f4 := f3.tr (fb_195 h4)
                obtain ⟨m5, e5, h⟩ := h
                have f5 := f4.up e5 (by simp [fb_t])
                obtain ⟨m6, e6, h⟩ := h
                have f6 := f5.up e6 (by simp [fb_t])
                rcases h with ⟨-, h⟩ | ⟨-, h⟩
                · obtain ⟨v7, m7, h7, h⟩ := h
                  have f7 := f6.tr (fb_196 h7)
                  rcases h with ⟨-, h⟩ | ⟨-, h⟩
                  · obtain ⟨v8, m8, h8, h⟩ := h
                    have f8 := f7.tr (fb_197 h8)
                    rcases h with ⟨-, h⟩ | ⟨-, h⟩
                    · rcases h with ⟨-, h⟩ | ⟨-, h⟩
                      · obtain ⟨m9, e9, h⟩ := h
                        have f9 := f8.up e9 (by simp [fb_t])
                        obtain ⟨m10, e10, h⟩ := h
                        have f10 := f9.up e10 (by simp [fb_t])
                        obtain ⟨m11, e11, h⟩ := h
                        have f11 := f10.up e11 (by simp [fb_t])
                        obtain ⟨-, em⟩ := h
                        rw [em]
                        exact f11
                      · rcases h with ⟨-, h⟩ | ⟨-, h⟩
                        · obtain ⟨m9, e9, h⟩ := h
                          have f9 := f8.up e9 (by simp [fb_t])
                          obtain ⟨m10, e10, h⟩ := h
                          have f10 := f9.up e10 (by simp [fb_t])
                          obtain ⟨m11, e11, h⟩ := h
                          have f11 := f10.up e11 (by simp [fb_t])
                          obtain ⟨-, em⟩ := h
                          rw [em]
                          exact f11
                        · rcases h with ⟨-, h⟩ | ⟨-, h⟩
                          · obtain ⟨m9, e9, h⟩ := h
                            have f9 := f8.up e9 (by simp [fb_t])
                            obtain ⟨m10, e10, h⟩ := h
                            have f10 := f9.up e10 (by simp [fb_t])
                            obtain ⟨m11, e11, h⟩ := h
                            have f11 := f10.up e11 (by simp [fb_t])
                            obtain ⟨-, em⟩ := h
                            rw [em]
                            exact f11
                          · obtain ⟨m9, e9, h⟩ := h
                            have f9 := f8.up e9 (by simp [fb_t])
                            obtain ⟨m10, e10, h⟩ := h
                            have f10 := f9.up e10 (by simp [fb_t])
                            obtain ⟨m11, e11, h⟩ := h
                            have f11 := f10.up e11 (by simp [fb_t])
                            obtain ⟨-, em⟩ := h
                            rw [em]
                            exact f11
                    · exact f8.tr (ih.2.2 _ _ _ _ _ h)
                  · exact f7.tr (ih.2.1 _ _ _ _ _ h)
                · obtain ⟨m7, e7, h⟩ := h
                  have f7 := f6.up e7 (by simp [fb_t])
                  obtain ⟨-, em⟩ := h
                  rw [em]
                  exact f7
              · obtain ⟨m4, e4, h⟩ := h
                have f4 := f3.up e4 (by simp [fb_t])
                obtain ⟨m5, e5, h⟩ := h
                have f5 := f4.up e5 (by simp [fb_t])
                obtain ⟨-, em⟩ := h
                rw [em]
                exact f5
          · obtain ⟨m3, e3, h⟩ := h
            have f3 := f2.up e3 (by simp [fb_t])
            exact f3.tr (ih.1 _ _ _ _ _ h)
      · intro l1 l2 m v m' h
        replace h := lm_198_111.mp h
        obtain ⟨v1, m1, h1, h⟩ := h
        have f1 := (fb_f.rf (m := m)).tr (fb_195 h1)
        obtain ⟨v2, m2, h2, h⟩ := h
        have f2 := f1.tr (fb_196 h2)
        rcases h with ⟨-, h⟩ | ⟨-, h⟩
        · rcases h with ⟨-, h⟩ | ⟨-, h⟩
          · obtain ⟨m3, e3, h⟩ := h
            have f3 := f2.up e3 (by simp [fb_t])
            obtain ⟨-, em⟩ := h
            rw [em]
            exact f3
          · obtain ⟨m3, e3, h⟩ := h
            have f3 := f2.up e3 (by simp [fb_t])
            obtain ⟨-, em⟩ := h
            rw [em]
            exact f3
        · rcases h with ⟨-, h⟩ | ⟨-, h⟩
          · obtain ⟨m3, e3, h⟩ := h
            have f3 := f2.up e3 (by simp [fb_t])
            obtain ⟨m4, e4, h⟩ := h
            have f4 := f3.up e4 (by simp [fb_t])
            exact f4.tr (ih.2.1 _ _ _ _ _ h)
          · obtain ⟨v3, m3, h3, h⟩ := h
            have f3 := f2.tr (fb_195 h3)
            obtain ⟨m4, e4, h⟩ := h
            have f4 := f3.up e4 (by simp [fb_t])
            obtain ⟨m5, e5, h⟩ := h
            have f5 := f4.up e5 (by simp [fb_t])
            exact f5.tr (ih.2.1 _ _ _ _ _ h)
      · intro l1 l2 m v m' h
        replace h := lm_198_190.mp h
        obtain ⟨v1, m1, h1, h⟩ := h
        have f1 := (fb_f.rf (m := m)).tr (fb_195 h1)
        obtain ⟨v2, m2, h2, h⟩ := h
        have f2 := f1.tr (fb_197 h2)
        rcases h with ⟨-, h⟩ | ⟨-, h⟩
        · rcases h with ⟨-, h⟩ | ⟨-, h⟩
          · obtain ⟨m3, e3, h⟩ := h
            have f3 := f2.up e3 (by simp [fb_t])
            obtain ⟨-, em⟩ := h
            rw [em]
            exact f3
          · obtain ⟨m3, e3, h⟩ := h
            have f3 := f2.up e3 (by simp [fb_t])
            obtain ⟨-, em⟩ := h
            rw [em]
            exact f3
        · rcases h with ⟨-, h⟩ | ⟨-, h⟩
          · obtain ⟨m3, e3, h⟩ := h
            have f3 := f2.up e3 (by simp [fb_t])
            obtain ⟨m4, e4, h⟩ := h
            have f4 := f3.up e4 (by simp [fb_t])
            exact f4.tr (ih.2.2 _ _ _ _ _ h)
          · obtain ⟨v3, m3, h3, h⟩ := h
            have f3 := f2.tr (fb_195 h3)
            obtain ⟨m4, e4, h⟩ := h
            have f4 := f3.up e4 (by simp [fb_t])
            obtain ⟨m5, e5, h⟩ := h
            have f5 := f4.up e5 (by simp [fb_t])
            exact f5.tr (ih.2.2 _ _ _ _ _ h)
  obtain ⟨c, h⟩ := h
  exact (fb_f.rf (m := m)).tr ((key c).1 _ _ _ _ _ h)
theorem fb_199 {x0 : Int} {x1 : Int} {m : dc_M} {v : Int} {m' : dc_M} (h : D_199 x0 x1 m v m') : fb_f m m' := by
  obtain ⟨m1, e1, h⟩ := h
  have f1 := (fb_f.rf (m := m)).up e1 (by simp [fb_t])
  obtain ⟨m2, e2, h⟩ := h
  have f2 := f1.up e2 (by simp [fb_t])
  obtain ⟨-, em⟩ := h
  rw [em]
  exact f2
theorem fb_200 {x0 : Int} {m : dc_M} {v : Int} {m' : dc_M} (h : D_200 x0 m v m') : fb_f m m' := by
  rcases h with ⟨-, h⟩ | ⟨-, h⟩
  · obtain ⟨v1, m1, h1, h⟩ := h
    have f1 := (fb_f.rf (m := m)).tr (fb_199 h1)
    obtain ⟨-, em⟩ := h
    rw [em]
    exact f1
  · rcases h with ⟨-, h⟩ | ⟨-, h⟩
    · obtain ⟨v1, m1, h1, h⟩ := h
      have f1 := (fb_f.rf (m := m)).tr (fb_198 h1)
      obtain ⟨-, em⟩ := h
      rw [em]
      exact f1
    · obtain ⟨v1, m1, h1, h⟩ := h
      have f1 := (fb_f.rf (m := m)).tr (fb_199 h1)
      obtain ⟨-, em⟩ := h
      rw [em]
      exact f1
theorem fb_201 {x0 : Int} {x1 : Int} {m : dc_M} {v : Int} {m' : dc_M} (h : D_201 x0 x1 m v m') : fb_f m m' := by
  rcases h with ⟨-, h⟩ | ⟨-, h⟩
  · obtain ⟨v1, m1, h1, h⟩ := h
    have f1 := (fb_f.rf (m := m)).tr (fb_188 h1)
    rcases h with ⟨-, h⟩ | ⟨-, h⟩
    · obtain ⟨m2, e2, h⟩ := h
      have f2 := f1.up e2 (by simp [fb_t])
      obtain ⟨v3, m3, h3, h⟩ := h
      have f3 := f2.tr (fb_198 h3)
      obtain ⟨-, em⟩ := h
      rw [em]
      exact f3
    · obtain ⟨v2, m2, h2, h⟩ := h
      have f2 := f1.tr (fb_199 h2)
      obtain ⟨-, em⟩ := h
      rw [em]
      exact f2
  · obtain ⟨v1, m1, h1, h⟩ := h
    have f1 := (fb_f.rf (m := m)).tr (fb_199 h1)
    obtain ⟨-, em⟩ := h
    rw [em]
    exact f1
theorem fb_203 {y0 : Nat} {m : dc_M} {v : Int} {m' : dc_M} (h : D_203 y0 m v m') : fb_f m m' := by
  obtain ⟨m1, e1, h⟩ := h
  have f1 := (fb_f.rf (m := m)).up e1 (by simp [fb_t])
  obtain ⟨m2, e2, h⟩ := h
  have f2 := f1.up e2 (by simp [fb_t])
  rcases h with ⟨-, h⟩ | ⟨-, h⟩
  · rcases h with ⟨-, h⟩ | ⟨-, h⟩
    · rcases h with ⟨-, h⟩ | ⟨-, h⟩
      · rcases h with ⟨-, h⟩ | ⟨-, h⟩
        · obtain ⟨m3, e3, h⟩ := h
          have f3 := f2.up e3 (by simp [fb_t])
          obtain ⟨m4, e4, h⟩ := h
          have f4 := f3.up e4 (by simp [fb_t])
          rcases h with ⟨-, h⟩ | ⟨-, h⟩
          · rcases h with ⟨-, h⟩ | ⟨-, h⟩
            · rcases h with ⟨-, h⟩ | ⟨-, h⟩
              · obtain ⟨m5, e5, h⟩ := h
                have f5 := f4.up e5 (by simp [fb_t])
                obtain ⟨m6, e6, h⟩ := h
                have f6 := f5.up e6 (by simp [fb_t])
                rcases h with ⟨-, h⟩ | ⟨-, h⟩
                · rcases h with ⟨-, h⟩ | ⟨-, h⟩
                  · rcases h with ⟨-, h⟩ | ⟨-, h⟩
                    · rcases h with ⟨-, h⟩ | ⟨-, h⟩
                      · rcases h with ⟨-, h⟩ | ⟨-, h⟩
                        · rcases h with ⟨-, h⟩ | ⟨-, h⟩
                          · rcases h with ⟨-, h⟩ | ⟨-, h⟩
                            · rcases h with ⟨-, h⟩ | ⟨-, h⟩
                              · obtain ⟨m7, e7, h⟩ := h
                                have f7 := f6.up e7 (by simp [fb_t])
                                rcases h with ⟨-, h⟩ | ⟨-, h⟩
                                · obtain ⟨m8, e8, h⟩ := h
                                  have f8 := f7.up e8 (by simp [fb_t])
                                  rcases h with ⟨-, h⟩ | ⟨-, h⟩
                                  · rcases h with ⟨-, h⟩ | ⟨-, h⟩
                                    · rcases h with ⟨-, h⟩ | ⟨-, h⟩
                                      · rcases h with ⟨-, h⟩ | ⟨-, h⟩
                                        · rcases h with ⟨-, h⟩ | ⟨-, h⟩
                                          · obtain ⟨m9, e9, h⟩ := h
                                            have f9 := f8.up e9 (by simp [fb_t])
                                            obtain ⟨m10, e10, h⟩ := h
                                            have f10 := f9.up e10 (by simp [fb_t])
                                            rcases h with ⟨-, h⟩ | ⟨-, h⟩
                                            · obtain ⟨m11, e11, h⟩ := h
                                              have f11 := f10.up e11 (by simp [fb_t])
                                              rcases h with ⟨-, h⟩ | ⟨-, h⟩
                                              · rcases h with ⟨-, h⟩ | ⟨-, h⟩
                                                · rcases h with ⟨-, h⟩ | ⟨-, h⟩
                                                  · obtain ⟨m12, e12, h⟩ := h
                                                    have f12 := f11.up e12 (by simp [fb_t])
                                                    obtain ⟨-, em⟩ := h
                                                    rw [em]
                                                    exact f12
                                                  · obtain ⟨m12, e12, h⟩ := h
                                                    have f12 := f11.up e12 (by simp [fb_t])
                                                    obtain ⟨-, em⟩ := h
                                                    rw [em]
                                                    exact f12
                                                · obtain ⟨m12, e12, h⟩ := h
                                                  have f12 := f11.up e12 (by simp [fb_t])
                                                  obtain ⟨-, em⟩ := h
                                                  rw [em]
                                                  exact f12
                                              · obtain ⟨m12, e12, h⟩ := h
                                                have f12 := f11.up e12 (by simp [fb_t])
                                                obtain ⟨-, em⟩ := h
                                                rw [em]
                                                exact f12
                                            · obtain ⟨m11, e11, h⟩ := h
                                              have f11 := f10.up e11 (by simp [fb_t])
                                              rcases h with ⟨-, h⟩ | ⟨-, h⟩
                                              · rcases h with ⟨-, h⟩ | ⟨-, h⟩
                                                · rcases h with ⟨-, h⟩ | ⟨-, h⟩
                                                  · obtain ⟨m12, e12, h⟩ := h
                                                    have f12 := f11.up e12 (by simp [fb_t])
                                                    obtain ⟨-, em⟩ := h
                                                    rw [em]
                                                    exact f12
                                                  · obtain ⟨m12, e12, h⟩ := h
                                                    have f12 := f11.up e12 (by simp [fb_t])
                                                    obtain ⟨-, em⟩ := h
                                                    rw [em]
                                                    exact f12
                                                · obtain ⟨m12, e12, h⟩ := h
                                                  have f12 := f11.up e12 (by simp [fb_t])
                                                  obtain ⟨-, em⟩ := h
                                                  rw [em]
                                                  exact f12
                                              · obtain ⟨m12, e12, h⟩ := h
                                                have f12 := f11.up e12 (by simp [fb_t])
                                                obtain ⟨-, em⟩ := h
                                                rw [em]
                                                exact f12
                                          · obtain ⟨m9, e9, h⟩ := h
                                            have f9 := f8.up e9 (by simp [fb_t])
                                            obtain ⟨-, em⟩ := h
                                            rw [em]
                                            exact f9
                                        · obtain ⟨m9, e9, h⟩ := h
                                          have f9 := f8.up e9 (by simp [fb_t])
                                          obtain ⟨-, em⟩ := h
                                          rw [em]
                                          exact f9
                                      · obtain ⟨m9, e9, h⟩ := h
                                        have f9 := f8.up e9 (by simp [fb_t])
                                        obtain ⟨-, em⟩ := h
                                        rw [em]
                                        exact f9
                                    · obtain ⟨m9, e9, h⟩ := h
                                      have f9 := f8.up e9 (by simp [fb_t])
                                      obtain ⟨-, em⟩ := h
                                      rw [em]
                                      exact f9
                                  · obtain ⟨m9, e9, h⟩ := h
                                    have f9 := f8.up e9 (by simp [fb_t])
                                    obtain ⟨-, em⟩ := h
                                    rw [em]
                                    exact f9
                                · rcases h with ⟨-, h⟩ | ⟨-, h⟩
                                  · obtain ⟨m8, e8, h⟩ := h
                                    have f8 := f7.up e8 (by simp [fb_t])
                                    rcases h with ⟨-, h⟩ | ⟨-, h⟩
                                    · rcases h with ⟨-, h⟩ | ⟨-, h⟩
                                      · rcases h with ⟨-, h⟩ | ⟨-, h⟩
                                        · rcases h with ⟨-, h⟩ | ⟨-, h⟩
                                          · rcases h with ⟨-, h⟩ | ⟨-, h⟩
                                            · obtain ⟨m9, e9, h⟩ := h
                                              have f9 := f8.up e9 (by simp [fb_t])
                                              obtain ⟨m10, e10, h⟩ := h
                                              have f10 := f9.up e10 (by simp [fb_t])
                                              rcases h with ⟨-, h⟩ | ⟨-, h⟩
                                              · obtain ⟨m11, e11, h⟩ := h
                                                have f11 := f10.up e11 (by simp [fb_t])
                                                rcases h with ⟨-, h⟩ | ⟨-, h⟩
                                                · rcases h with ⟨-, h⟩ | ⟨-, h⟩
                                                  · rcases h with ⟨-, h⟩ | ⟨-, h⟩
                                                    · obtain ⟨m12, e12, h⟩ := h
                                                      have f12 := f11.up e12 (by simp [fb_t])
                                                      obtain ⟨-, em⟩ := h
                                                      rw [em]
                                                      exact f12
                                                    · obtain ⟨m12, e12, h⟩ := h
                                                      have f12 := f11.up e12 (by simp [fb_t])
                                                      obtain ⟨-, em⟩ := h
                                                      rw [em]
                                                      exact f12
                                                  · obtain ⟨m12, e12, h⟩ := h
                                                    have f12 := f11.up e12 (by simp [fb_t])
                                                    obtain ⟨-, em⟩ := h
                                                    rw [em]
                                                    exact f12
                                                · obtain ⟨m12, e12, h⟩ := h
                                                  have f12 := f11.up e12 (by simp [fb_t])
                                                  obtain ⟨-, em⟩ := h
                                                  rw [em]
                                                  exact f12
                                              · obtain ⟨m11, e11, h⟩ := h
                                                have f11 := f10.up e11 (by simp [fb_t])
                                                rcases h with ⟨-, h⟩ | ⟨-, h⟩
                                                · rcases h with ⟨-, h⟩ | ⟨-, h⟩
                                                  · rcases h with ⟨-, h⟩ | ⟨-, h⟩
                                                    · obtain ⟨m12, e12, h⟩ := h
                                                      have f12 := f11.up e12 (by simp [fb_t])
                                                      obtain ⟨-, em⟩ := h
                                                      rw [em]
                                                      exact f12
                                                    · obtain ⟨m12, e12, h⟩ := h
                                                      have f12 := f11.up e12 (by simp [fb_t])
                                                      obtain ⟨-, em⟩ := h
                                                      rw [em]
                                                      exact f12
                                                  · obtain ⟨m12, e12, h⟩ := h
                                                    have f12 := f11.up e12 (by simp [fb_t])
                                                    obtain ⟨-, em⟩ := h
                                                    rw [em]
                                                    exact f12
                                                · obtain ⟨m12, e12, h⟩ := h
                                                  have f12 := f11.up e12 (by simp [fb_t])
                                                  obtain ⟨-, em⟩ := h
                                                  rw [em]
                                                  exact f12
                                            · obtain ⟨m9, e9, h⟩ := h
                                              have f9 := f8.up e9 (by simp [fb_t])
                                              obtain ⟨-, em⟩ := h
                                              rw [em]
                                              exact f9
                                          · obtain ⟨m9, e9, h⟩ := h
                                            have f9 := f8.up e9 (by simp [fb_t])
                                            obtain ⟨-, em⟩ := h
                                            rw [em]
                                            exact f9
                                        · obtain ⟨m9, e9, h⟩ := h
                                          have f9 := f8.up e9 (by simp [fb_t])
                                          obtain ⟨-, em⟩ := h
                                          rw [em]
                                          exact f9
                                      · obtain ⟨m9, e9, h⟩ := h
                                        have f9 := f8.up e9 (by simp [fb_t])
                                        obtain ⟨-, em⟩ := h
                                        rw [em]
                                        exact f9
                                    · obtain ⟨m9, e9, h⟩ := h
                                      have f9 := f8.up e9 (by simp [fb_t])
                                      obtain ⟨-, em⟩ := h
                                      rw [em]
                                      exact f9
                                  · obtain ⟨m8, e8, h⟩ := h
                                    have f8 := f7.up e8 (by simp [fb_t])
                                    rcases h with ⟨-, h⟩ | ⟨-, h⟩
                                    · rcases h with ⟨-, h⟩ | ⟨-, h⟩
                                      · rcases h with ⟨-, h⟩ | ⟨-, h⟩
                                        · rcases h with ⟨-, h⟩ | ⟨-, h⟩
                                          · rcases h with ⟨-, h⟩ | ⟨-, h⟩
                                            · obtain ⟨m9, e9, h⟩ := h
                                              have f9 := f8.up e9 (by simp [fb_t])
                                              obtain ⟨m10, e10, h⟩ := h
                                              have f10 := f9.up e10 (by simp [fb_t])
                                              rcases h with ⟨-, h⟩ | ⟨-, h⟩
                                              · obtain ⟨m11, e11, h⟩ := h
                                                have f11 := f10.up e11 (by simp [fb_t])
                                                rcases h with ⟨-, h⟩ | ⟨-, h⟩
                                                · rcases h with ⟨-, h⟩ | ⟨-, h⟩
                                                  · rcases h with ⟨-, h⟩ | ⟨-, h⟩
                                                    · obtain ⟨m12, e12, h⟩ := h
                                                      have f12 := f11.up e12 (by simp [fb_t])
                                                      obtain ⟨-, em⟩ := h
                                                      rw [em]
                                                      exact f12
                                                    · obtain ⟨m12, e12, h⟩ := h
                                                      have f12 := f11.up e12 (by simp [fb_t])
                                                      obtain ⟨-, em⟩ := h
                                                      rw [em]
                                                      exact f12
                                                  · obtain ⟨m12, e12, h⟩ := h
                                                    have f12 := f11.up e12 (by simp [fb_t])
                                                    obtain ⟨-, em⟩ := h
                                                    rw [em]
                                                    exact f12
                                                · obtain ⟨m12, e12, h⟩ := h
                                                  have f12 := f11.up e12 (by simp [fb_t])
                                                  obtain ⟨-, em⟩ := h
                                                  rw [em]
                                                  exact f12
                                              · obtain ⟨m11, e11, h⟩ := h
                                                have f11 := f10.up e11 (by simp [fb_t])
                                                rcases h with ⟨-, h⟩ | ⟨-, h⟩
                                                · rcases h with ⟨-, h⟩ | ⟨-, h⟩
                                                  · rcases h with ⟨-, h⟩ | ⟨-, h⟩
                                                    · obtain ⟨m12, e12, h⟩ := h
                                                      have f12 := f11.up e12 (by simp [fb_t])
                                                      obtain ⟨-, em⟩ := h
                                                      rw [em]
                                                      exact f12
                                                    · obtain ⟨m12, e12, h⟩ := h
                                                      have f12 := f11.up e12 (by simp [fb_t])
                                                      obtain ⟨-, em⟩ := h
                                                      rw [em]
                                                      exact f12
                                                  · obtain ⟨m12, e12, h⟩ := h
                                                    have f12 := f11.up e12 (by simp [fb_t])
                                                    obtain ⟨-, em⟩ := h
                                                    rw [em]
                                                    exact f12
                                                · obtain ⟨m12, e12, h⟩ := h
                                                  have f12 := f11.up e12 (by simp [fb_t])
                                                  obtain ⟨-, em⟩ := h
                                                  rw [em]
                                                  exact f12
                                            · obtain ⟨m9, e9, h⟩ := h
                                              have f9 := f8.up e9 (by simp [fb_t])
                                              obtain ⟨-, em⟩ := h
                                              rw [em]
                                              exact f9
                                          · obtain ⟨m9, e9, h⟩ := h
                                            have f9 := f8.up e9 (by simp [fb_t])
                                            obtain ⟨-, em⟩ := h
                                            rw [em]
                                            exact f9
                                        · obtain ⟨m9, e9, h⟩ := h
                                          have f9 := f8.up e9 (by simp [fb_t])
                                          obtain ⟨-, em⟩ := h
                                          rw [em]
                                          exact f9
                                      · obtain ⟨m9, e9, h⟩ := h
                                        have f9 := f8.up e9 (by simp [fb_t])
                                        obtain ⟨-, em⟩ := h
                                        rw [em]
                                        exact f9
                                    · obtain ⟨m9, e9, h⟩ := h
                                      have f9 := f8.up e9 (by simp [fb_t])
                                      obtain ⟨-, em⟩ := h
                                      rw [em]
                                      exact f9
                              · obtain ⟨m7, e7, h⟩ := h
                                have f7 := f6.up e7 (by simp [fb_t])
                                obtain ⟨-, em⟩ := h
                                rw [em]
                                exact f7
                            · obtain ⟨m7, e7, h⟩ := h
                              have f7 := f6.up e7 (by simp [fb_t])
                              obtain ⟨-, em⟩ := h
                              rw [em]
                              exact f7
                          · obtain ⟨m7, e7, h⟩ := h
                            have f7 := f6.up e7 (by simp [fb_t])
                            obtain ⟨-, em⟩ := h
                            rw [em]
                            exact f7
                        · obtain ⟨m7, e7, h⟩ := h
                          have f7 := f6.up e7 (by simp [fb_t])
                          obtain ⟨-, em⟩ := h
                          rw [em]
                          exact f7
                      · obtain ⟨m7, e7, h⟩ := h
                        have f7 := f6.up e7 (by simp [fb_t])
                        obtain ⟨-, em⟩ := h
                        rw [em]
                        exact f7
                    · obtain ⟨m7, e7, h⟩ := h
                      have f7 := f6.up e7 (by simp [fb_t])
                      obtain ⟨-, em⟩ := h
                      rw [em]
                      exact f7
                  · obtain ⟨m7, e7, h⟩ := h
                    have f7 := f6.up e7 (by simp [fb_t])
                    obtain ⟨-, em⟩ := h
                    rw [em]
                    exact f7
                · obtain ⟨m7, e7, h⟩ := h
                  have f7 := f6.up e7 (by simp [fb_t])
                  obtain ⟨-, em⟩ := h
                  rw [em]
                  exact f7
              · obtain ⟨m5, e5, h⟩ := h
                have f5 := f4.up e5 (by simp [fb_t])
                obtain ⟨-, em⟩ := h
                rw [em]
                exact f5
            · obtain ⟨m5, e5, h⟩ := h
              have f5 := f4.up e5 (by simp [fb_t])
              obtain ⟨-, em⟩ := h
              rw [em]
              exact f5
          · obtain ⟨m5, e5, h⟩ := h
            have f5 := f4.up e5 (by simp [fb_t])
            obtain ⟨-, em⟩ := h
            rw [em]
            exact f5
        · obtain ⟨m3, e3, h⟩ := h
          have f3 := f2.up e3 (by simp [fb_t])
          obtain ⟨-, em⟩ := h
          rw [em]
          exact f3
      · obtain ⟨m3, e3, h⟩ := h
        have f3 := f2.up e3 (by simp [fb_t])
        obtain ⟨-, em⟩ := h
        rw [em]
        exact f3
    · obtain ⟨m3, e3, h⟩ := h
      have f3 := f2.up e3 (by simp [fb_t])
      obtain ⟨-, em⟩ := h
      rw [em]
      exact f3
  · obtain ⟨m3, e3, h⟩ := h
    have f3 := f2.up e3 (by simp [fb_t])
    obtain ⟨-, em⟩ := h
    rw [em]
    exact f3
theorem fb_204 {x0 : Int} {m : dc_M} {v : Int} {m' : dc_M} (h : D_204 x0 m v m') : fb_f m m' := by
  obtain ⟨v1, m1, h1, h⟩ := h
  have f1 := (fb_f.rf (m := m)).tr (fb_188 h1)
  obtain ⟨-, em⟩ := h
  rw [em]
  exact f1
theorem fb_205 {x0 : Int} {m : dc_M} {v : Int} {m' : dc_M} (h : D_205 x0 m v m') : fb_f m m' := by
  obtain ⟨v1, m1, h1, h⟩ := h
  have f1 := (fb_f.rf (m := m)).tr (fb_204 h1)
  rcases h with ⟨-, h⟩ | ⟨-, h⟩
  · obtain ⟨-, em⟩ := h
    rw [em]
    exact f1
  · obtain ⟨-, em⟩ := h
    rw [em]
    exact f1
theorem fb_206 {x0 : Int} {m : dc_M} {v : Int} {m' : dc_M} (h : D_206 x0 m v m') : fb_f m m' := by
  rcases h with ⟨-, h⟩ | ⟨-, h⟩
  · obtain ⟨v1, m1, h1, h⟩ := h
    have f1 := (fb_f.rf (m := m)).tr (fb_199 h1)
    obtain ⟨-, em⟩ := h
    rw [em]
    exact f1
  · obtain ⟨v1, m1, h1, h⟩ := h
    have f1 := (fb_f.rf (m := m)).tr (fb_203 h1)
    rcases h with ⟨-, h⟩ | ⟨-, h⟩
    · obtain ⟨v2, m2, h2, h⟩ := h
      have f2 := f1.tr (fb_198 h2)
      rcases h with ⟨-, h⟩ | ⟨-, h⟩
      · rcases h with ⟨-, h⟩ | ⟨-, h⟩
        · obtain ⟨v3, m3, h3, h⟩ := h
          have f3 := f2.tr (fb_199 h3)
          obtain ⟨-, em⟩ := h
          rw [em]
          exact f3
        · obtain ⟨-, h⟩ := h
          obtain ⟨v3, m3, h3, h⟩ := h
          have f3 := f2.tr (fb_205 h3)
          rcases h with ⟨-, h⟩ | ⟨-, h⟩
          · obtain ⟨-, h⟩ := h
            obtain ⟨-, h⟩ := h
            obtain ⟨m4, e4, h⟩ := h
            have f4 := f3.up e4 (by simp [fb_t])
            obtain ⟨-, em⟩ := h
            rw [em]
            exact f4
          · obtain ⟨v4, m4, h4, h⟩ := h
            have f4 := f3.tr (fb_199 h4)
            obtain ⟨-, em⟩ := h
            rw [em]
            exact f4
      · obtain ⟨v3, m3, h3, h⟩ := h
        have f3 := f2.tr (fb_201 h3)
        rcases h with ⟨-, h⟩ | ⟨-, h⟩
        · rcases h with ⟨-, h⟩ | ⟨-, h⟩
          · rcases h with ⟨-, h⟩ | ⟨-, h⟩
            · obtain ⟨v4, m4, h4, h⟩ := h
              have f4 := f3.tr (fb_199 h4)
              obtain ⟨-, em⟩ := h
              rw [em]
              exact f4
            · obtain ⟨-, h⟩ := h
              obtain ⟨v4, m4, h4, h⟩ := h
              have f4 := f3.tr (fb_205 h4)
              rcases h with ⟨-, h⟩ | ⟨-, h⟩
              · obtain ⟨-, h⟩ := h
                obtain ⟨-, h⟩ := h
                obtain ⟨m5, e5, h⟩ := h
                have f5 := f4.up e5 (by simp [fb_t])
                obtain ⟨-, em⟩ := h
                rw [em]
                exact f5
              · obtain ⟨v5, m5, h5, h⟩ := h
                have f5 := f4.tr (fb_199 h5)
                obtain ⟨-, em⟩ := h
                rw [em]
                exact f5
          · obtain ⟨v4, m4, h4, h⟩ := h
            have f4 := f3.tr (fb_200 h4)
            rcases h with ⟨-, h⟩ | ⟨-, h⟩
            · obtain ⟨-, em⟩ := h
              rw [em]
              exact f4
            · obtain ⟨v5, m5, h5, h⟩ := h
              have f5 := f4.tr (fb_201 h5)
              rcases h with ⟨-, h⟩ | ⟨-, h⟩
              · rcases h with ⟨-, h⟩ | ⟨-, h⟩
                · obtain ⟨v6, m6, h6, h⟩ := h
                  have f6 := f5.tr (fb_199 h6)
                  obtain ⟨-, em⟩ := h
                  rw [em]
                  exact f6
                · obtain ⟨-, h⟩ := h
                  obtain ⟨v6, m6, h6, h⟩ := h
                  have f6 := f5.tr (fb_205 h6)
                  rcases h with ⟨-, h⟩ | ⟨-, h⟩
                  · obtain ⟨-, h⟩ := h
                    obtain ⟨-, h⟩ := h
                    obtain ⟨m7, e7, h⟩ := h
                    have f7 := f6.up e7 (by simp [fb_t])
                    obtain ⟨-, em⟩ := h
                    rw [em]
                    exact f7
                  · obtain ⟨v7, m7, h7, h⟩ := h
                    have f7 := f6.tr (fb_199 h7)
                    obtain ⟨-, em⟩ := h
                    rw [em]
                    exact f7
              · obtain ⟨-, em⟩ := h
                rw [em]
                exact f5
        · obtain ⟨-, em⟩ := h
          rw [em]
          exact f3
    · obtain ⟨v2, m2, h2, h⟩ := h
      have f2 := f1.tr (fb_199 h2)
      obtain ⟨-, em⟩ := h
      rw [em]
      exact f2
theorem fb_207  {m : dc_M} {v : Int} {m' : dc_M} (h : D_207 m v m') : fb_f m m' := by
  have key : ∀ c : Nat, (∀ (m : dc_M) (v : Int) (m' : dc_M), LM_207 c 0 m v m' → fb_f m m') := by
    intro c'
    induction c' with
    | zero => exact fun _ _ _ h => h.elim
    | succ c ih =>
      intro m v m' h
      replace h := lm_207_0.mp h
      rcases h with ⟨-, h⟩ | ⟨-, h⟩
      · obtain ⟨-, em⟩ := h
        rw [em]
        exact (fb_f.rf (m := m))
      · rcases h with ⟨-, h⟩ | ⟨-, h⟩
        · obtain ⟨v1, m1, h1, h⟩ := h
          have f1 := (fb_f.rf (m := m)).tr (fb_199 h1)
          obtain ⟨-, em⟩ := h
          rw [em]
          exact f1
        · obtain ⟨v1, m1, h1, h⟩ := h
          have f1 := (fb_f.rf (m := m)).tr (fb_203 h1)
          rcases h with ⟨-, h⟩ | ⟨-, h⟩
          · obtain ⟨v2, m2, h2, h⟩ := h
            have f2 := f1.tr (fb_199 h2)
            obtain ⟨-, em⟩ := h
            rw [em]
            exact f2
          · obtain ⟨-, h⟩ := h
            rcases h with ⟨-, h⟩ | ⟨-, h⟩
            · obtain ⟨v2, m2, h2, h⟩ := h
              have f2 := f1.tr (fb_206 h2)
              rcases h with ⟨-, h⟩ | ⟨-, h⟩
              · obtain ⟨-, em⟩ := h
                rw [em]
                exact f2
              · obtain ⟨v3, m3, h3, h⟩ := h
                have f3 := f2.tr (fb_200 h3)
                rcases h with ⟨-, h⟩ | ⟨-, h⟩
                · obtain ⟨v4, m4, h4, h⟩ := h
                  have f4 := f3.tr (fb_206 h4)
                  rcases h with ⟨-, h⟩ | ⟨-, h⟩
                  · obtain ⟨-, em⟩ := h
                    rw [em]
                    exact f4
                  · obtain ⟨v5, m5, h5, h⟩ := h
                    have f5 := f4.tr (fb_200 h5)
                    rcases h with ⟨-, h⟩ | ⟨-, h⟩
                    · obtain ⟨-, h⟩ := h
                      obtain ⟨-, h⟩ := h
                      obtain ⟨m6, e6, h⟩ := h
                      have f6 := f5.up e6 (by simp [fb_t])
                      obtain ⟨-, h⟩ := h
                      obtain ⟨-, h⟩ := h
                      obtain ⟨m7, e7, h⟩ := h
                      have f7 := f6.up e7 (by simp [fb_t])
                      obtain ⟨-, h⟩ := h
                      obtain ⟨-, h⟩ := h
                      obtain ⟨m8, e8, h⟩ := h
                      have f8 := f7.up e8 (by simp [fb_t])
                      exact f8.tr (ih _ _ _ h)
                    · obtain ⟨-, em⟩ := h
                      rw [em]
                      exact f5
                · obtain ⟨-, em⟩ := h
                  rw [em]
                  exact f3
            · obtain ⟨v2, m2, h2, h⟩ := h
              have f2 := f1.tr (fb_199 h2)
              obtain ⟨-, em⟩ := h
              rw [em]
              exact f2
  obtain ⟨c, h⟩ := h
  exact (fb_f.rf (m := m)).tr ((key c) _ _ _ h)
theorem fb_208 {x0 : Int} {x1 : Int} {m : dc_M} {v : Int} {m' : dc_M} (h : D_208 x0 x1 m v m') : fb_f m m' := by
  have key : ∀ c : Nat, (∀ (l3 : Int) (m : dc_M) (v : Int) (m' : dc_M), LM_208 x0 x1 c 14 l3 m v m' → fb_f m m') := by
    intro c'
    induction c' with
    | zero => exact fun _ _ _ _ h => h.elim
    | succ c ih =>
      intro l3 m v m' h
      replace h := lm_208_14.mp h
      rcases h with ⟨-, h⟩ | ⟨-, h⟩
      · obtain ⟨-, em⟩ := h
        rw [em]
        exact (fb_f.rf (m := m))
      · obtain ⟨-, h⟩ := h
        obtain ⟨-, h⟩ := h
        obtain ⟨m1, e1, h⟩ := h
        have f1 := (fb_f.rf (m := m)).up e1 (by simp [fb_t])
        obtain ⟨-, h⟩ := h
        obtain ⟨-, h⟩ := h
        obtain ⟨m2, e2, h⟩ := h
        have f2 := f1.up e2 (by simp [fb_t])
        exact f2.tr (ih _ _ _ _ h)
  obtain ⟨-, h⟩ := h
  obtain ⟨-, h⟩ := h
  obtain ⟨m1, e1, h⟩ := h
  have f1 := (fb_f.rf (m := m)).up e1 (by simp [fb_t])
  obtain ⟨c, h⟩ := h
  exact f1.tr ((key c) _ _ _ _ h)
theorem fb_209  {m : dc_M} {v : Int} {m' : dc_M} (h : D_209 m v m') : fb_f m m' := by
  have key : ∀ c : Nat, (∀ (l1 : Int) (m : dc_M) (v : Int) (m' : dc_M), LM_209 c 30 l1 m v m' → fb_f m m') := by
    intro c'
    induction c' with
    | zero => exact fun _ _ _ _ h => h.elim
    | succ c ih =>
      intro l1 m v m' h
      replace h := lm_209_30.mp h
      rcases h with ⟨-, h⟩ | ⟨-, h⟩
      · obtain ⟨v1, m1, h1, h⟩ := h
        have f1 := (fb_f.rf (m := m)).tr (fb_198 h1)
        obtain ⟨v2, m2, h2, h⟩ := h
        have f2 := f1.tr (fb_207 h2)
        rcases h with ⟨-, h⟩ | ⟨-, h⟩
        · obtain ⟨v3, m3, h3, h⟩ := h
          have f3 := f2.tr (fb_208 h3)
          obtain ⟨-, h⟩ := h
          obtain ⟨-, em⟩ := h
          rw [em]
          exact f3
        · obtain ⟨-, em⟩ := h
          rw [em]
          exact f2
      · obtain ⟨-, h⟩ := h
        obtain ⟨m1, e1, h⟩ := h
        have f1 := (fb_f.rf (m := m)).up e1 (by simp [fb_t])
        exact f1.tr (ih _ _ _ _ h)
  obtain ⟨m1, e1, h⟩ := h
  have f1 := (fb_f.rf (m := m)).up e1 (by simp [fb_t])
  obtain ⟨v2, m2, h2, h⟩ := h
  have f2 := f1.tr (fb_187 h2)
  obtain ⟨m3, e3, h⟩ := h
  have f3 := f2.up e3 (by simp [fb_t])
  obtain ⟨m4, e4, h⟩ := h
  have f4 := f3.up e4 (by simp [fb_t])
  obtain ⟨-, h⟩ := h
  obtain ⟨m5, e5, h⟩ := h
  have f5 := f4.up e5 (by simp [fb_t])
  obtain ⟨c, h⟩ := h
  exact f5.tr ((key c) _ _ _ _ h)
def fj_t (k : Nat) (i : Int) : Prop := (k = 114 ∧ (i = 0 ∨ (79 ≤ i ∧ i ≤ 81))) ∨ (161 ≤ k ∧ k ≤ 167)
def fj_f (m m' : dc_M) : Prop := ∀ (k : Nat) (i : Int), ¬ fj_t k i → m' k i = m k i
theorem fj_f.rf {m : dc_M} : fj_f m m := fun _ _ _ => rfl
theorem fj_f.tr {a b c : dc_M} (h : fj_f a b) (g : fj_f b c) : fj_f a c := fun k i z => (g k i z).trans (h k i z)
theorem fj_f.up {a m m1 : dc_M} {k : Nat} {i v : Int} (h : fj_f a m) (e : m1 = dc_up m k i v) (hx : fj_t k i) : fj_f a m1 := fun k' i' z => by
  rw [e]
  refine (if_neg (fun q => ?_)).trans (h k' i' z)
  rw [q.1, q.2] at z
  exact z hx
theorem fj_f.cp {a m m1 : dc_M} {s : Nat} {sp : Int} {d : Nat} {dp c : Int} (h : fj_f a m) (e : m1 = dc_cpy m s sp d dp c) (hx : ∀ i, fj_t d i) : fj_f a m1 := fun k' i' z => by
  rw [e]
  refine (if_neg (fun q => ?_)).trans (h k' i' z)
  rw [q.1] at z
  exact z (hx _)
theorem fj_f.fi {a m m1 : dc_M} {k : Nat} {len v : Int} (h : fj_f a m) (e : m1 = dc_fill m k len v) (hx : ∀ i, fj_t k i) : fj_f a m1 := fun k' i' z => by
  rw [e]
  refine (if_neg (fun q => ?_)).trans (h k' i' z)
  rw [q.1] at z
  exact z (hx _)
theorem fj_188 {x0 : Int} {x1 : Int} {x2 : Int} {m : dc_M} {v : Int} {m' : dc_M} (h : D_188 x0 x1 x2 m v m') : fj_f m m' := by
  rcases h with ⟨-, h⟩ | ⟨-, h⟩
  · obtain ⟨-, em⟩ := h
    rw [em]
    exact (fj_f.rf (m := m))
  · rcases h with ⟨-, h⟩ | ⟨-, h⟩
    · obtain ⟨-, em⟩ := h
      rw [em]
      exact (fj_f.rf (m := m))
    · obtain ⟨-, em⟩ := h
      rw [em]
      exact (fj_f.rf (m := m))
theorem fj_232 {y0 : Nat} {m : dc_M} {v : Int} {m' : dc_M} (h : D_232 y0 m v m') : fj_f m m' := by
  have key : ∀ c : Nat, (∀ (l2 : Int) (l3 : Nat) (m : dc_M) (v : Int) (m' : dc_M), LM_232 y0 c 4 l2 l3 m v m' → fj_f m m') := by
    intro c'
    induction c' with
    | zero => exact fun _ _ _ _ _ h => h.elim
    | succ c ih =>
      intro l2 l3 m v m' h
      replace h := lm_232_4.mp h
      rcases h with ⟨-, h⟩ | ⟨-, h⟩
      · obtain ⟨-, em⟩ := h
        rw [em]
        exact (fj_f.rf (m := m))
      · exact (fj_f.rf (m := m)).tr (ih _ _ _ _ _ h)
  obtain ⟨c, h⟩ := h
  exact (fj_f.rf (m := m)).tr ((key c) _ _ _ _ _ h)
theorem fj_257 {x0 : Int} {x1 : Int} {m : dc_M} {v : Int} {m' : dc_M} (h : D_257 x0 x1 m v m') : fj_f m m' := by
  obtain ⟨-, h⟩ := h
  obtain ⟨m1, e1, h⟩ := h
  have f1 := (fj_f.rf (m := m)).up e1 (by simp [fj_t])
  obtain ⟨-, h⟩ := h
  obtain ⟨m2, e2, h⟩ := h
  have f2 := f1.up e2 (by simp [fj_t])
  obtain ⟨m3, e3, h⟩ := h
  have f3 := f2.up e3 (by simp [fj_t])
  obtain ⟨-, em⟩ := h
  rw [em]
  exact f3
theorem fj_258 {x0 : Int} {m : dc_M} {v : Int} {m' : dc_M} (h : D_258 x0 m v m') : fj_f m m' := by
  have key : ∀ c : Nat, (∀ (l2 : Int) (m : dc_M) (v : Int) (m' : dc_M), LM_258 x0 c 2 l2 m v m' → fj_f m m') := by
    intro c'
    induction c' with
    | zero => exact fun _ _ _ _ h => h.elim
    | succ c ih =>
      intro l2 m v m' h
      replace h := lm_258_2.mp h
      rcases h with ⟨-, h⟩ | ⟨-, h⟩
      · rcases h with ⟨-, h⟩ | ⟨-, h⟩
        · rcases h with ⟨-, h⟩ | ⟨-, h⟩
          · obtain ⟨-, h⟩ := h
            obtain ⟨-, h⟩ := h
            obtain ⟨m1, e1, h⟩ := h
            have f1 := (fj_f.rf (m := m)).up e1 (by simp [fj_t])
            obtain ⟨-, h⟩ := h
            obtain ⟨-, em⟩ := h
            rw [em]
            exact f1
          · obtain ⟨-, h⟩ := h
            obtain ⟨m1, e1, h⟩ := h
            have f1 := (fj_f.rf (m := m)).up e1 (by simp [fj_t])
            obtain ⟨-, h⟩ := h
            obtain ⟨m2, e2, h⟩ := h
            have f2 := f1.up e2 (by simp [fj_t])
            obtain ⟨m3, e3, h⟩ := h
            have f3 := f2.up e3 (by simp [fj_t])
            rcases h with ⟨-, h⟩ | ⟨-, h⟩
            · obtain ⟨v4, m4, h4, h⟩ := h
              have f4 := f3.tr (fj_257 h4)
              obtain ⟨-, h⟩ := h
              obtain ⟨-, h⟩ := h
              obtain ⟨m5, e5, h⟩ := h
              have f5 := f4.up e5 (by simp [fj_t])
              obtain ⟨-, h⟩ := h
              obtain ⟨-, em⟩ := h
              rw [em]
              exact f5
            · obtain ⟨v4, m4, h4, h⟩ := h
              have f4 := f3.tr (fj_257 h4)
              obtain ⟨-, h⟩ := h
              obtain ⟨-, h⟩ := h
              obtain ⟨m5, e5, h⟩ := h
              have f5 := f4.up e5 (by simp [fj_t])
              obtain ⟨-, h⟩ := h
              obtain ⟨-, em⟩ := h
              rw [em]
              exact f5
        · obtain ⟨m1, e1, h⟩ := h
          have f1 := (fj_f.rf (m := m)).up e1 (by simp [fj_t])
          obtain ⟨-, em⟩ := h
          rw [em]
          exact f1
      · obtain ⟨-, h⟩ := h
        rcases h with ⟨-, h⟩ | ⟨-, h⟩
        · exact (fj_f.rf (m := m)).tr (ih _ _ _ _ h)
        · obtain ⟨-, h⟩ := h
          rcases h with ⟨-, h⟩ | ⟨-, h⟩
          · rcases h with ⟨-, h⟩ | ⟨-, h⟩
            · rcases h with ⟨-, h⟩ | ⟨-, h⟩
              · obtain ⟨-, h⟩ := h
                obtain ⟨-, h⟩ := h
                obtain ⟨m1, e1, h⟩ := h
                have f1 := (fj_f.rf (m := m)).up e1 (by simp [fj_t])
                obtain ⟨-, h⟩ := h
                obtain ⟨-, em⟩ := h
                rw [em]
                exact f1
              · obtain ⟨-, h⟩ := h
                obtain ⟨m1, e1, h⟩ := h
                have f1 := (fj_f.rf (m := m)).up e1 (by simp [fj_t])
                obtain ⟨-, h⟩ := h
                obtain ⟨m2, e2, h⟩ := h
                have f2 := f1.up e2 (by simp [fj_t])
                obtain ⟨m3, e3, h⟩ := h
                have f3 := f2.up e3 (by simp [fj_t])
                rcases h with ⟨-, h⟩ | ⟨-, h⟩
                · obtain ⟨v4, m4, h4, h⟩ := h
                  have f4 := f3.tr (fj_257 h4)
                  obtain ⟨-, h⟩ := h
                  obtain ⟨-, h⟩ := h
                  obtain ⟨m5, e5, h⟩ := h
                  have f5 := f4.up e5 (by simp [fj_t])
                  obtain ⟨-, h⟩ := h
                  obtain ⟨-, em⟩ := h
                  rw [em]
                  exact f5
                · obtain ⟨v4, m4, h4, h⟩ := h
                  have f4 := f3.tr (fj_257 h4)
                  obtain ⟨-, h⟩ := h
                  obtain ⟨-, h⟩ := h
                  obtain ⟨m5, e5, h⟩ := h
                  have f5 := f4.up e5 (by simp [fj_t])
                  obtain ⟨-, h⟩ := h
                  obtain ⟨-, em⟩ := h
                  rw [em]
                  exact f5
            · obtain ⟨m1, e1, h⟩ := h
              have f1 := (fj_f.rf (m := m)).up e1 (by simp [fj_t])
              obtain ⟨-, em⟩ := h
              rw [em]
              exact f1
          · exact (fj_f.rf (m := m)).tr (ih _ _ _ _ h)
  obtain ⟨c, h⟩ := h
  exact (fj_f.rf (m := m)).tr ((key c) _ _ _ _ h)
theorem fj_260 {x0 : Int} {x1 : Int} {m : dc_M} {v : Int} {m' : dc_M} (h : D_260 x0 x1 m v m') : fj_f m m' := by
  have key : ∀ c : Nat, (∀ (l3 : Int) (l4 : Int) (m : dc_M) (v : Int) (m' : dc_M), LM_260 x0 x1 c 27 l3 l4 m v m' → fj_f m m') := by
    intro c'
    induction c' with
    | zero => exact fun _ _ _ _ _ h => h.elim
    | succ c ih =>
      intro l3 l4 m v m' h
      replace h := lm_260_27.mp h
      rcases h with ⟨-, h⟩ | ⟨-, h⟩
      · obtain ⟨-, h⟩ := h
        rcases h with ⟨-, h⟩ | ⟨-, h⟩
        · obtain ⟨-, h⟩ := h
          obtain ⟨v1, m1, h1, h⟩ := h
          have f1 := (fj_f.rf (m := m)).tr (fj_258 h1)
          obtain ⟨v2, m2, h2, h⟩ := h
          have f2 := f1.tr (fj_257 h2)
          obtain ⟨v3, m3, h3, h⟩ := h
          have f3 := f2.tr (fj_257 h3)
          obtain ⟨v4, m4, h4, h⟩ := h
          have f4 := f3.tr (fj_257 h4)
          obtain ⟨-, em⟩ := h
          rw [em]
          exact f4
        · obtain ⟨v1, m1, h1, h⟩ := h
          have f1 := (fj_f.rf (m := m)).tr (fj_257 h1)
          obtain ⟨-, em⟩ := h
          rw [em]
          exact f1
      · obtain ⟨-, h⟩ := h
        obtain ⟨-, h⟩ := h
        rcases h with ⟨-, h⟩ | ⟨-, h⟩
        · obtain ⟨-, h⟩ := h
          rcases h with ⟨-, h⟩ | ⟨-, h⟩
          · obtain ⟨-, h⟩ := h
            obtain ⟨v1, m1, h1, h⟩ := h
            have f1 := (fj_f.rf (m := m)).tr (fj_258 h1)
            obtain ⟨v2, m2, h2, h⟩ := h
            have f2 := f1.tr (fj_257 h2)
            obtain ⟨v3, m3, h3, h⟩ := h
            have f3 := f2.tr (fj_257 h3)
            obtain ⟨v4, m4, h4, h⟩ := h
            have f4 := f3.tr (fj_257 h4)
            obtain ⟨-, em⟩ := h
            rw [em]
            exact f4
          · obtain ⟨v1, m1, h1, h⟩ := h
            have f1 := (fj_f.rf (m := m)).tr (fj_257 h1)
            obtain ⟨-, em⟩ := h
            rw [em]
            exact f1
        · obtain ⟨-, h⟩ := h
          obtain ⟨v1, m1, h1, h⟩ := h
          have f1 := (fj_f.rf (m := m)).tr (fj_257 h1)
          exact f1.tr (ih _ _ _ _ _ h)
  obtain ⟨-, h⟩ := h
  rcases h with ⟨-, h⟩ | ⟨-, h⟩
  · obtain ⟨c, h⟩ := h
    exact (fj_f.rf (m := m)).tr ((key c) _ _ _ _ _ h)
  · obtain ⟨v1, m1, h1, h⟩ := h
    have f1 := (fj_f.rf (m := m)).tr (fj_257 h1)
    obtain ⟨c, h⟩ := h
    exact f1.tr ((key c) _ _ _ _ _ h)
theorem fj_259 {x0 : Int} {m : dc_M} {v : Int} {m' : dc_M} (h : D_259 x0 m v m') : fj_f m m' := by
  have key : ∀ c : Nat, (∀ (l2 : Int) (l3 : Int) (l4 : Int) (l5 : Int) (l6 : Int) (l7 : Int) (m : dc_M) (v : Int) (m' : dc_M), LM_259 x0 c 19 l2 l3 l4 l5 l6 l7 m v m' → fj_f m m') ∧ (∀ (l2 : Int) (l3 : Int) (l4 : Int) (l5 : Int) (l6 : Int) (l7 : Int) (m : dc_M) (v : Int) (m' : dc_M), LM_259 x0 c 79 l2 l3 l4 l5 l6 l7 m v m' → fj_f m m') ∧ (∀ (l2 : Int) (l3 : Int) (l4 : Int) (l5 : Int) (l6 : Int) (l7 : Int) (m : dc_M) (v : Int) (m' : dc_M), LM_259 x0 c 168 l2 l3 l4 l5 l6 l7 m v m' → fj_f m m') ∧ (∀ (l2 : Int) (l3 : Int) (l4 : Int) (l5 : Int) (l6 : Int) (l7 : Int) (m : dc_M) (v : Int) (m' : dc_M), LM_259 x0 c 217 l2 l3 l4 l5 l6 l7 m v m' → fj_f m m') ∧ (∀ (l2 : Int) (l3 : Int) (l4 : Int) (l5 : Int) (l6 : Int) (l7 : Int) (m : dc_M) (v : Int) (m' : dc_M), LM_259 x0 c 251 l2 l3 l4 l5 l6 l7 m v m' → fj_f m m') := by
    intro c'
    induction c' with
    | zero => exact ⟨fun _ _ _ _ _ _ _ _ _ h => h.elim, fun _ _ _ _ _ _ _ _ _ h => h.elim, fun _ _ _ _ _ _ _ _ _ h => h.elim, fun _ _ _ _ _ _ _ _ _ h => h.elim, fun _ _ _ _ _ _ _ _ _ h => h.elim⟩
    | succ c ih =>
      refine ⟨?_, ?_, ?_, ?_, ?_⟩
      · intro l2 l3 l4 l5 l6 l7 m v m' h
        replace h := lm_259_19.mp h
        obtain ⟨-, h⟩ := h
        rcases h with ⟨-, h⟩ | ⟨-, h⟩
        · obtain ⟨v1, m1, h1, h⟩ := h
          have f1 := (fj_f.rf (m := m)).tr (fj_232 h1)
          rcases h with ⟨-, h⟩ | ⟨-, h⟩
          · obtain ⟨-, em⟩ := h
            rw [em]
            exact f1
          · rcases h with ⟨-, h⟩ | ⟨-, h⟩
            · exact f1.tr (ih.2.1 _ _ _ _ _ _ _ _ _ h)
            · obtain ⟨-, em⟩ := h
              rw [em]
              exact f1
        · rcases h with ⟨-, h⟩ | ⟨-, h⟩
          · exact (fj_f.rf (m := m)).tr (ih.1 _ _ _ _ _ _ _ _ _ h)
          · obtain ⟨-, h⟩ := h
            exact (fj_f.rf (m := m)).tr (ih.1 _ _ _ _ _ _ _ _ _ h)
      · intro l2 l3 l4 l5 l6 l7 m v m' h
        replace h := lm_259_79.mp h
        rcases h with ⟨-, h⟩ | ⟨-, h⟩
        · exact (fj_f.rf (m := m)).tr (ih.2.2.1 _ _ _ _ _ _ _ _ _ h)
        · obtain ⟨-, h⟩ := h
          rcases h with ⟨-, h⟩ | ⟨-, h⟩
          · obtain ⟨-, h⟩ := h
            obtain ⟨v1, m1, h1, h⟩ := h
            have f1 := (fj_f.rf (m := m)).tr (fj_257 h1)
            obtain ⟨-, h⟩ := h
            obtain ⟨v2, m2, h2, h⟩ := h
            have f2 := f1.tr (fj_257 h2)
            obtain ⟨v3, m3, h3, h⟩ := h
            have f3 := f2.tr (fj_257 h3)
            exact f3.tr (ih.2.1 _ _ _ _ _ _ _ _ _ h)
          · exact (fj_f.rf (m := m)).tr (ih.2.1 _ _ _ _ _ _ _ _ _ h)
      · intro l2 l3 l4 l5 l6 l7 m v m' h
        replace h := lm_259_168.mp h
        obtain ⟨-, h⟩ := h
        rcases h with ⟨-, h⟩ | ⟨-, h⟩
        · exact (fj_f.rf (m := m)).tr (ih.2.2.2.1 _ _ _ _ _ _ _ _ _ h)
        · rcases h with ⟨-, h⟩ | ⟨-, h⟩
          · obtain ⟨v1, m1, h1, h⟩ := h
            have f1 := (fj_f.rf (m := m)).tr (fj_260 h1)
            exact f1.tr (ih.2.2.1 _ _ _ _ _ _ _ _ _ h)
          · exact (fj_f.rf (m := m)).tr (ih.2.2.1 _ _ _ _ _ _ _ _ _ h)
      · intro l2 l3 l4 l5 l6 l7 m v m' h
        replace h := lm_259_217.mp h
        obtain ⟨-, h⟩ := h
        rcases h with ⟨-, h⟩ | ⟨-, h⟩
        · rcases h with ⟨-, h⟩ | ⟨-, h⟩
          · obtain ⟨-, em⟩ := h
            rw [em]
            exact (fj_f.rf (m := m))
          · rcases h with ⟨-, h⟩ | ⟨-, h⟩
            · obtain ⟨-, em⟩ := h
              rw [em]
              exact (fj_f.rf (m := m))
            · obtain ⟨-, em⟩ := h
              rw [em]
              exact (fj_f.rf (m := m))
        · rcases h with ⟨-, h⟩ | ⟨-, h⟩
          · obtain ⟨-, h⟩ := h
            exact (fj_f.rf (m := m)).tr (ih.2.2.2.2 _ _ _ _ _ _ _ _ _ h)
          · exact (fj_f.rf (m := m)).tr (ih.2.2.2.1 _ _ _ _ _ _ _ _ _ h)
      · intro l2 l3 l4 l5 l6 l7 m v m' h
        replace h := lm_259_251.mp h
        rcases h with ⟨-, h⟩ | ⟨-, h⟩
        · obtain ⟨-, h⟩ := h
          obtain ⟨v1, m1, h1, h⟩ := h
          have f1 := (fj_f.rf (m := m)).tr (fj_257 h1)
          exact f1.tr (ih.2.2.2.1 _ _ _ _ _ _ _ _ _ h)
        · obtain ⟨-, h⟩ := h
          obtain ⟨v1, m1, h1, h⟩ := h
          have f1 := (fj_f.rf (m := m)).tr (fj_258 h1)
          obtain ⟨v2, m2, h2, h⟩ := h
          have f2 := f1.tr (fj_257 h2)
          obtain ⟨v3, m3, h3, h⟩ := h
          have f3 := f2.tr (fj_257 h3)
          exact f3.tr (ih.2.2.2.2 _ _ _ _ _ _ _ _ _ h)
  obtain ⟨m1, e1, h⟩ := h
  have f1 := (fj_f.rf (m := m)).up e1 (by simp [fj_t])
  obtain ⟨m2, e2, h⟩ := h
  have f2 := f1.up e2 (by simp [fj_t])
  obtain ⟨m3, e3, h⟩ := h
  have f3 := f2.up e3 (by simp [fj_t])
  obtain ⟨c, h⟩ := h
  exact f3.tr ((key c).1 _ _ _ _ _ _ _ _ _ h)
theorem fj_261  {m : dc_M} {v : Int} {m' : dc_M} (h : D_261 m v m') : fj_f m m' := by
  have key : ∀ c : Nat, (∀ (l1 : Int) (l2 : Int) (l3 : Int) (l4 : Int) (m : dc_M) (v : Int) (m' : dc_M), LM_261 c 20 l1 l2 l3 l4 m v m' → fj_f m m') ∧ (∀ (l1 : Int) (l2 : Int) (l3 : Int) (l4 : Int) (m : dc_M) (v : Int) (m' : dc_M), LM_261 c 52 l1 l2 l3 l4 m v m' → fj_f m m') := by
    intro c'
    induction c' with
    | zero => exact ⟨fun _ _ _ _ _ _ _ h => h.elim, fun _ _ _ _ _ _ _ h => h.elim⟩
    | succ c ih =>
      refine ⟨?_, ?_⟩
      · intro l1 l2 l3 l4 m v m' h
        replace h := lm_261_20.mp h
        rcases h with ⟨-, h⟩ | ⟨-, h⟩
        · obtain ⟨-, h⟩ := h
          rcases h with ⟨-, h⟩ | ⟨-, h⟩
          · obtain ⟨-, h⟩ := h
            obtain ⟨-, em⟩ := h
            rw [em]
            exact (fj_f.rf (m := m))
          · obtain ⟨-, em⟩ := h
            rw [em]
            exact (fj_f.rf (m := m))
        · obtain ⟨v1, m1, h1, h⟩ := h
          have f1 := (fj_f.rf (m := m)).tr (fj_259 h1)
          obtain ⟨-, h⟩ := h
          obtain ⟨m2, e2, h⟩ := h
          have f2 := f1.up e2 (by simp [fj_t])
          obtain ⟨-, h⟩ := h
          obtain ⟨m3, e3, h⟩ := h
          have f3 := f2.up e3 (by simp [fj_t])
          exact f3.tr (ih.2 _ _ _ _ _ _ _ h)
      · intro l1 l2 l3 l4 m v m' h
        replace h := lm_261_52.mp h
        rcases h with ⟨-, h⟩ | ⟨-, h⟩
        · exact (fj_f.rf (m := m)).tr (ih.1 _ _ _ _ _ _ _ h)
        · rcases h with ⟨-, h⟩ | ⟨-, h⟩
          · exact (fj_f.rf (m := m)).tr (ih.2 _ _ _ _ _ _ _ h)
          · rcases h with ⟨-, h⟩ | ⟨-, h⟩
            · exact (fj_f.rf (m := m)).tr (ih.2 _ _ _ _ _ _ _ h)
            · obtain ⟨-, h⟩ := h
              rcases h with ⟨-, h⟩ | ⟨-, h⟩
              · exact (fj_f.rf (m := m)).tr (ih.2 _ _ _ _ _ _ _ h)
              · obtain ⟨-, h⟩ := h
                obtain ⟨-, h⟩ := h
                rcases h with ⟨-, h⟩ | ⟨-, h⟩
                · obtain ⟨-, h⟩ := h
                  obtain ⟨-, h⟩ := h
                  obtain ⟨m1, e1, h⟩ := h
                  have f1 := (fj_f.rf (m := m)).up e1 (by simp [fj_t])
                  obtain ⟨-, h⟩ := h
                  obtain ⟨m2, e2, h⟩ := h
                  have f2 := f1.up e2 (by simp [fj_t])
                  exact f2.tr (ih.2 _ _ _ _ _ _ _ h)
                · exact (fj_f.rf (m := m)).tr (ih.2 _ _ _ _ _ _ _ h)
  obtain ⟨-, h⟩ := h
  obtain ⟨-, h⟩ := h
  obtain ⟨m1, e1, h⟩ := h
  have f1 := (fj_f.rf (m := m)).up e1 (by simp [fj_t])
  obtain ⟨c, h⟩ := h
  exact f1.tr ((key c).1 _ _ _ _ _ _ _ h)
theorem fj_263 {x0 : Int} {m : dc_M} {v : Int} {m' : dc_M} (h : D_263 x0 m v m') : fj_f m m' := by
  have key : ∀ c : Nat, (∀ (l2 : Int) (l3 : Int) (l4 : Int) (m : dc_M) (v : Int) (m' : dc_M), LM_263 x0 c 32 l2 l3 l4 m v m' → fj_f m m') := by
    intro c'
    induction c' with
    | zero => exact fun _ _ _ _ _ _ h => h.elim
    | succ c ih =>
      intro l2 l3 l4 m v m' h
      replace h := lm_263_32.mp h
      rcases h with ⟨-, h⟩ | ⟨-, h⟩
      · obtain ⟨-, h⟩ := h
        obtain ⟨-, em⟩ := h
        rw [em]
        exact (fj_f.rf (m := m))
      · obtain ⟨-, h⟩ := h
        exact (fj_f.rf (m := m)).tr (ih _ _ _ _ _ _ h)
  obtain ⟨v1, m1, h1, h⟩ := h
  have f1 := (fj_f.rf (m := m)).tr (fj_261 h1)
  obtain ⟨v2, m2, h2, h⟩ := h
  have f2 := f1.tr (fj_188 h2)
  rcases h with ⟨-, h⟩ | ⟨-, h⟩
  · obtain ⟨-, h⟩ := h
    obtain ⟨c, h⟩ := h
    exact f2.tr ((key c) _ _ _ _ _ _ h)
  · obtain ⟨-, em⟩ := h
    rw [em]
    exact f2
theorem fj_262  {m : dc_M} {v : Int} {m' : dc_M} (h : D_262 m v m') : fj_f m m' := by
  obtain ⟨m1, e1, h⟩ := h
  have f1 := (fj_f.rf (m := m)).up e1 (by simp [fj_t])
  obtain ⟨v2, m2, h2, h⟩ := h
  have f2 := f1.tr (fj_261 h2)
  obtain ⟨-, em⟩ := h
  rw [em]
  exact f2
theorem fj_264 {x0 : Int} {m : dc_M} {v : Int} {m' : dc_M} (h : D_264 x0 m v m') : fj_f m m' := by
  obtain ⟨m1, e1, h⟩ := h
  have f1 := (fj_f.rf (m := m)).up e1 (by simp [fj_t])
  obtain ⟨v2, m2, h2, h⟩ := h
  have f2 := f1.tr (fj_263 h2)
  obtain ⟨-, em⟩ := h
  rw [em]
  exact f2
def fk_t (k : Nat) (i : Int) : Prop := (k = 114 ∧ (i = 0 ∨ (79 ≤ i ∧ i ≤ 81))) ∨ (161 ≤ k ∧ k ≤ 167) ∨ k = 118 ∨ k = 119 ∨ (k = 120 ∧ i = 0)
def fk_f (m m' : dc_M) : Prop := ∀ (k : Nat) (i : Int), ¬ fk_t k i → m' k i = m k i
theorem fk_f.rf {m : dc_M} : fk_f m m := fun _ _ _ => rfl
theorem fk_f.tr {a b c : dc_M} (h : fk_f a b) (g : fk_f b c) : fk_f a c := fun k i z => (g k i z).trans (h k i z)
theorem fk_f.up {a m m1 : dc_M} {k : Nat} {i v : Int} (h : fk_f a m) (e : m1 = dc_up m k i v) (hx : fk_t k i) : fk_f a m1 := fun k' i' z => by
  rw [e]
  refine (if_neg (fun q => ?_)).trans (h k' i' z)
  rw [q.1, q.2] at z
  exact z hx
theorem fk_f.cp {a m m1 : dc_M} {s : Nat} {sp : Int} {d : Nat} {dp c : Int} (h : fk_f a m) (e : m1 = dc_cpy m s sp d dp c) (hx : ∀ i, fk_t d i) : fk_f a m1 := fun k' i' z => by
  rw [e]
  refine (if_neg (fun q => ?_)).trans (h k' i' z)
  rw [q.1] at z
  exact z (hx _)
theorem fk_f.fi {a m m1 : dc_M} {k : Nat} {len v : Int} (h : fk_f a m) (e : m1 = dc_fill m k len v) (hx : ∀ i, fk_t k i) : fk_f a m1 := fun k' i' z => by
  rw [e]
  refine (if_neg (fun q => ?_)).trans (h k' i' z)
  rw [q.1] at z
  exact z (hx _)
theorem fk_188 {x0 : Int} {x1 : Int} {x2 : Int} {m : dc_M} {v : Int} {m' : dc_M} (h : D_188 x0 x1 x2 m v m') : fk_f m m' := by
  rcases h with ⟨-, h⟩ | ⟨-, h⟩
  · obtain ⟨-, em⟩ := h
    rw [em]
    exact (fk_f.rf (m := m))
  · rcases h with ⟨-, h⟩ | ⟨-, h⟩
    · obtain ⟨-, em⟩ := h
      rw [em]
      exact (fk_f.rf (m := m))
    · obtain ⟨-, em⟩ := h
      rw [em]
      exact (fk_f.rf (m := m))
theorem fk_232 {y0 : Nat} {m : dc_M} {v : Int} {m' : dc_M} (h : D_232 y0 m v m') : fk_f m m' := by
  have key : ∀ c : Nat, (∀ (l2 : Int) (l3 : Nat) (m : dc_M) (v : Int) (m' : dc_M), LM_232 y0 c 4 l2 l3 m v m' → fk_f m m') := by
    intro c'
    induction c' with
    | zero => exact fun _ _ _ _ _ h => h.elim
    | succ c ih =>
      intro l2 l3 m v m' h
      replace h := lm_232_4.mp h
      rcases h with ⟨-, h⟩ | ⟨-, h⟩
      · obtain ⟨-, em⟩ := h
        rw [em]
        exact (fk_f.rf (m := m))
      · exact (fk_f.rf (m := m)).tr (ih _ _ _ _ _ h)
  obtain ⟨c, h⟩ := h
  exact (fk_f.rf (m := m)).tr ((key c) _ _ _ _ _ h)
theorem fk_257 {x0 : Int} {x1 : Int} {m : dc_M} {v : Int} {m' : dc_M} (h : D_257 x0 x1 m v m') : fk_f m m' := by
  obtain ⟨-, h⟩ := h
  obtain ⟨m1, e1, h⟩ := h
  have f1 := (fk_f.rf (m := m)).up e1 (by simp [fk_t])
  obtain ⟨-, h⟩ := h
  obtain ⟨m2, e2, h⟩ := h
  have f2 := f1.up e2 (by simp [fk_t])
  obtain ⟨m3, e3, h⟩ := h
  have f3 := f2.up e3 (by simp [fk_t])
  obtain ⟨-, em⟩ := h
  rw [em]
  exact f3
theorem fk_258 {x0 : Int} {m : dc_M} {v : Int} {m' : dc_M} (h : D_258 x0 m v m') : fk_f m m' := by
  have key : ∀ c : Nat, (∀ (l2 : Int) (m : dc_M) (v : Int) (m' : dc_M), LM_258 x0 c 2 l2 m v m' → fk_f m m') := by
    intro c'
    induction c' with
    | zero => exact fun _ _ _ _ h => h.elim
    | succ c ih =>
      intro l2 m v m' h
      replace h := lm_258_2.mp h
      rcases h with ⟨-, h⟩ | ⟨-, h⟩
      · rcases h with ⟨-, h⟩ | ⟨-, h⟩
        · rcases h with ⟨-, h⟩ | ⟨-, h⟩
          · obtain ⟨-, h⟩ := h
            obtain ⟨-, h⟩ := h
            obtain ⟨m1, e1, h⟩ := h
            have f1 := (fk_f.rf (m := m)).up e1 (by simp [fk_t])
            obtain ⟨-, h⟩ := h
            obtain ⟨-, em⟩ := h
            rw [em]
            exact f1
          · obtain ⟨-, h⟩ := h
            obtain ⟨m1, e1, h⟩ := h
            have f1 := (fk_f.rf (m := m)).up e1 (by simp [fk_t])
            obtain ⟨-, h⟩ := h
            obtain ⟨m2, e2, h⟩ := h
            have f2 := f1.up e2 (by simp [fk_t])
            obtain ⟨m3, e3, h⟩ := h
            have f3 := f2.up e3 (by simp [fk_t])
            rcases h with ⟨-, h⟩ | ⟨-, h⟩
            · obtain ⟨v4, m4, h4, h⟩ := h
              have f4 := f3.tr (fk_257 h4)
              obtain ⟨-, h⟩ := h
              obtain ⟨-, h⟩ := h
              obtain ⟨m5, e5, h⟩ := h
              have f5 := f4.up e5 (by simp [fk_t])
              obtain ⟨-, h⟩ := h
              obtain ⟨-, em⟩ := h
              rw [em]
              exact f5
            · obtain ⟨v4, m4, h4, h⟩ := h
              have f4 := f3.tr (fk_257 h4)
              obtain ⟨-, h⟩ := h
              obtain ⟨-, h⟩ := h
              obtain ⟨m5, e5, h⟩ := h
              have f5 := f4.up e5 (by simp [fk_t])
              obtain ⟨-, h⟩ := h
              obtain ⟨-, em⟩ := h
              rw [em]
              exact f5
        · obtain ⟨m1, e1, h⟩ := h
          have f1 := (fk_f.rf (m := m)).up e1 (by simp [fk_t])
          obtain ⟨-, em⟩ := h
          rw [em]
          exact f1
      · obtain ⟨-, h⟩ := h
        rcases h with ⟨-, h⟩ | ⟨-, h⟩
        · exact (fk_f.rf (m := m)).tr (ih _ _ _ _ h)
        · obtain ⟨-, h⟩ := h
          rcases h with ⟨-, h⟩ | ⟨-, h⟩
          · rcases h with ⟨-, h⟩ | ⟨-, h⟩
            · rcases h with ⟨-, h⟩ | ⟨-, h⟩
              · obtain ⟨-, h⟩ := h
                obtain ⟨-, h⟩ := h
                obtain ⟨m1, e1, h⟩ := h
                have f1 := (fk_f.rf (m := m)).up e1 (by simp [fk_t])
                obtain ⟨-, h⟩ := h
                obtain ⟨-, em⟩ := h
                rw [em]
                exact f1
              · obtain ⟨-, h⟩ := h
                obtain ⟨m1, e1, h⟩ := h
                have f1 := (fk_f.rf (m := m)).up e1 (by simp [fk_t])
                obtain ⟨-, h⟩ := h
                obtain ⟨m2, e2, h⟩ := h
                have f2 := f1.up e2 (by simp [fk_t])
                obtain ⟨m3, e3, h⟩ := h
                have f3 := f2.up e3 (by simp [fk_t])
                rcases h with ⟨-, h⟩ | ⟨-, h⟩
                · obtain ⟨v4, m4, h4, h⟩ := h
                  have f4 := f3.tr (fk_257 h4)
                  obtain ⟨-, h⟩ := h
                  obtain ⟨-, h⟩ := h
                  obtain ⟨m5, e5, h⟩ := h
                  have f5 := f4.up e5 (by simp [fk_t])
                  obtain ⟨-, h⟩ := h
                  obtain ⟨-, em⟩ := h
                  rw [em]
                  exact f5
                · obtain ⟨v4, m4, h4, h⟩ := h
                  have f4 := f3.tr (fk_257 h4)
                  obtain ⟨-, h⟩ := h
                  obtain ⟨-, h⟩ := h
                  obtain ⟨m5, e5, h⟩ := h
                  have f5 := f4.up e5 (by simp [fk_t])
                  obtain ⟨-, h⟩ := h
                  obtain ⟨-, em⟩ := h
                  rw [em]
                  exact f5
            · obtain ⟨m1, e1, h⟩ := h
              have f1 := (fk_f.rf (m := m)).up e1 (by simp [fk_t])
              obtain ⟨-, em⟩ := h
              rw [em]
              exact f1
          · exact (fk_f.rf (m := m)).tr (ih _ _ _ _ h)
  obtain ⟨c, h⟩ := h
  exact (fk_f.rf (m := m)).tr ((key c) _ _ _ _ h)
theorem fk_260 {x0 : Int} {x1 : Int} {m : dc_M} {v : Int} {m' : dc_M} (h : D_260 x0 x1 m v m') : fk_f m m' := by
  have key : ∀ c : Nat, (∀ (l3 : Int) (l4 : Int) (m : dc_M) (v : Int) (m' : dc_M), LM_260 x0 x1 c 27 l3 l4 m v m' → fk_f m m') := by
    intro c'
    induction c' with
    | zero => exact fun _ _ _ _ _ h => h.elim
    | succ c ih =>
      intro l3 l4 m v m' h
      replace h := lm_260_27.mp h
      rcases h with ⟨-, h⟩ | ⟨-, h⟩
      · obtain ⟨-, h⟩ := h
        rcases h with ⟨-, h⟩ | ⟨-, h⟩
        · obtain ⟨-, h⟩ := h
          obtain ⟨v1, m1, h1, h⟩ := h
          have f1 := (fk_f.rf (m := m)).tr (fk_258 h1)
          obtain ⟨v2, m2, h2, h⟩ := h
          have f2 := f1.tr (fk_257 h2)
          obtain ⟨v3, m3, h3, h⟩ := h
          have f3 := f2.tr (fk_257 h3)
          obtain ⟨v4, m4, h4, h⟩ := h
          have f4 := f3.tr (fk_257 h4)
          obtain ⟨-, em⟩ := h
          rw [em]
          exact f4
        · obtain ⟨v1, m1, h1, h⟩ := h
          have f1 := (fk_f.rf (m := m)).tr (fk_257 h1)
          obtain ⟨-, em⟩ := h
          rw [em]
          exact f1
      · obtain ⟨-, h⟩ := h
        obtain ⟨-, h⟩ := h
        rcases h with ⟨-, h⟩ | ⟨-, h⟩
        · obtain ⟨-, h⟩ := h
          rcases h with ⟨-, h⟩ | ⟨-, h⟩
          · obtain ⟨-, h⟩ := h
            obtain ⟨v1, m1, h1, h⟩ := h
            have f1 := (fk_f.rf (m := m)).tr (fk_258 h1)
            obtain ⟨v2, m2, h2, h⟩ := h
            have f2 := f1.tr (fk_257 h2)
            obtain ⟨v3, m3, h3, h⟩ := h
            have f3 := f2.tr (fk_257 h3)
            obtain ⟨v4, m4, h4, h⟩ := h
            have f4 := f3.tr (fk_257 h4)
            obtain ⟨-, em⟩ := h
            rw [em]
            exact f4
          · obtain ⟨v1, m1, h1, h⟩ := h
            have f1 := (fk_f.rf (m := m)).tr (fk_257 h1)
            obtain ⟨-, em⟩ := h
            rw [em]
            exact f1
        · obtain ⟨-, h⟩ := h
          obtain ⟨v1, m1, h1, h⟩ := h
          have f1 := (fk_f.rf (m := m)).tr (fk_257 h1)
          exact f1.tr (ih _ _ _ _ _ h)
  obtain ⟨-, h⟩ := h
  rcases h with ⟨-, h⟩ | ⟨-, h⟩
  · obtain ⟨c, h⟩ := h
    exact (fk_f.rf (m := m)).tr ((key c) _ _ _ _ _ h)
  · obtain ⟨v1, m1, h1, h⟩ := h
    have f1 := (fk_f.rf (m := m)).tr (fk_257 h1)
    obtain ⟨c, h⟩ := h
    exact f1.tr ((key c) _ _ _ _ _ h)
theorem fk_259 {x0 : Int} {m : dc_M} {v : Int} {m' : dc_M} (h : D_259 x0 m v m') : fk_f m m' := by
  have key : ∀ c : Nat, (∀ (l2 : Int) (l3 : Int) (l4 : Int) (l5 : Int) (l6 : Int) (l7 : Int) (m : dc_M) (v : Int) (m' : dc_M), LM_259 x0 c 19 l2 l3 l4 l5 l6 l7 m v m' → fk_f m m') ∧ (∀ (l2 : Int) (l3 : Int) (l4 : Int) (l5 : Int) (l6 : Int) (l7 : Int) (m : dc_M) (v : Int) (m' : dc_M), LM_259 x0 c 79 l2 l3 l4 l5 l6 l7 m v m' → fk_f m m') ∧ (∀ (l2 : Int) (l3 : Int) (l4 : Int) (l5 : Int) (l6 : Int) (l7 : Int) (m : dc_M) (v : Int) (m' : dc_M), LM_259 x0 c 168 l2 l3 l4 l5 l6 l7 m v m' → fk_f m m') ∧ (∀ (l2 : Int) (l3 : Int) (l4 : Int) (l5 : Int) (l6 : Int) (l7 : Int) (m : dc_M) (v : Int) (m' : dc_M), LM_259 x0 c 217 l2 l3 l4 l5 l6 l7 m v m' → fk_f m m') ∧ (∀ (l2 : Int) (l3 : Int) (l4 : Int) (l5 : Int) (l6 : Int) (l7 : Int) (m : dc_M) (v : Int) (m' : dc_M), LM_259 x0 c 251 l2 l3 l4 l5 l6 l7 m v m' → fk_f m m') := by
    intro c'
    induction c' with
    | zero => exact ⟨fun _ _ _ _ _ _ _ _ _ h => h.elim, fun _ _ _ _ _ _ _ _ _ h => h.elim, fun _ _ _ _ _ _ _ _ _ h => h.elim, fun _ _ _ _ _ _ _ _ _ h => h.elim, fun _ _ _ _ _ _ _ _ _ h => h.elim⟩
    | succ c ih =>
      refine ⟨?_, ?_, ?_, ?_, ?_⟩
      · intro l2 l3 l4 l5 l6 l7 m v m' h
        replace h := lm_259_19.mp h
        obtain ⟨-, h⟩ := h
        rcases h with ⟨-, h⟩ | ⟨-, h⟩
        · obtain ⟨v1, m1, h1, h⟩ := h
          have f1 := (fk_f.rf (m := m)).tr (fk_232 h1)
          rcases h with ⟨-, h⟩ | ⟨-, h⟩
          · obtain ⟨-, em⟩ := h
            rw [em]
            exact f1
          · rcases h with ⟨-, h⟩ | ⟨-, h⟩
            · exact f1.tr (ih.2.1 _ _ _ _ _ _ _ _ _ h)
            · obtain ⟨-, em⟩ := h
              rw [em]
              exact f1
        · rcases h with ⟨-, h⟩ | ⟨-, h⟩
          · exact (fk_f.rf (m := m)).tr (ih.1 _ _ _ _ _ _ _ _ _ h)
          · obtain ⟨-, h⟩ := h
            exact (fk_f.rf (m := m)).tr (ih.1 _ _ _ _ _ _ _ _ _ h)
      · intro l2 l3 l4 l5 l6 l7 m v m' h
        replace h := lm_259_79.mp h
        rcases h with ⟨-, h⟩ | ⟨-, h⟩
        · exact (fk_f.rf (m := m)).tr (ih.2.2.1 _ _ _ _ _ _ _ _ _ h)
        · obtain ⟨-, h⟩ := h
          rcases h with ⟨-, h⟩ | ⟨-, h⟩
          · obtain ⟨-, h⟩ := h
            obtain ⟨v1, m1, h1, h⟩ := h
            have f1 := (fk_f.rf (m := m)).tr (fk_257 h1)
            obtain ⟨-, h⟩ := h
            obtain ⟨v2, m2, h2, h⟩ := h
            have f2 := f1.tr (fk_257 h2)
            obtain ⟨v3, m3, h3, h⟩ := h
            have f3 := f2.tr (fk_257 h3)
            exact f3.tr (ih.2.1 _ _ _ _ _ _ _ _ _ h)
          · exact (fk_f.rf (m := m)).tr (ih.2.1 _ _ _ _ _ _ _ _ _ h)
      · intro l2 l3 l4 l5 l6 l7 m v m' h
        replace h := lm_259_168.mp h
        obtain ⟨-, h⟩ := h
        rcases h with ⟨-, h⟩ | ⟨-, h⟩
        · exact (fk_f.rf (m := m)).tr (ih.2.2.2.1 _ _ _ _ _ _ _ _ _ h)
        · rcases h with ⟨-, h⟩ | ⟨-, h⟩
          · obtain ⟨v1, m1, h1, h⟩ := h
            have f1 := (fk_f.rf (m := m)).tr (fk_260 h1)
            exact f1.tr (ih.2.2.1 _ _ _ _ _ _ _ _ _ h)
          · exact (fk_f.rf (m := m)).tr (ih.2.2.1 _ _ _ _ _ _ _ _ _ h)
      · intro l2 l3 l4 l5 l6 l7 m v m' h
        replace h := lm_259_217.mp h
        obtain ⟨-, h⟩ := h
        rcases h with ⟨-, h⟩ | ⟨-, h⟩
        · rcases h with ⟨-, h⟩ | ⟨-, h⟩
          · obtain ⟨-, em⟩ := h
            rw [em]
            exact (fk_f.rf (m := m))
          · rcases h with ⟨-, h⟩ | ⟨-, h⟩
            · obtain ⟨-, em⟩ := h
              rw [em]
              exact (fk_f.rf (m := m))
            · obtain ⟨-, em⟩ := h
              rw [em]
              exact (fk_f.rf (m := m))
        · rcases h with ⟨-, h⟩ | ⟨-, h⟩
          · obtain ⟨-, h⟩ := h
            exact (fk_f.rf (m := m)).tr (ih.2.2.2.2 _ _ _ _ _ _ _ _ _ h)
          · exact (fk_f.rf (m := m)).tr (ih.2.2.2.1 _ _ _ _ _ _ _ _ _ h)
      · intro l2 l3 l4 l5 l6 l7 m v m' h
        replace h := lm_259_251.mp h
        rcases h with ⟨-, h⟩ | ⟨-, h⟩
        · obtain ⟨-, h⟩ := h
          obtain ⟨v1, m1, h1, h⟩ := h
          have f1 := (fk_f.rf (m := m)).tr (fk_257 h1)
          exact f1.tr (ih.2.2.2.1 _ _ _ _ _ _ _ _ _ h)
        · obtain ⟨-, h⟩ := h
          obtain ⟨v1, m1, h1, h⟩ := h
          have f1 := (fk_f.rf (m := m)).tr (fk_258 h1)
          obtain ⟨v2, m2, h2, h⟩ := h
          have f2 := f1.tr (fk_257 h2)
          obtain ⟨v3, m3, h3, h⟩ := h
          have f3 := f2.tr (fk_257 h3)
          exact f3.tr (ih.2.2.2.2 _ _ _ _ _ _ _ _ _ h)
  obtain ⟨m1, e1, h⟩ := h
  have f1 := (fk_f.rf (m := m)).up e1 (by simp [fk_t])
  obtain ⟨m2, e2, h⟩ := h
  have f2 := f1.up e2 (by simp [fk_t])
  obtain ⟨m3, e3, h⟩ := h
  have f3 := f2.up e3 (by simp [fk_t])
  obtain ⟨c, h⟩ := h
  exact f3.tr ((key c).1 _ _ _ _ _ _ _ _ _ h)
theorem fk_261  {m : dc_M} {v : Int} {m' : dc_M} (h : D_261 m v m') : fk_f m m' := by
  have key : ∀ c : Nat, (∀ (l1 : Int) (l2 : Int) (l3 : Int) (l4 : Int) (m : dc_M) (v : Int) (m' : dc_M), LM_261 c 20 l1 l2 l3 l4 m v m' → fk_f m m') ∧ (∀ (l1 : Int) (l2 : Int) (l3 : Int) (l4 : Int) (m : dc_M) (v : Int) (m' : dc_M), LM_261 c 52 l1 l2 l3 l4 m v m' → fk_f m m') := by
    intro c'
    induction c' with
    | zero => exact ⟨fun _ _ _ _ _ _ _ h => h.elim, fun _ _ _ _ _ _ _ h => h.elim⟩
    | succ c ih =>
      refine ⟨?_, ?_⟩
      · intro l1 l2 l3 l4 m v m' h
        replace h := lm_261_20.mp h
        rcases h with ⟨-, h⟩ | ⟨-, h⟩
        · obtain ⟨-, h⟩ := h
          rcases h with ⟨-, h⟩ | ⟨-, h⟩
          · obtain ⟨-, h⟩ := h
            obtain ⟨-, em⟩ := h
            rw [em]
            exact (fk_f.rf (m := m))
          · obtain ⟨-, em⟩ := h
            rw [em]
            exact (fk_f.rf (m := m))
        · obtain ⟨v1, m1, h1, h⟩ := h
          have f1 := (fk_f.rf (m := m)).tr (fk_259 h1)
          obtain ⟨-, h⟩ := h
          obtain ⟨m2, e2, h⟩ := h
          have f2 := f1.up e2 (by simp [fk_t])
          obtain ⟨-, h⟩ := h
          obtain ⟨m3, e3, h⟩ := h
          have f3 := f2.up e3 (by simp [fk_t])
          exact f3.tr (ih.2 _ _ _ _ _ _ _ h)
      · intro l1 l2 l3 l4 m v m' h
        replace h := lm_261_52.mp h
        rcases h with ⟨-, h⟩ | ⟨-, h⟩
        · exact (fk_f.rf (m := m)).tr (ih.1 _ _ _ _ _ _ _ h)
        · rcases h with ⟨-, h⟩ | ⟨-, h⟩
          · exact (fk_f.rf (m := m)).tr (ih.2 _ _ _ _ _ _ _ h)
          · rcases h with ⟨-, h⟩ | ⟨-, h⟩
            · exact (fk_f.rf (m := m)).tr (ih.2 _ _ _ _ _ _ _ h)
            · obtain ⟨-, h⟩ := h
              rcases h with ⟨-, h⟩ | ⟨-, h⟩
              · exact (fk_f.rf (m := m)).tr (ih.2 _ _ _ _ _ _ _ h)
              · obtain ⟨-, h⟩ := h
                obtain ⟨-, h⟩ := h
                rcases h with ⟨-, h⟩ | ⟨-, h⟩
                · obtain ⟨-, h⟩ := h
                  obtain ⟨-, h⟩ := h
                  obtain ⟨m1, e1, h⟩ := h
                  have f1 := (fk_f.rf (m := m)).up e1 (by simp [fk_t])
                  obtain ⟨-, h⟩ := h
                  obtain ⟨m2, e2, h⟩ := h
                  have f2 := f1.up e2 (by simp [fk_t])
                  exact f2.tr (ih.2 _ _ _ _ _ _ _ h)
                · exact (fk_f.rf (m := m)).tr (ih.2 _ _ _ _ _ _ _ h)
  obtain ⟨-, h⟩ := h
  obtain ⟨-, h⟩ := h
  obtain ⟨m1, e1, h⟩ := h
  have f1 := (fk_f.rf (m := m)).up e1 (by simp [fk_t])
  obtain ⟨c, h⟩ := h
  exact f1.tr ((key c).1 _ _ _ _ _ _ _ h)
theorem fk_263 {x0 : Int} {m : dc_M} {v : Int} {m' : dc_M} (h : D_263 x0 m v m') : fk_f m m' := by
  have key : ∀ c : Nat, (∀ (l2 : Int) (l3 : Int) (l4 : Int) (m : dc_M) (v : Int) (m' : dc_M), LM_263 x0 c 32 l2 l3 l4 m v m' → fk_f m m') := by
    intro c'
    induction c' with
    | zero => exact fun _ _ _ _ _ _ h => h.elim
    | succ c ih =>
      intro l2 l3 l4 m v m' h
      replace h := lm_263_32.mp h
      rcases h with ⟨-, h⟩ | ⟨-, h⟩
      · obtain ⟨-, h⟩ := h
        obtain ⟨-, em⟩ := h
        rw [em]
        exact (fk_f.rf (m := m))
      · obtain ⟨-, h⟩ := h
        exact (fk_f.rf (m := m)).tr (ih _ _ _ _ _ _ h)
  obtain ⟨v1, m1, h1, h⟩ := h
  have f1 := (fk_f.rf (m := m)).tr (fk_261 h1)
  obtain ⟨v2, m2, h2, h⟩ := h
  have f2 := f1.tr (fk_188 h2)
  rcases h with ⟨-, h⟩ | ⟨-, h⟩
  · obtain ⟨-, h⟩ := h
    obtain ⟨c, h⟩ := h
    exact f2.tr ((key c) _ _ _ _ _ _ h)
  · obtain ⟨-, em⟩ := h
    rw [em]
    exact f2
theorem fk_265 {x0 : Int} {m : dc_M} {v : Int} {m' : dc_M} (h : D_265 x0 m v m') : fk_f m m' := by
  have key : ∀ c : Nat, (∀ (l2 : Int) (l3 : Int) (m : dc_M) (v : Int) (m' : dc_M), LM_265 x0 c 35 l2 l3 m v m' → fk_f m m') := by
    intro c'
    induction c' with
    | zero => exact fun _ _ _ _ _ h => h.elim
    | succ c ih =>
      intro l2 l3 m v m' h
      replace h := lm_265_35.mp h
      rcases h with ⟨-, h⟩ | ⟨-, h⟩
      · obtain ⟨-, em⟩ := h
        rw [em]
        exact (fk_f.rf (m := m))
      · obtain ⟨-, h⟩ := h
        obtain ⟨-, h⟩ := h
        obtain ⟨m1, e1, h⟩ := h
        have f1 := (fk_f.rf (m := m)).up e1 (by simp [fk_t])
        obtain ⟨-, h⟩ := h
        obtain ⟨-, h⟩ := h
        obtain ⟨m2, e2, h⟩ := h
        have f2 := f1.up e2 (by simp [fk_t])
        exact f2.tr (ih _ _ _ _ _ h)
  obtain ⟨m1, e1, h⟩ := h
  have f1 := (fk_f.rf (m := m)).up e1 (by simp [fk_t])
  obtain ⟨v2, m2, h2, h⟩ := h
  have f2 := f1.tr (fk_263 h2)
  rcases h with ⟨-, h⟩ | ⟨-, h⟩
  · obtain ⟨v3, m3, h3, h⟩ := h
    have f3 := f2.tr (fk_259 h3)
    obtain ⟨-, h⟩ := h
    obtain ⟨m4, e4, h⟩ := h
    have f4 := f3.up e4 (by simp [fk_t])
    obtain ⟨c, h⟩ := h
    exact f4.tr ((key c) _ _ _ _ _ h)
  · obtain ⟨-, em⟩ := h
    rw [em]
    exact f2
def fc_t (k : Nat) (i : Int) : Prop := k = 1000
def fc_f (m m' : dc_M) : Prop := ∀ (k : Nat) (i : Int), ¬ fc_t k i → m' k i = m k i
theorem fc_f.rf {m : dc_M} : fc_f m m := fun _ _ _ => rfl
theorem fc_f.tr {a b c : dc_M} (h : fc_f a b) (g : fc_f b c) : fc_f a c := fun k i z => (g k i z).trans (h k i z)
theorem fc_f.up {a m m1 : dc_M} {k : Nat} {i v : Int} (h : fc_f a m) (e : m1 = dc_up m k i v) (hx : fc_t k i) : fc_f a m1 := fun k' i' z => by
  rw [e]
  refine (if_neg (fun q => ?_)).trans (h k' i' z)
  rw [q.1, q.2] at z
  exact z hx
theorem fc_f.cp {a m m1 : dc_M} {s : Nat} {sp : Int} {d : Nat} {dp c : Int} (h : fc_f a m) (e : m1 = dc_cpy m s sp d dp c) (hx : ∀ i, fc_t d i) : fc_f a m1 := fun k' i' z => by
  rw [e]
  refine (if_neg (fun q => ?_)).trans (h k' i' z)
  rw [q.1] at z
  exact z (hx _)
theorem fc_f.fi {a m m1 : dc_M} {k : Nat} {len v : Int} (h : fc_f a m) (e : m1 = dc_fill m k len v) (hx : ∀ i, fc_t k i) : fc_f a m1 := fun k' i' z => by
  rw [e]
  refine (if_neg (fun q => ?_)).trans (h k' i' z)
  rw [q.1] at z
  exact z (hx _)
theorem fc_79 {x0 : Int} {m : dc_M} {v : Int} {m' : dc_M} (h : D_79 x0 m v m') : fc_f m m' := by
  rcases h with ⟨-, h⟩ | ⟨-, h⟩
  · obtain ⟨-, em⟩ := h
    rw [em]
    exact (fc_f.rf (m := m))
  · rcases h with ⟨-, h⟩ | ⟨-, h⟩
    · obtain ⟨-, em⟩ := h
      rw [em]
      exact (fc_f.rf (m := m))
    · obtain ⟨-, em⟩ := h
      rw [em]
      exact (fc_f.rf (m := m))
theorem fc_164  {m : dc_M} {v : Int} {m' : dc_M} (h : D_164 m v m') : fc_f m m' := by
  obtain ⟨-, em⟩ := h
  rw [em]
  exact (fc_f.rf (m := m))
theorem fc_165 {x0 : Int} {m : dc_M} {v : Int} {m' : dc_M} (h : D_165 x0 m v m') : fc_f m m' := by
  obtain ⟨v1, m1, h1, h⟩ := h
  have f1 := (fc_f.rf (m := m)).tr (fc_79 h1)
  rcases h with ⟨-, h⟩ | ⟨-, h⟩
  · obtain ⟨-, em⟩ := h
    rw [em]
    exact f1
  · obtain ⟨-, h⟩ := h
    obtain ⟨-, em⟩ := h
    rw [em]
    exact f1
theorem fc_142 {x0 : Int} {x1 : Int} {m : dc_M} {v : Int} {m' : dc_M} (h : D_142 x0 x1 m v m') : fc_f m m' := by
  rcases h with ⟨-, h⟩ | ⟨-, h⟩
  · obtain ⟨-, em⟩ := h
    rw [em]
    exact (fc_f.rf (m := m))
  · rcases h with ⟨-, h⟩ | ⟨-, h⟩
    · obtain ⟨-, em⟩ := h
      rw [em]
      exact (fc_f.rf (m := m))
    · rcases h with ⟨-, h⟩ | ⟨-, h⟩
      · obtain ⟨-, em⟩ := h
        rw [em]
        exact (fc_f.rf (m := m))
      · rcases h with ⟨-, h⟩ | ⟨-, h⟩
        · obtain ⟨-, em⟩ := h
          rw [em]
          exact (fc_f.rf (m := m))
        · rcases h with ⟨-, h⟩ | ⟨-, h⟩
          · obtain ⟨-, em⟩ := h
            rw [em]
            exact (fc_f.rf (m := m))
          · obtain ⟨-, h⟩ := h
            obtain ⟨-, em⟩ := h
            rw [em]
            exact (fc_f.rf (m := m))
theorem fc_175 {x0 : Int} {x1 : Int} {m : dc_M} {v : Int} {m' : dc_M} (h : D_175 x0 x1 m v m') : fc_f m m' := by
  obtain ⟨v1, m1, h1, h⟩ := h
  have f1 := (fc_f.rf (m := m)).tr (fc_142 h1)
  obtain ⟨-, em⟩ := h
  rw [em]
  exact f1
theorem fc_94  {m : dc_M} {v : Int} {m' : dc_M} (h : D_94 88 m v m') : fc_f m m' := by
  obtain ⟨-, em⟩ := h
  rw [em]
  exact (fc_f.rf (m := m))
theorem fc_95 {x0 : Int} {x1 : Int} {m : dc_M} {v : Int} {m' : dc_M} (h : D_95 88 x0 x1 m v m') : fc_f m m' := by
  rcases h with ⟨-, h⟩ | ⟨-, h⟩
  · obtain ⟨-, em⟩ := h
    rw [em]
    exact (fc_f.rf (m := m))
  · obtain ⟨v1, m1, h1, h⟩ := h
    have f1 := (fc_f.rf (m := m)).tr (fc_94 h1)
    rcases h with ⟨-, h⟩ | ⟨-, h⟩
    · obtain ⟨-, em⟩ := h
      rw [em]
      exact f1
    · rcases h with ⟨-, h⟩ | ⟨-, h⟩
      · obtain ⟨-, em⟩ := h
        rw [em]
        exact f1
      · rcases h with ⟨-, h⟩ | ⟨-, h⟩
        · obtain ⟨-, em⟩ := h
          rw [em]
          exact f1
        · obtain ⟨-, em⟩ := h
          rw [em]
          exact f1
theorem fc_96 {x0 : Int} {x1 : Int} {m : dc_M} {v : Int} {m' : dc_M} (h : D_96 88 x0 x1 m v m') : fc_f m m' := by
  obtain ⟨-, h⟩ := h
  obtain ⟨-, em⟩ := h
  rw [em]
  exact (fc_f.rf (m := m))
theorem fc_168 {x0 : Int} {x1 : Int} {m : dc_M} {v : Int} {m' : dc_M} (h : D_168 x0 x1 m v m') : fc_f m m' := by
  obtain ⟨v1, m1, h1, h⟩ := h
  have f1 := (fc_f.rf (m := m)).tr (fc_95 h1)
  rcases h with ⟨-, h⟩ | ⟨-, h⟩
  · obtain ⟨v2, m2, h2, h⟩ := h
    have f2 := f1.tr (fc_96 h2)
    obtain ⟨-, em⟩ := h
    rw [em]
    exact f2
  · exact h.elim
theorem fc_180 {x0 : Int} {m : dc_M} {v : Int} {m' : dc_M} (h : D_180 x0 m v m') : fc_f m m' := by
  rcases h with ⟨-, h⟩ | ⟨-, h⟩
  · obtain ⟨-, em⟩ := h
    rw [em]
    exact (fc_f.rf (m := m))
  · rcases h with ⟨-, h⟩ | ⟨-, h⟩
    · obtain ⟨-, em⟩ := h
      rw [em]
      exact (fc_f.rf (m := m))
    · obtain ⟨-, h⟩ := h
      obtain ⟨-, em⟩ := h
      rw [em]
      exact (fc_f.rf (m := m))
def fd_t (k : Nat) (i : Int) : Prop := (k = 1 ∧ i = 1) ∨ (k = 56 ∧ (i = 2 ∨ i = 9)) ∨ (58 ≤ k ∧ k ≤ 63)
def fd_f (m m' : dc_M) : Prop := ∀ (k : Nat) (i : Int), ¬ fd_t k i → m' k i = m k i
theorem fd_f.rf {m : dc_M} : fd_f m m := fun _ _ _ => rfl
theorem fd_f.tr {a b c : dc_M} (h : fd_f a b) (g : fd_f b c) : fd_f a c := fun k i z => (g k i z).trans (h k i z)
theorem fd_f.up {a m m1 : dc_M} {k : Nat} {i v : Int} (h : fd_f a m) (e : m1 = dc_up m k i v) (hx : fd_t k i) : fd_f a m1 := fun k' i' z => by
  rw [e]
  refine (if_neg (fun q => ?_)).trans (h k' i' z)
  rw [q.1, q.2] at z
  exact z hx
theorem fd_f.cp {a m m1 : dc_M} {s : Nat} {sp : Int} {d : Nat} {dp c : Int} (h : fd_f a m) (e : m1 = dc_cpy m s sp d dp c) (hx : ∀ i, fd_t d i) : fd_f a m1 := fun k' i' z => by
  rw [e]
  refine (if_neg (fun q => ?_)).trans (h k' i' z)
  rw [q.1] at z
  exact z (hx _)
theorem fd_f.fi {a m m1 : dc_M} {k : Nat} {len v : Int} (h : fd_f a m) (e : m1 = dc_fill m k len v) (hx : ∀ i, fd_t k i) : fd_f a m1 := fun k' i' z => by
  rw [e]
  refine (if_neg (fun q => ?_)).trans (h k' i' z)
  rw [q.1] at z
  exact z (hx _)
theorem fd_284 {y0 : Nat} {m : dc_M} {v : Int} {m' : dc_M} (h : D_284 y0 m v m') : fd_f m m' := by
  obtain ⟨-, h⟩ := h
  obtain ⟨-, h⟩ := h
  obtain ⟨-, h⟩ := h
  obtain ⟨-, h⟩ := h
  obtain ⟨-, h⟩ := h
  obtain ⟨-, h⟩ := h
  obtain ⟨-, em⟩ := h
  rw [em]
  exact (fd_f.rf (m := m))
theorem fd_7 {k0 : Nat} {x0 : Int} {x1 : Int} {y2 : Nat} {m : dc_M} {v : Int} {m' : dc_M} (h : D_7 k0 x0 x1 y2 m v m') : fd_f m m' := by
  have key : ∀ c : Nat, (∀ (l5 : Int) (m : dc_M) (v : Int) (m' : dc_M), LM_7 k0 x0 x1 y2 c 3 l5 m v m' → fd_f m m') := by
    intro c'
    induction c' with
    | zero => exact fun _ _ _ _ h => h.elim
    | succ c ih =>
      intro l5 m v m' h
      replace h := lm_7_3.mp h
      rcases h with ⟨-, h⟩ | ⟨-, h⟩
      · obtain ⟨-, em⟩ := h
        rw [em]
        exact (fd_f.rf (m := m))
      · obtain ⟨-, h⟩ := h
        rcases h with ⟨-, h⟩ | ⟨-, h⟩
        · obtain ⟨-, h⟩ := h
          rcases h with ⟨-, h⟩ | ⟨-, h⟩
          · exact (fd_f.rf (m := m)).tr (ih _ _ _ _ h)
          · obtain ⟨-, h⟩ := h
            rcases h with ⟨-, h⟩ | ⟨-, h⟩
            · exact (fd_f.rf (m := m)).tr (ih _ _ _ _ h)
            · obtain ⟨-, h⟩ := h
              rcases h with ⟨-, h⟩ | ⟨-, h⟩
              · exact (fd_f.rf (m := m)).tr (ih _ _ _ _ h)
              · obtain ⟨-, em⟩ := h
                rw [em]
                exact (fd_f.rf (m := m))
        · obtain ⟨-, h⟩ := h
          rcases h with ⟨-, h⟩ | ⟨-, h⟩
          · obtain ⟨-, h⟩ := h
            rcases h with ⟨-, h⟩ | ⟨-, h⟩
            · exact (fd_f.rf (m := m)).tr (ih _ _ _ _ h)
            · obtain ⟨-, em⟩ := h
              rw [em]
              exact (fd_f.rf (m := m))
          · obtain ⟨-, h⟩ := h
            rcases h with ⟨-, h⟩ | ⟨-, h⟩
            · exact (fd_f.rf (m := m)).tr (ih _ _ _ _ h)
            · obtain ⟨-, h⟩ := h
              rcases h with ⟨-, h⟩ | ⟨-, h⟩
              · exact (fd_f.rf (m := m)).tr (ih _ _ _ _ h)
              · obtain ⟨-, h⟩ := h
                rcases h with ⟨-, h⟩ | ⟨-, h⟩
                · exact (fd_f.rf (m := m)).tr (ih _ _ _ _ h)
                · obtain ⟨-, em⟩ := h
                  rw [em]
                  exact (fd_f.rf (m := m))
  obtain ⟨c, h⟩ := h
  exact (fd_f.rf (m := m)).tr ((key c) _ _ _ _ h)
theorem fd_6 {k0 : Nat} {k1 : Nat} {m : dc_M} {v : Int} {m' : dc_M} (h : D_6 k0 k1 m v m') : fd_f m m' := by
  have key : ∀ c : Nat, (∀ (l2 : Nat) (l4 : Int) (m : dc_M) (v : Int) (m' : dc_M), LM_6 k0 k1 c 5 l2 l4 m v m' → fd_f m m') := by
    intro c'
    induction c' with
    | zero => exact fun _ _ _ _ _ h => h.elim
    | succ c ih =>
      intro l2 l4 m v m' h
      replace h := lm_6_5.mp h
      rcases h with ⟨-, h⟩ | ⟨-, h⟩
      · obtain ⟨v1, m1, h1, h⟩ := h
        have f1 := (fd_f.rf (m := m)).tr (fd_284 h1)
        obtain ⟨-, em⟩ := h
        rw [em]
        exact f1
      · obtain ⟨-, h⟩ := h
        obtain ⟨-, h⟩ := h
        obtain ⟨v1, m1, h1, h⟩ := h
        have f1 := (fd_f.rf (m := m)).tr (fd_7 h1)
        rcases h with ⟨-, h⟩ | ⟨-, h⟩
        · exact f1.tr (ih _ _ _ _ _ h)
        · obtain ⟨-, h⟩ := h
          exact f1.tr (ih _ _ _ _ _ h)
  obtain ⟨c, h⟩ := h
  exact (fd_f.rf (m := m)).tr ((key c) _ _ _ _ _ h)
theorem fd_102 {x0 : Int} {m : dc_M} {v : Int} {m' : dc_M} (h : D_102 x0 m v m') : fd_f m m' := by
  rcases h with ⟨-, h⟩ | ⟨-, h⟩
  · obtain ⟨-, em⟩ := h
    rw [em]
    exact (fd_f.rf (m := m))
  · rcases h with ⟨-, h⟩ | ⟨-, h⟩
    · obtain ⟨-, em⟩ := h
      rw [em]
      exact (fd_f.rf (m := m))
    · obtain ⟨-, em⟩ := h
      rw [em]
      exact (fd_f.rf (m := m))
theorem fd_103 {x0 : Int} {m : dc_M} {v : Int} {m' : dc_M} (h : D_103 x0 m v m') : fd_f m m' := by
  obtain ⟨v1, m1, h1, h⟩ := h
  have f1 := (fd_f.rf (m := m)).tr (fd_102 h1)
  rcases h with ⟨-, h⟩ | ⟨-, h⟩
  · obtain ⟨-, em⟩ := h
    rw [em]
    exact f1
  · rcases h with ⟨-, h⟩ | ⟨-, h⟩
    · obtain ⟨-, em⟩ := h
      rw [em]
      exact f1
    · obtain ⟨-, em⟩ := h
      rw [em]
      exact f1
theorem fd_105 {x0 : Int} {x1 : Int} {m : dc_M} {v : Int} {m' : dc_M} (h : D_105 x0 x1 m v m') : fd_f m m' := by
  obtain ⟨-, h⟩ := h
  obtain ⟨-, h⟩ := h
  obtain ⟨v1, m1, h1, h⟩ := h
  have f1 := (fd_f.rf (m := m)).tr (fd_6 h1)
  obtain ⟨-, em⟩ := h
  rw [em]
  exact f1
theorem fd_106  {m : dc_M} {v : Int} {m' : dc_M} (h : D_106 m v m') : fd_f m m' := by
  have key : ∀ c : Nat, (∀ (l2 : Int) (l3 : Int) (m : dc_M) (v : Int) (m' : dc_M), LM_106 c 31 l2 l3 m v m' → fd_f m m') ∧ (∀ (l2 : Int) (l3 : Int) (m : dc_M) (v : Int) (m' : dc_M), LM_106 c 66 l2 l3 m v m' → fd_f m m') := by
    intro c'
    induction c' with
    | zero => exact ⟨fun _ _ _ _ _ h => h.elim, fun _ _ _ _ _ h => h.elim⟩
    | succ c ih =>
      refine ⟨?_, ?_⟩
      · intro l2 l3 m v m' h
        replace h := lm_106_31.mp h
        rcases h with ⟨-, h⟩ | ⟨-, h⟩
        · obtain ⟨m1, e1, h⟩ := h
          have f1 := (fd_f.rf (m := m)).up e1 (by simp [fd_t])
          exact f1.tr (ih.2 _ _ _ _ _ h)
        · obtain ⟨-, h⟩ := h
          obtain ⟨v1, m1, h1, h⟩ := h
          have f1 := (fd_f.rf (m := m)).tr (fd_103 h1)
          rcases h with ⟨-, h⟩ | ⟨-, h⟩
          · exact f1.tr (ih.1 _ _ _ _ _ h)
          · obtain ⟨-, em⟩ := h
            rw [em]
            exact f1
      · intro l2 l3 m v m' h
        replace h := lm_106_66.mp h
        rcases h with ⟨-, h⟩ | ⟨-, h⟩
        · obtain ⟨-, em⟩ := h
          rw [em]
          exact (fd_f.rf (m := m))
        · obtain ⟨-, h⟩ := h
          obtain ⟨-, h⟩ := h
          obtain ⟨m1, e1, h⟩ := h
          have f1 := (fd_f.rf (m := m)).up e1 (by simp [fd_t])
          obtain ⟨-, h⟩ := h
          obtain ⟨-, h⟩ := h
          obtain ⟨-, h⟩ := h
          obtain ⟨m2, e2, h⟩ := h
          have f2 := f1.up e2 (by simp [fd_t])
          obtain ⟨-, h⟩ := h
          obtain ⟨-, h⟩ := h
          obtain ⟨-, h⟩ := h
          obtain ⟨m3, e3, h⟩ := h
          have f3 := f2.up e3 (by simp [fd_t])
          exact f3.tr (ih.2 _ _ _ _ _ h)
  rcases h with ⟨-, h⟩ | ⟨-, h⟩
  · obtain ⟨-, em⟩ := h
    rw [em]
    exact (fd_f.rf (m := m))
  · rcases h with ⟨-, h⟩ | ⟨-, h⟩
    · obtain ⟨-, em⟩ := h
      rw [em]
      exact (fd_f.rf (m := m))
    · rcases h with ⟨-, h⟩ | ⟨-, h⟩
      · obtain ⟨c, h⟩ := h
        exact (fd_f.rf (m := m)).tr ((key c).1 _ _ _ _ _ h)
      · obtain ⟨-, em⟩ := h
        rw [em]
        exact (fd_f.rf (m := m))
theorem fd_108  {m : dc_M} {v : Int} {m' : dc_M} (h : D_108 m v m') : fd_f m m' := by
  have key : ∀ c : Nat, (∀ (l1 : Int) (l2 : Int) (m : dc_M) (v : Int) (m' : dc_M), LM_108 c 2 l1 l2 m v m' → fd_f m m') ∧ (∀ (l1 : Int) (l2 : Int) (m : dc_M) (v : Int) (m' : dc_M), LM_108 c 37 l1 l2 m v m' → fd_f m m') := by
    intro c'
    induction c' with
    | zero => exact ⟨fun _ _ _ _ _ h => h.elim, fun _ _ _ _ _ h => h.elim⟩
    | succ c ih =>
      refine ⟨?_, ?_⟩
      · intro l1 l2 m v m' h
        replace h := lm_108_2.mp h
        rcases h with ⟨-, h⟩ | ⟨-, h⟩
        · obtain ⟨-, em⟩ := h
          rw [em]
          exact (fd_f.rf (m := m))
        · obtain ⟨-, h⟩ := h
          obtain ⟨-, h⟩ := h
          obtain ⟨-, h⟩ := h
          obtain ⟨m1, e1, h⟩ := h
          have f1 := (fd_f.rf (m := m)).up e1 (by simp [fd_t])
          exact f1.tr (ih.2 _ _ _ _ _ h)
      · intro l1 l2 m v m' h
        replace h := lm_108_37.mp h
        rcases h with ⟨-, h⟩ | ⟨-, h⟩
        · exact (fd_f.rf (m := m)).tr (ih.1 _ _ _ _ _ h)
        · obtain ⟨-, h⟩ := h
          obtain ⟨-, h⟩ := h
          obtain ⟨v1, m1, h1, h⟩ := h
          have f1 := (fd_f.rf (m := m)).tr (fd_105 h1)
          obtain ⟨-, h⟩ := h
          obtain ⟨m2, e2, h⟩ := h
          have f2 := f1.up e2 (by simp [fd_t])
          obtain ⟨-, h⟩ := h
          obtain ⟨m3, e3, h⟩ := h
          have f3 := f2.up e3 (by simp [fd_t])
          exact f3.tr (ih.2 _ _ _ _ _ h)
  obtain ⟨c, h⟩ := h
  exact (fd_f.rf (m := m)).tr ((key c).1 _ _ _ _ _ h)
theorem fd_109  {m : dc_M} {v : Int} {m' : dc_M} (h : D_109 m v m') : fd_f m m' := by
  have key : ∀ c : Nat, (∀ (l1 : Int) (l2 : Int) (l3 : Int) (m : dc_M) (v : Int) (m' : dc_M), LM_109 c 7 l1 l2 l3 m v m' → fd_f m m') := by
    intro c'
    induction c' with
    | zero => exact fun _ _ _ _ _ _ h => h.elim
    | succ c ih =>
      intro l1 l2 l3 m v m' h
      replace h := lm_109_7.mp h
      rcases h with ⟨-, h⟩ | ⟨-, h⟩
      · obtain ⟨-, em⟩ := h
        rw [em]
        exact (fd_f.rf (m := m))
      · obtain ⟨-, h⟩ := h
        obtain ⟨-, h⟩ := h
        obtain ⟨-, h⟩ := h
        obtain ⟨-, h⟩ := h
        rcases h with ⟨-, h⟩ | ⟨-, h⟩
        · exact (fd_f.rf (m := m)).tr (ih _ _ _ _ _ _ h)
        · obtain ⟨-, em⟩ := h
          rw [em]
          exact (fd_f.rf (m := m))
  obtain ⟨c, h⟩ := h
  exact (fd_f.rf (m := m)).tr ((key c) _ _ _ _ _ _ h)
theorem fd_111 {x0 : Int} {x1 : Int} {m : dc_M} {v : Int} {m' : dc_M} (h : D_111 x0 x1 m v m') : fd_f m m' := by
  obtain ⟨-, h⟩ := h
  obtain ⟨-, h⟩ := h
  obtain ⟨-, h⟩ := h
  obtain ⟨m1, e1, h⟩ := h
  have f1 := (fd_f.rf (m := m)).up e1 (by simp [fd_t])
  obtain ⟨-, h⟩ := h
  obtain ⟨m2, e2, h⟩ := h
  have f2 := f1.up e2 (by simp [fd_t])
  obtain ⟨-, em⟩ := h
  rw [em]
  exact f2
theorem fd_110  {m : dc_M} {v : Int} {m' : dc_M} (h : D_110 m v m') : fd_f m m' := by
  have key : ∀ c : Nat, (∀ (l1 : Int) (l2 : Int) (l3 : Int) (l4 : Int) (m : dc_M) (v : Int) (m' : dc_M), LM_110 c 7 l1 l2 l3 l4 m v m' → fd_f m m') ∧ (∀ (l1 : Int) (l2 : Int) (l3 : Int) (l4 : Int) (m : dc_M) (v : Int) (m' : dc_M), LM_110 c 47 l1 l2 l3 l4 m v m' → fd_f m m') ∧ (∀ (l1 : Int) (l2 : Int) (l3 : Int) (l4 : Int) (m : dc_M) (v : Int) (m' : dc_M), LM_110 c 91 l1 l2 l3 l4 m v m' → fd_f m m') := by
    intro c'
    induction c' with
    | zero => exact ⟨fun _ _ _ _ _ _ _ h => h.elim, fun _ _ _ _ _ _ _ h => h.elim, fun _ _ _ _ _ _ _ h => h.elim⟩
    | succ c ih =>
      refine ⟨?_, ?_, ?_⟩
      · intro l1 l2 l3 l4 m v m' h
        replace h := lm_110_7.mp h
        rcases h with ⟨-, h⟩ | ⟨-, h⟩
        · rcases h with ⟨-, h⟩ | ⟨-, h⟩
          · exact (fd_f.rf (m := m)).tr (ih.2.1 _ _ _ _ _ _ _ h)
          · obtain ⟨-, em⟩ := h
            rw [em]
            exact (fd_f.rf (m := m))
        · obtain ⟨-, h⟩ := h
          obtain ⟨-, h⟩ := h
          rcases h with ⟨-, h⟩ | ⟨-, h⟩
          · rcases h with ⟨-, h⟩ | ⟨-, h⟩
            · exact (fd_f.rf (m := m)).tr (ih.2.1 _ _ _ _ _ _ _ h)
            · obtain ⟨-, em⟩ := h
              rw [em]
              exact (fd_f.rf (m := m))
          · exact (fd_f.rf (m := m)).tr (ih.1 _ _ _ _ _ _ _ h)
      · intro l1 l2 l3 l4 m v m' h
        replace h := lm_110_47.mp h
        rcases h with ⟨-, h⟩ | ⟨-, h⟩
        · obtain ⟨v1, m1, h1, h⟩ := h
          have f1 := (fd_f.rf (m := m)).tr (fd_111 h1)
          exact f1.tr (ih.2.2 _ _ _ _ _ _ _ h)
        · obtain ⟨-, h⟩ := h
          obtain ⟨-, h⟩ := h
          rcases h with ⟨-, h⟩ | ⟨-, h⟩
          · obtain ⟨v1, m1, h1, h⟩ := h
            have f1 := (fd_f.rf (m := m)).tr (fd_111 h1)
            exact f1.tr (ih.2.2 _ _ _ _ _ _ _ h)
          · exact (fd_f.rf (m := m)).tr (ih.2.1 _ _ _ _ _ _ _ h)
      · intro l1 l2 l3 l4 m v m' h
        replace h := lm_110_91.mp h
        rcases h with ⟨-, h⟩ | ⟨-, h⟩
        · obtain ⟨-, em⟩ := h
          rw [em]
          exact (fd_f.rf (m := m))
        · obtain ⟨v1, m1, h1, h⟩ := h
          have f1 := (fd_f.rf (m := m)).tr (fd_111 h1)
          exact f1.tr (ih.2.2 _ _ _ _ _ _ _ h)
  obtain ⟨c, h⟩ := h
  exact (fd_f.rf (m := m)).tr ((key c).1 _ _ _ _ _ _ _ h)
theorem fd_107  {m : dc_M} {v : Int} {m' : dc_M} (h : D_107 m v m') : fd_f m m' := by
  have key : ∀ c : Nat, (∀ (l1 : Int) (l2 : Int) (l3 : Int) (m : dc_M) (v : Int) (m' : dc_M), LM_107 c 6 l1 l2 l3 m v m' → fd_f m m') ∧ (∀ (l1 : Int) (l2 : Int) (l3 : Int) (m : dc_M) (v : Int) (m' : dc_M), LM_107 c 34 l1 l2 l3 m v m' → fd_f m m') := by
    intro c'
    induction c' with
    | zero => exact ⟨fun _ _ _ _ _ _ h => h.elim, fun _ _ _ _ _ _ h => h.elim⟩
    | succ c ih =>
      refine ⟨?_, ?_⟩
      · intro l1 l2 l3 m v m' h
        replace h := lm_107_6.mp h
        rcases h with ⟨-, h⟩ | ⟨-, h⟩
        · exact (fd_f.rf (m := m)).tr (ih.2 _ _ _ _ _ _ h)
        · obtain ⟨-, h⟩ := h
          obtain ⟨m1, e1, h⟩ := h
          have f1 := (fd_f.rf (m := m)).up e1 (by simp [fd_t])
          exact f1.tr (ih.1 _ _ _ _ _ _ h)
      · intro l1 l2 l3 m v m' h
        replace h := lm_107_34.mp h
        rcases h with ⟨-, h⟩ | ⟨-, h⟩
        · rcases h with ⟨-, h⟩ | ⟨-, h⟩
          · obtain ⟨-, em⟩ := h
            rw [em]
            exact (fd_f.rf (m := m))
          · obtain ⟨-, em⟩ := h
            rw [em]
            exact (fd_f.rf (m := m))
        · rcases h with ⟨-, h⟩ | ⟨-, h⟩
          · rcases h with ⟨-, h⟩ | ⟨-, h⟩
            · obtain ⟨-, em⟩ := h
              rw [em]
              exact (fd_f.rf (m := m))
            · obtain ⟨-, em⟩ := h
              rw [em]
              exact (fd_f.rf (m := m))
          · obtain ⟨v1, m1, h1, h⟩ := h
            have f1 := (fd_f.rf (m := m)).tr (fd_109 h1)
            rcases h with ⟨-, h⟩ | ⟨-, h⟩
            · obtain ⟨v2, m2, h2, h⟩ := h
              have f2 := f1.tr (fd_110 h2)
              exact f2.tr (ih.2 _ _ _ _ _ _ h)
            · obtain ⟨m2, e2, h⟩ := h
              have f2 := f1.up e2 (by simp [fd_t])
              obtain ⟨-, h⟩ := h
              obtain ⟨m3, e3, h⟩ := h
              have f3 := f2.cp e3 (fun _ => by simp [fd_t])
              obtain ⟨v4, m4, h4, h⟩ := h
              have f4 := f3.tr (fd_110 h4)
              exact f4.tr (ih.2 _ _ _ _ _ _ h)
  obtain ⟨v1, m1, h1, h⟩ := h
  have f1 := (fd_f.rf (m := m)).tr (fd_108 h1)
  obtain ⟨c, h⟩ := h
  exact f1.tr ((key c).1 _ _ _ _ _ _ h)
theorem fd_178 {x0 : Int} {x1 : Int} {m : dc_M} {v : Int} {m' : dc_M} (h : D_178 x0 x1 m v m') : fd_f m m' := by
  obtain ⟨v1, m1, h1, h⟩ := h
  have f1 := (fd_f.rf (m := m)).tr (fd_103 h1)
  rcases h with ⟨-, h⟩ | ⟨-, h⟩
  · obtain ⟨-, em⟩ := h
    rw [em]
    exact f1
  · obtain ⟨v2, m2, h2, h⟩ := h
    have f2 := f1.tr (fd_103 h2)
    rcases h with ⟨-, h⟩ | ⟨-, h⟩
    · obtain ⟨-, em⟩ := h
      rw [em]
      exact f2
    · obtain ⟨v3, m3, h3, h⟩ := h
      have f3 := f2.tr (fd_105 h3)
      obtain ⟨-, em⟩ := h
      rw [em]
      exact f3
theorem fd_179  {m : dc_M} {v : Int} {m' : dc_M} (h : D_179 m v m') : fd_f m m' := by
  obtain ⟨v1, m1, h1, h⟩ := h
  have f1 := (fd_f.rf (m := m)).tr (fd_106 h1)
  obtain ⟨m2, e2, h⟩ := h
  have f2 := f1.up e2 (by simp [fd_t])
  rcases h with ⟨-, h⟩ | ⟨-, h⟩
  · obtain ⟨-, em⟩ := h
    rw [em]
    exact f2
  · obtain ⟨v3, m3, h3, h⟩ := h
    have f3 := f2.tr (fd_107 h3)
    obtain ⟨-, em⟩ := h
    rw [em]
    exact f3
def fq_t (k : Nat) (i : Int) : Prop := k = 114 ∧ (i = 0 ∨ i = 2)
def fq_f (m m' : dc_M) : Prop := ∀ (k : Nat) (i : Int), ¬ fq_t k i → m' k i = m k i
theorem fq_f.rf {m : dc_M} : fq_f m m := fun _ _ _ => rfl
theorem fq_f.tr {a b c : dc_M} (h : fq_f a b) (g : fq_f b c) : fq_f a c := fun k i z => (g k i z).trans (h k i z)
theorem fq_f.up {a m m1 : dc_M} {k : Nat} {i v : Int} (h : fq_f a m) (e : m1 = dc_up m k i v) (hx : fq_t k i) : fq_f a m1 := fun k' i' z => by
  rw [e]
  refine (if_neg (fun q => ?_)).trans (h k' i' z)
  rw [q.1, q.2] at z
  exact z hx
theorem fq_f.cp {a m m1 : dc_M} {s : Nat} {sp : Int} {d : Nat} {dp c : Int} (h : fq_f a m) (e : m1 = dc_cpy m s sp d dp c) (hx : ∀ i, fq_t d i) : fq_f a m1 := fun k' i' z => by
  rw [e]
  refine (if_neg (fun q => ?_)).trans (h k' i' z)
  rw [q.1] at z
  exact z (hx _)
theorem fq_f.fi {a m m1 : dc_M} {k : Nat} {len v : Int} (h : fq_f a m) (e : m1 = dc_fill m k len v) (hx : ∀ i, fq_t k i) : fq_f a m1 := fun k' i' z => by
  rw [e]
  refine (if_neg (fun q => ?_)).trans (h k' i' z)
  rw [q.1] at z
  exact z (hx _)
theorem fq_188 {x0 : Int} {x1 : Int} {x2 : Int} {m : dc_M} {v : Int} {m' : dc_M} (h : D_188 x0 x1 x2 m v m') : fq_f m m' := by
  rcases h with ⟨-, h⟩ | ⟨-, h⟩
  · obtain ⟨-, em⟩ := h
    rw [em]
    exact (fq_f.rf (m := m))
  · rcases h with ⟨-, h⟩ | ⟨-, h⟩
    · obtain ⟨-, em⟩ := h
      rw [em]
      exact (fq_f.rf (m := m))
    · obtain ⟨-, em⟩ := h
      rw [em]
      exact (fq_f.rf (m := m))
theorem fq_183 {x0 : Int} {m : dc_M} {v : Int} {m' : dc_M} (h : D_183 x0 m v m') : fq_f m m' := by
  rcases h with ⟨-, h⟩ | ⟨-, h⟩
  · obtain ⟨m1, e1, h⟩ := h
    have f1 := (fq_f.rf (m := m)).up e1 (by simp [fq_t])
    obtain ⟨-, em⟩ := h
    rw [em]
    exact f1
  · obtain ⟨m1, e1, h⟩ := h
    have f1 := (fq_f.rf (m := m)).up e1 (by simp [fq_t])
    obtain ⟨-, em⟩ := h
    rw [em]
    exact f1
theorem fq_239 {x0 : Int} {m : dc_M} {v : Int} {m' : dc_M} (h : D_239 x0 m v m') : fq_f m m' := by
  obtain ⟨m1, e1, h⟩ := h
  have f1 := (fq_f.rf (m := m)).up e1 (by simp [fq_t])
  obtain ⟨v2, m2, h2, h⟩ := h
  have f2 := f1.tr (fq_188 h2)
  rcases h with ⟨-, h⟩ | ⟨-, h⟩
  · obtain ⟨-, em⟩ := h
    rw [em]
    exact f2
  · obtain ⟨-, h⟩ := h
    obtain ⟨-, em⟩ := h
    rw [em]
    exact f2
theorem fq_241  {m : dc_M} {v : Int} {m' : dc_M} (h : D_241 m v m') : fq_f m m' := by
  obtain ⟨m1, e1, h⟩ := h
  have f1 := (fq_f.rf (m := m)).up e1 (by simp [fq_t])
  obtain ⟨-, em⟩ := h
  rw [em]
  exact f1
theorem fq_242  {m : dc_M} {v : Int} {m' : dc_M} (h : D_242 m v m') : fq_f m m' := by
  obtain ⟨m1, e1, h⟩ := h
  have f1 := (fq_f.rf (m := m)).up e1 (by simp [fq_t])
  obtain ⟨-, em⟩ := h
  rw [em]
  exact f1
theorem fq_234  {m : dc_M} {v : Int} {m' : dc_M} (h : D_234 m v m') : fq_f m m' := by
  obtain ⟨m1, e1, h⟩ := h
  have f1 := (fq_f.rf (m := m)).up e1 (by simp [fq_t])
  obtain ⟨-, em⟩ := h
  rw [em]
  exact f1
theorem fq_244 {x0 : Int} {m : dc_M} {v : Int} {m' : dc_M} (h : D_244 x0 m v m') : fq_f m m' := by
  obtain ⟨m1, e1, h⟩ := h
  have f1 := (fq_f.rf (m := m)).up e1 (by simp [fq_t])
  obtain ⟨v2, m2, h2, h⟩ := h
  have f2 := f1.tr (fq_188 h2)
  rcases h with ⟨-, h⟩ | ⟨-, h⟩
  · obtain ⟨-, em⟩ := h
    rw [em]
    exact f2
  · obtain ⟨-, h⟩ := h
    obtain ⟨-, em⟩ := h
    rw [em]
    exact f2
theorem fq_248 {x0 : Int} {x1 : Int} {m : dc_M} {v : Int} {m' : dc_M} (h : D_248 x0 x1 m v m') : fq_f m m' := by
  obtain ⟨m1, e1, h⟩ := h
  have f1 := (fq_f.rf (m := m)).up e1 (by simp [fq_t])
  obtain ⟨v2, m2, h2, h⟩ := h
  have f2 := f1.tr (fq_188 h2)
  rcases h with ⟨-, h⟩ | ⟨-, h⟩
  · rcases h with ⟨-, h⟩ | ⟨-, h⟩
    · rcases h with ⟨-, h⟩ | ⟨-, h⟩
      · rcases h with ⟨-, h⟩ | ⟨-, h⟩
        · obtain ⟨-, em⟩ := h
          rw [em]
          exact f2
        · obtain ⟨-, h⟩ := h
          obtain ⟨-, em⟩ := h
          rw [em]
          exact f2
      · obtain ⟨-, h⟩ := h
        obtain ⟨-, em⟩ := h
        rw [em]
        exact f2
    · obtain ⟨-, h⟩ := h
      obtain ⟨-, em⟩ := h
      rw [em]
      exact f2
  · obtain ⟨-, em⟩ := h
    rw [em]
    exact f2
theorem fq_270 {x0 : Int} {x1 : Int} {m : dc_M} {v : Int} {m' : dc_M} (h : D_270 x0 x1 m v m') : fq_f m m' := by
  rcases h with ⟨-, h⟩ | ⟨-, h⟩
  · obtain ⟨v1, m1, h1, h⟩ := h
    have f1 := (fq_f.rf (m := m)).tr (fq_183 h1)
    rcases h with ⟨-, h⟩ | ⟨-, h⟩
    · obtain ⟨-, h⟩ := h
      obtain ⟨-, em⟩ := h
      rw [em]
      exact f1
    · obtain ⟨-, em⟩ := h
      rw [em]
      exact f1
  · obtain ⟨v1, m1, h1, h⟩ := h
    have f1 := (fq_f.rf (m := m)).tr (fq_188 h1)
    rcases h with ⟨-, h⟩ | ⟨-, h⟩
    · obtain ⟨v2, m2, h2, h⟩ := h
      have f2 := f1.tr (fq_183 h2)
      rcases h with ⟨-, h⟩ | ⟨-, h⟩
      · obtain ⟨-, h⟩ := h
        obtain ⟨-, em⟩ := h
        rw [em]
        exact f2
      · obtain ⟨-, em⟩ := h
        rw [em]
        exact f2
    · obtain ⟨v2, m2, h2, h⟩ := h
      have f2 := f1.tr (fq_188 h2)
      rcases h with ⟨-, h⟩ | ⟨-, h⟩
      · obtain ⟨v3, m3, h3, h⟩ := h
        have f3 := f2.tr (fq_183 h3)
        rcases h with ⟨-, h⟩ | ⟨-, h⟩
        · obtain ⟨-, h⟩ := h
          obtain ⟨-, em⟩ := h
          rw [em]
          exact f3
        · obtain ⟨-, em⟩ := h
          rw [em]
          exact f3
      · obtain ⟨v3, m3, h3, h⟩ := h
        have f3 := f2.tr (fq_183 h3)
        rcases h with ⟨-, h⟩ | ⟨-, h⟩
        · obtain ⟨-, h⟩ := h
          obtain ⟨-, em⟩ := h
          rw [em]
          exact f3
        · obtain ⟨-, em⟩ := h
          rw [em]
          exact f3
theorem fq_186 {x0 : Int} {m : dc_M} {v : Int} {m' : dc_M} (h : D_186 x0 m v m') : fq_f m m' := by
  obtain ⟨m1, e1, h⟩ := h
  have f1 := (fq_f.rf (m := m)).up e1 (by simp [fq_t])
  rcases h with ⟨-, h⟩ | ⟨-, h⟩
  · obtain ⟨-, em⟩ := h
    rw [em]
    exact f1
  · rcases h with ⟨-, h⟩ | ⟨-, h⟩
    · obtain ⟨m2, e2, h⟩ := h
      have f2 := f1.up e2 (by simp [fq_t])
      obtain ⟨-, em⟩ := h
      rw [em]
      exact f2
    · obtain ⟨-, em⟩ := h
      rw [em]
      exact f1
theorem fq_202  {m : dc_M} {v : Int} {m' : dc_M} (h : D_202 m v m') : fq_f m m' := by
  obtain ⟨m1, e1, h⟩ := h
  have f1 := (fq_f.rf (m := m)).up e1 (by simp [fq_t])
  obtain ⟨-, em⟩ := h
  rw [em]
  exact f1
theorem fq_190 {x0 : Int} {m : dc_M} {v : Int} {m' : dc_M} (h : D_190 x0 m v m') : fq_f m m' := by
  obtain ⟨v1, m1, h1, h⟩ := h
  have f1 := (fq_f.rf (m := m)).tr (fq_188 h1)
  obtain ⟨-, em⟩ := h
  rw [em]
  exact f1
theorem fq_193 {x0 : Int} {x1 : Int} {x2 : Int} {m : dc_M} {v : Int} {m' : dc_M} (h : D_193 x0 x1 x2 m v m') : fq_f m m' := by
  obtain ⟨v1, m1, h1, h⟩ := h
  have f1 := (fq_f.rf (m := m)).tr (fq_190 h1)
  rcases h with ⟨-, h⟩ | ⟨-, h⟩
  · obtain ⟨v2, m2, h2, h⟩ := h
    have f2 := f1.tr (fq_183 h2)
    rcases h with ⟨-, h⟩ | ⟨-, h⟩
    · obtain ⟨-, h⟩ := h
      obtain ⟨-, em⟩ := h
      rw [em]
      exact f2
    · obtain ⟨-, em⟩ := h
      rw [em]
      exact f2
  · obtain ⟨v2, m2, h2, h⟩ := h
    have f2 := f1.tr (fq_188 h2)
    rcases h with ⟨-, h⟩ | ⟨-, h⟩
    · obtain ⟨v3, m3, h3, h⟩ := h
      have f3 := f2.tr (fq_183 h3)
      rcases h with ⟨-, h⟩ | ⟨-, h⟩
      · obtain ⟨-, h⟩ := h
        obtain ⟨-, em⟩ := h
        rw [em]
        exact f3
      · obtain ⟨-, em⟩ := h
        rw [em]
        exact f3
    · rcases h with ⟨-, h⟩ | ⟨-, h⟩
      · obtain ⟨v3, m3, h3, h⟩ := h
        have f3 := f2.tr (fq_183 h3)
        rcases h with ⟨-, h⟩ | ⟨-, h⟩
        · obtain ⟨-, h⟩ := h
          obtain ⟨-, em⟩ := h
          rw [em]
          exact f3
        · obtain ⟨-, em⟩ := h
          rw [em]
          exact f3
      · obtain ⟨v3, m3, h3, h⟩ := h
        have f3 := f2.tr (fq_190 h3)
        rcases h with ⟨-, h⟩ | ⟨-, h⟩
        · obtain ⟨-, h⟩ := h
          rcases h with ⟨-, h⟩ | ⟨-, h⟩
          · obtain ⟨v4, m4, h4, h⟩ := h
            have f4 := f3.tr (fq_183 h4)
            rcases h with ⟨-, h⟩ | ⟨-, h⟩
            · obtain ⟨-, h⟩ := h
              obtain ⟨-, em⟩ := h
              rw [em]
              exact f4
            · obtain ⟨-, em⟩ := h
              rw [em]
              exact f4
          · obtain ⟨v4, m4, h4, h⟩ := h
            have f4 := f3.tr (fq_183 h4)
            rcases h with ⟨-, h⟩ | ⟨-, h⟩
            · obtain ⟨-, h⟩ := h
              obtain ⟨-, em⟩ := h
              rw [em]
              exact f4
            · obtain ⟨-, em⟩ := h
              rw [em]
              exact f4
        · obtain ⟨-, h⟩ := h
          rcases h with ⟨-, h⟩ | ⟨-, h⟩
          · obtain ⟨v4, m4, h4, h⟩ := h
            have f4 := f3.tr (fq_183 h4)
            rcases h with ⟨-, h⟩ | ⟨-, h⟩
            · obtain ⟨-, h⟩ := h
              obtain ⟨-, em⟩ := h
              rw [em]
              exact f4
            · obtain ⟨-, em⟩ := h
              rw [em]
              exact f4
          · obtain ⟨v4, m4, h4, h⟩ := h
            have f4 := f3.tr (fq_183 h4)
            rcases h with ⟨-, h⟩ | ⟨-, h⟩
            · obtain ⟨-, h⟩ := h
              obtain ⟨-, em⟩ := h
              rw [em]
              exact f4
            · obtain ⟨-, em⟩ := h
              rw [em]
              exact f4
theorem fq_227 {x0 : Int} {x1 : Int} {m : dc_M} {v : Int} {m' : dc_M} (h : D_227 x0 x1 m v m') : fq_f m m' := by
  rcases h with ⟨-, h⟩ | ⟨-, h⟩
  · obtain ⟨v1, m1, h1, h⟩ := h
    have f1 := (fq_f.rf (m := m)).tr (fq_183 h1)
    rcases h with ⟨-, h⟩ | ⟨-, h⟩
    · obtain ⟨-, h⟩ := h
      obtain ⟨-, em⟩ := h
      rw [em]
      exact f1
    · obtain ⟨-, em⟩ := h
      rw [em]
      exact f1
  · obtain ⟨-, h⟩ := h
    obtain ⟨v1, m1, h1, h⟩ := h
    have f1 := (fq_f.rf (m := m)).tr (fq_188 h1)
    rcases h with ⟨-, h⟩ | ⟨-, h⟩
    · obtain ⟨v2, m2, h2, h⟩ := h
      have f2 := f1.tr (fq_183 h2)
      rcases h with ⟨-, h⟩ | ⟨-, h⟩
      · obtain ⟨-, h⟩ := h
        obtain ⟨-, em⟩ := h
        rw [em]
        exact f2
      · obtain ⟨-, em⟩ := h
        rw [em]
        exact f2
    · obtain ⟨v2, m2, h2, h⟩ := h
      have f2 := f1.tr (fq_188 h2)
      rcases h with ⟨-, h⟩ | ⟨-, h⟩
      · obtain ⟨v3, m3, h3, h⟩ := h
        have f3 := f2.tr (fq_183 h3)
        rcases h with ⟨-, h⟩ | ⟨-, h⟩
        · obtain ⟨-, h⟩ := h
          obtain ⟨-, em⟩ := h
          rw [em]
          exact f3
        · obtain ⟨-, em⟩ := h
          rw [em]
          exact f3
      · obtain ⟨v3, m3, h3, h⟩ := h
        have f3 := f2.tr (fq_183 h3)
        rcases h with ⟨-, h⟩ | ⟨-, h⟩
        · obtain ⟨-, h⟩ := h
          obtain ⟨-, em⟩ := h
          rw [em]
          exact f3
        · obtain ⟨-, em⟩ := h
          rw [em]
          exact f3
theorem fq_228 {x0 : Int} {m : dc_M} {v : Int} {m' : dc_M} (h : D_228 x0 m v m') : fq_f m m' := by
  rcases h with ⟨-, h⟩ | ⟨-, h⟩
  · obtain ⟨v1, m1, h1, h⟩ := h
    have f1 := (fq_f.rf (m := m)).tr (fq_183 h1)
    rcases h with ⟨-, h⟩ | ⟨-, h⟩
    · obtain ⟨-, h⟩ := h
      obtain ⟨-, em⟩ := h
      rw [em]
      exact f1
    · obtain ⟨-, em⟩ := h
      rw [em]
      exact f1
  · obtain ⟨v1, m1, h1, h⟩ := h
    have f1 := (fq_f.rf (m := m)).tr (fq_188 h1)
    rcases h with ⟨-, h⟩ | ⟨-, h⟩
    · obtain ⟨v2, m2, h2, h⟩ := h
      have f2 := f1.tr (fq_183 h2)
      rcases h with ⟨-, h⟩ | ⟨-, h⟩
      · obtain ⟨-, h⟩ := h
        obtain ⟨-, em⟩ := h
        rw [em]
        exact f2
      · obtain ⟨-, em⟩ := h
        rw [em]
        exact f2
    · obtain ⟨v2, m2, h2, h⟩ := h
      have f2 := f1.tr (fq_183 h2)
      rcases h with ⟨-, h⟩ | ⟨-, h⟩
      · obtain ⟨-, h⟩ := h
        obtain ⟨-, em⟩ := h
        rw [em]
        exact f2
      · obtain ⟨-, em⟩ := h
        rw [em]
        exact f2
def fw_t (k : Nat) (i : Int) : Prop := (k = 114 ∧ (i = 0 ∨ (79 ≤ i ∧ i ≤ 81) ∨ (84 ≤ i ∧ i ≤ 86))) ∨ (161 ≤ k ∧ k ≤ 170)
def fw_f (m m' : dc_M) : Prop := ∀ (k : Nat) (i : Int), ¬ fw_t k i → m' k i = m k i
theorem fw_f.rf {m : dc_M} : fw_f m m := fun _ _ _ => rfl
theorem fw_f.tr {a b c : dc_M} (h : fw_f a b) (g : fw_f b c) : fw_f a c := fun k i z => (g k i z).trans (h k i z)
theorem fw_f.up {a m m1 : dc_M} {k : Nat} {i v : Int} (h : fw_f a m) (e : m1 = dc_up m k i v) (hx : fw_t k i) : fw_f a m1 := fun k' i' z => by
  rw [e]
  refine (if_neg (fun q => ?_)).trans (h k' i' z)
  rw [q.1, q.2] at z
  exact z hx
theorem fw_f.cp {a m m1 : dc_M} {s : Nat} {sp : Int} {d : Nat} {dp c : Int} (h : fw_f a m) (e : m1 = dc_cpy m s sp d dp c) (hx : ∀ i, fw_t d i) : fw_f a m1 := fun k' i' z => by
  rw [e]
  refine (if_neg (fun q => ?_)).trans (h k' i' z)
  rw [q.1] at z
  exact z (hx _)
theorem fw_f.fi {a m m1 : dc_M} {k : Nat} {len v : Int} (h : fw_f a m) (e : m1 = dc_fill m k len v) (hx : ∀ i, fw_t k i) : fw_f a m1 := fun k' i' z => by
  rw [e]
  refine (if_neg (fun q => ?_)).trans (h k' i' z)
  rw [q.1] at z
  exact z (hx _)
theorem fw_188 {x0 : Int} {x1 : Int} {x2 : Int} {m : dc_M} {v : Int} {m' : dc_M} (h : D_188 x0 x1 x2 m v m') : fw_f m m' := by
  rcases h with ⟨-, h⟩ | ⟨-, h⟩
  · obtain ⟨-, em⟩ := h
    rw [em]
    exact (fw_f.rf (m := m))
  · rcases h with ⟨-, h⟩ | ⟨-, h⟩
    · obtain ⟨-, em⟩ := h
      rw [em]
      exact (fw_f.rf (m := m))
    · obtain ⟨-, em⟩ := h
      rw [em]
      exact (fw_f.rf (m := m))
theorem fw_190 {x0 : Int} {m : dc_M} {v : Int} {m' : dc_M} (h : D_190 x0 m v m') : fw_f m m' := by
  obtain ⟨v1, m1, h1, h⟩ := h
  have f1 := (fw_f.rf (m := m)).tr (fw_188 h1)
  obtain ⟨-, em⟩ := h
  rw [em]
  exact f1
theorem fw_232 {y0 : Nat} {m : dc_M} {v : Int} {m' : dc_M} (h : D_232 y0 m v m') : fw_f m m' := by
  have key : ∀ c : Nat, (∀ (l2 : Int) (l3 : Nat) (m : dc_M) (v : Int) (m' : dc_M), LM_232 y0 c 4 l2 l3 m v m' → fw_f m m') := by
    intro c'
    induction c' with
    | zero => exact fun _ _ _ _ _ h => h.elim
    | succ c ih =>
      intro l2 l3 m v m' h
      replace h := lm_232_4.mp h
      rcases h with ⟨-, h⟩ | ⟨-, h⟩
      · obtain ⟨-, em⟩ := h
        rw [em]
        exact (fw_f.rf (m := m))
      · exact (fw_f.rf (m := m)).tr (ih _ _ _ _ _ h)
  obtain ⟨c, h⟩ := h
  exact (fw_f.rf (m := m)).tr ((key c) _ _ _ _ _ h)
theorem fw_257 {x0 : Int} {x1 : Int} {m : dc_M} {v : Int} {m' : dc_M} (h : D_257 x0 x1 m v m') : fw_f m m' := by
  obtain ⟨-, h⟩ := h
  obtain ⟨m1, e1, h⟩ := h
  have f1 := (fw_f.rf (m := m)).up e1 (by simp [fw_t])
  obtain ⟨-, h⟩ := h
  obtain ⟨m2, e2, h⟩ := h
  have f2 := f1.up e2 (by simp [fw_t])
  obtain ⟨m3, e3, h⟩ := h
  have f3 := f2.up e3 (by simp [fw_t])
  obtain ⟨-, em⟩ := h
  rw [em]
  exact f3
theorem fw_258 {x0 : Int} {m : dc_M} {v : Int} {m' : dc_M} (h : D_258 x0 m v m') : fw_f m m' := by
  have key : ∀ c : Nat, (∀ (l2 : Int) (m : dc_M) (v : Int) (m' : dc_M), LM_258 x0 c 2 l2 m v m' → fw_f m m') := by
    intro c'
    induction c' with
    | zero => exact fun _ _ _ _ h => h.elim
    | succ c ih =>
      intro l2 m v m' h
      replace h := lm_258_2.mp h
      rcases h with ⟨-, h⟩ | ⟨-, h⟩
      · rcases h with ⟨-, h⟩ | ⟨-, h⟩
        · rcases h with ⟨-, h⟩ | ⟨-, h⟩
          · obtain ⟨-, h⟩ := h
            obtain ⟨-, h⟩ := h
            obtain ⟨m1, e1, h⟩ := h
            have f1 := (fw_f.rf (m := m)).up e1 (by simp [fw_t])
            obtain ⟨-, h⟩ := h
            obtain ⟨-, em⟩ := h
            rw [em]
            exact f1
          · obtain ⟨-, h⟩ := h
            obtain ⟨m1, e1, h⟩ := h
            have f1 := (fw_f.rf (m := m)).up e1 (by simp [fw_t])
            obtain ⟨-, h⟩ := h
            obtain ⟨m2, e2, h⟩ := h
            have f2 := f1.up e2 (by simp [fw_t])
            obtain ⟨m3, e3, h⟩ := h
            have f3 := f2.up e3 (by simp [fw_t])
            rcases h with ⟨-, h⟩ | ⟨-, h⟩
            · obtain ⟨v4, m4, h4, h⟩ := h
              have f4 := f3.tr (fw_257 h4)
              obtain ⟨-, h⟩ := h
              obtain ⟨-, h⟩ := h
              obtain ⟨m5, e5, h⟩ := h
              have f5 := f4.up e5 (by simp [fw_t])
              obtain ⟨-, h⟩ := h
              obtain ⟨-, em⟩ := h
              rw [em]
              exact f5
            · obtain ⟨v4, m4, h4, h⟩ := h
              have f4 := f3.tr (fw_257 h4)
              obtain ⟨-, h⟩ := h
              obtain ⟨-, h⟩ := h
              obtain ⟨m5, e5, h⟩ := h
              have f5 := f4.up e5 (by simp [fw_t])
              obtain ⟨-, h⟩ := h
              obtain ⟨-, em⟩ := h
              rw [em]
              exact f5
        · obtain ⟨m1, e1, h⟩ := h
          have f1 := (fw_f.rf (m := m)).up e1 (by simp [fw_t])
          obtain ⟨-, em⟩ := h
          rw [em]
          exact f1
      · obtain ⟨-, h⟩ := h
        rcases h with ⟨-, h⟩ | ⟨-, h⟩
        · exact (fw_f.rf (m := m)).tr (ih _ _ _ _ h)
        · obtain ⟨-, h⟩ := h
          rcases h with ⟨-, h⟩ | ⟨-, h⟩
          · rcases h with ⟨-, h⟩ | ⟨-, h⟩
            · rcases h with ⟨-, h⟩ | ⟨-, h⟩
              · obtain ⟨-, h⟩ := h
                obtain ⟨-, h⟩ := h
                obtain ⟨m1, e1, h⟩ := h
                have f1 := (fw_f.rf (m := m)).up e1 (by simp [fw_t])
                obtain ⟨-, h⟩ := h
                obtain ⟨-, em⟩ := h
                rw [em]
                exact f1
              · obtain ⟨-, h⟩ := h
                obtain ⟨m1, e1, h⟩ := h
                have f1 := (fw_f.rf (m := m)).up e1 (by simp [fw_t])
                obtain ⟨-, h⟩ := h
                obtain ⟨m2, e2, h⟩ := h
                have f2 := f1.up e2 (by simp [fw_t])
                obtain ⟨m3, e3, h⟩ := h
                have f3 := f2.up e3 (by simp [fw_t])
                rcases h with ⟨-, h⟩ | ⟨-, h⟩
                · obtain ⟨v4, m4, h4, h⟩ := h
                  have f4 := f3.tr (fw_257 h4)
                  obtain ⟨-, h⟩ := h
                  obtain ⟨-, h⟩ := h
                  obtain ⟨m5, e5, h⟩ := h
                  have f5 := f4.up e5 (by simp [fw_t])
                  obtain ⟨-, h⟩ := h
                  obtain ⟨-, em⟩ := h
                  rw [em]
                  exact f5
                · obtain ⟨v4, m4, h4, h⟩ := h
                  have f4 := f3.tr (fw_257 h4)
                  obtain ⟨-, h⟩ := h
                  obtain ⟨-, h⟩ := h
                  obtain ⟨m5, e5, h⟩ := h
                  have f5 := f4.up e5 (by simp [fw_t])
                  obtain ⟨-, h⟩ := h
                  obtain ⟨-, em⟩ := h
                  rw [em]
                  exact f5
            · obtain ⟨m1, e1, h⟩ := h
              have f1 := (fw_f.rf (m := m)).up e1 (by simp [fw_t])
              obtain ⟨-, em⟩ := h
              rw [em]
              exact f1
          · exact (fw_f.rf (m := m)).tr (ih _ _ _ _ h)
  obtain ⟨c, h⟩ := h
  exact (fw_f.rf (m := m)).tr ((key c) _ _ _ _ h)
theorem fw_260 {x0 : Int} {x1 : Int} {m : dc_M} {v : Int} {m' : dc_M} (h : D_260 x0 x1 m v m') : fw_f m m' := by
  have key : ∀ c : Nat, (∀ (l3 : Int) (l4 : Int) (m : dc_M) (v : Int) (m' : dc_M), LM_260 x0 x1 c 27 l3 l4 m v m' → fw_f m m') := by
    intro c'
    induction c' with
    | zero => exact fun _ _ _ _ _ h => h.elim
    | succ c ih =>
      intro l3 l4 m v m' h
      replace h := lm_260_27.mp h
      rcases h with ⟨-, h⟩ | ⟨-, h⟩
      · obtain ⟨-, h⟩ := h
        rcases h with ⟨-, h⟩ | ⟨-, h⟩
        · obtain ⟨-, h⟩ := h
          obtain ⟨v1, m1, h1, h⟩ := h
          have f1 := (fw_f.rf (m := m)).tr (fw_258 h1)
          obtain ⟨v2, m2, h2, h⟩ := h
          have f2 := f1.tr (fw_257 h2)
          obtain ⟨v3, m3, h3, h⟩ := h
          have f3 := f2.tr (fw_257 h3)
          obtain ⟨v4, m4, h4, h⟩ := h
          have f4 := f3.tr (fw_257 h4)
          obtain ⟨-, em⟩ := h
          rw [em]
          exact f4
        · obtain ⟨v1, m1, h1, h⟩ := h
          have f1 := (fw_f.rf (m := m)).tr (fw_257 h1)
          obtain ⟨-, em⟩ := h
          rw [em]
          exact f1
      · obtain ⟨-, h⟩ := h
        obtain ⟨-, h⟩ := h
        rcases h with ⟨-, h⟩ | ⟨-, h⟩
        · obtain ⟨-, h⟩ := h
          rcases h with ⟨-, h⟩ | ⟨-, h⟩
          · obtain ⟨-, h⟩ := h
            obtain ⟨v1, m1, h1, h⟩ := h
            have f1 := (fw_f.rf (m := m)).tr (fw_258 h1)
            obtain ⟨v2, m2, h2, h⟩ := h
            have f2 := f1.tr (fw_257 h2)
            obtain ⟨v3, m3, h3, h⟩ := h
            have f3 := f2.tr (fw_257 h3)
            obtain ⟨v4, m4, h4, h⟩ := h
            have f4 := f3.tr (fw_257 h4)
            obtain ⟨-, em⟩ := h
            rw [em]
            exact f4
          · obtain ⟨v1, m1, h1, h⟩ := h
            have f1 := (fw_f.rf (m := m)).tr (fw_257 h1)
            obtain ⟨-, em⟩ := h
            rw [em]
            exact f1
        · obtain ⟨-, h⟩ := h
          obtain ⟨v1, m1, h1, h⟩ := h
          have f1 := (fw_f.rf (m := m)).tr (fw_257 h1)
          exact f1.tr (ih _ _ _ _ _ h)
  obtain ⟨-, h⟩ := h
  rcases h with ⟨-, h⟩ | ⟨-, h⟩
  · obtain ⟨c, h⟩ := h
    exact (fw_f.rf (m := m)).tr ((key c) _ _ _ _ _ h)
  · obtain ⟨v1, m1, h1, h⟩ := h
    have f1 := (fw_f.rf (m := m)).tr (fw_257 h1)
    obtain ⟨c, h⟩ := h
    exact f1.tr ((key c) _ _ _ _ _ h)
theorem fw_259 {x0 : Int} {m : dc_M} {v : Int} {m' : dc_M} (h : D_259 x0 m v m') : fw_f m m' := by
  have key : ∀ c : Nat, (∀ (l2 : Int) (l3 : Int) (l4 : Int) (l5 : Int) (l6 : Int) (l7 : Int) (m : dc_M) (v : Int) (m' : dc_M), LM_259 x0 c 19 l2 l3 l4 l5 l6 l7 m v m' → fw_f m m') ∧ (∀ (l2 : Int) (l3 : Int) (l4 : Int) (l5 : Int) (l6 : Int) (l7 : Int) (m : dc_M) (v : Int) (m' : dc_M), LM_259 x0 c 79 l2 l3 l4 l5 l6 l7 m v m' → fw_f m m') ∧ (∀ (l2 : Int) (l3 : Int) (l4 : Int) (l5 : Int) (l6 : Int) (l7 : Int) (m : dc_M) (v : Int) (m' : dc_M), LM_259 x0 c 168 l2 l3 l4 l5 l6 l7 m v m' → fw_f m m') ∧ (∀ (l2 : Int) (l3 : Int) (l4 : Int) (l5 : Int) (l6 : Int) (l7 : Int) (m : dc_M) (v : Int) (m' : dc_M), LM_259 x0 c 217 l2 l3 l4 l5 l6 l7 m v m' → fw_f m m') ∧ (∀ (l2 : Int) (l3 : Int) (l4 : Int) (l5 : Int) (l6 : Int) (l7 : Int) (m : dc_M) (v : Int) (m' : dc_M), LM_259 x0 c 251 l2 l3 l4 l5 l6 l7 m v m' → fw_f m m') := by
    intro c'
    induction c' with
    | zero => exact ⟨fun _ _ _ _ _ _ _ _ _ h => h.elim, fun _ _ _ _ _ _ _ _ _ h => h.elim, fun _ _ _ _ _ _ _ _ _ h => h.elim, fun _ _ _ _ _ _ _ _ _ h => h.elim, fun _ _ _ _ _ _ _ _ _ h => h.elim⟩
    | succ c ih =>
      refine ⟨?_, ?_, ?_, ?_, ?_⟩
      · intro l2 l3 l4 l5 l6 l7 m v m' h
        replace h := lm_259_19.mp h
        obtain ⟨-, h⟩ := h
        rcases h with ⟨-, h⟩ | ⟨-, h⟩
        · obtain ⟨v1, m1, h1, h⟩ := h
          have f1 := (fw_f.rf (m := m)).tr (fw_232 h1)
          rcases h with ⟨-, h⟩ | ⟨-, h⟩
          · obtain ⟨-, em⟩ := h
            rw [em]
            exact f1
          · rcases h with ⟨-, h⟩ | ⟨-, h⟩
            · exact f1.tr (ih.2.1 _ _ _ _ _ _ _ _ _ h)
            · obtain ⟨-, em⟩ := h
              rw [em]
              exact f1
        · rcases h with ⟨-, h⟩ | ⟨-, h⟩
          · exact (fw_f.rf (m := m)).tr (ih.1 _ _ _ _ _ _ _ _ _ h)
          · obtain ⟨-, h⟩ := h
            exact (fw_f.rf (m := m)).tr (ih.1 _ _ _ _ _ _ _ _ _ h)
      · intro l2 l3 l4 l5 l6 l7 m v m' h
        replace h := lm_259_79.mp h
        rcases h with ⟨-, h⟩ | ⟨-, h⟩
        · exact (fw_f.rf (m := m)).tr (ih.2.2.1 _ _ _ _ _ _ _ _ _ h)
        · obtain ⟨-, h⟩ := h
          rcases h with ⟨-, h⟩ | ⟨-, h⟩
          · obtain ⟨-, h⟩ := h
            obtain ⟨v1, m1, h1, h⟩ := h
            have f1 := (fw_f.rf (m := m)).tr (fw_257 h1)
            obtain ⟨-, h⟩ := h
            obtain ⟨v2, m2, h2, h⟩ := h
            have f2 := f1.tr (fw_257 h2)
            obtain ⟨v3, m3, h3, h⟩ := h
            have f3 := f2.tr (fw_257 h3)
            exact f3.tr (ih.2.1 _ _ _ _ _ _ _ _ _ h)
          · exact (fw_f.rf (m := m)).tr (ih.2.1 _ _ _ _ _ _ _ _ _ h)
      · intro l2 l3 l4 l5 l6 l7 m v m' h
        replace h := lm_259_168.mp h
        obtain ⟨-, h⟩ := h
        rcases h with ⟨-, h⟩ | ⟨-, h⟩
        · exact (fw_f.rf (m := m)).tr (ih.2.2.2.1 _ _ _ _ _ _ _ _ _ h)
        · rcases h with ⟨-, h⟩ | ⟨-, h⟩
          · obtain ⟨v1, m1, h1, h⟩ := h
            have f1 := (fw_f.rf (m := m)).tr (fw_260 h1)
            exact f1.tr (ih.2.2.1 _ _ _ _ _ _ _ _ _ h)
          · exact (fw_f.rf (m := m)).tr (ih.2.2.1 _ _ _ _ _ _ _ _ _ h)
      · intro l2 l3 l4 l5 l6 l7 m v m' h
        replace h := lm_259_217.mp h
        obtain ⟨-, h⟩ := h
        rcases h with ⟨-, h⟩ | ⟨-, h⟩
        · rcases h with ⟨-, h⟩ | ⟨-, h⟩
          · obtain ⟨-, em⟩ := h
            rw [em]
            exact (fw_f.rf (m := m))
          · rcases h with ⟨-, h⟩ | ⟨-, h⟩
            · obtain ⟨-, em⟩ := h
              rw [em]
              exact (fw_f.rf (m := m))
            · obtain ⟨-, em⟩ := h
              rw [em]
              exact (fw_f.rf (m := m))
        · rcases h with ⟨-, h⟩ | ⟨-, h⟩
          · obtain ⟨-, h⟩ := h
            exact (fw_f.rf (m := m)).tr (ih.2.2.2.2 _ _ _ _ _ _ _ _ _ h)
          · exact (fw_f.rf (m := m)).tr (ih.2.2.2.1 _ _ _ _ _ _ _ _ _ h)
      · intro l2 l3 l4 l5 l6 l7 m v m' h
        replace h := lm_259_251.mp h
        rcases h with ⟨-, h⟩ | ⟨-, h⟩
        · obtain ⟨-, h⟩ := h
          obtain ⟨v1, m1, h1, h⟩ := h
          have f1 := (fw_f.rf (m := m)).tr (fw_257 h1)
          exact f1.tr (ih.2.2.2.1 _ _ _ _ _ _ _ _ _ h)
        · obtain ⟨-, h⟩ := h
          obtain ⟨v1, m1, h1, h⟩ := h
          have f1 := (fw_f.rf (m := m)).tr (fw_258 h1)
          obtain ⟨v2, m2, h2, h⟩ := h
          have f2 := f1.tr (fw_257 h2)
          obtain ⟨v3, m3, h3, h⟩ := h
          have f3 := f2.tr (fw_257 h3)
          exact f3.tr (ih.2.2.2.2 _ _ _ _ _ _ _ _ _ h)
  obtain ⟨m1, e1, h⟩ := h
  have f1 := (fw_f.rf (m := m)).up e1 (by simp [fw_t])
  obtain ⟨m2, e2, h⟩ := h
  have f2 := f1.up e2 (by simp [fw_t])
  obtain ⟨m3, e3, h⟩ := h
  have f3 := f2.up e3 (by simp [fw_t])
  obtain ⟨c, h⟩ := h
  exact f3.tr ((key c).1 _ _ _ _ _ _ _ _ _ h)
theorem fw_261  {m : dc_M} {v : Int} {m' : dc_M} (h : D_261 m v m') : fw_f m m' := by
  have key : ∀ c : Nat, (∀ (l1 : Int) (l2 : Int) (l3 : Int) (l4 : Int) (m : dc_M) (v : Int) (m' : dc_M), LM_261 c 20 l1 l2 l3 l4 m v m' → fw_f m m') ∧ (∀ (l1 : Int) (l2 : Int) (l3 : Int) (l4 : Int) (m : dc_M) (v : Int) (m' : dc_M), LM_261 c 52 l1 l2 l3 l4 m v m' → fw_f m m') := by
    intro c'
    induction c' with
    | zero => exact ⟨fun _ _ _ _ _ _ _ h => h.elim, fun _ _ _ _ _ _ _ h => h.elim⟩
    | succ c ih =>
      refine ⟨?_, ?_⟩
      · intro l1 l2 l3 l4 m v m' h
        replace h := lm_261_20.mp h
        rcases h with ⟨-, h⟩ | ⟨-, h⟩
        · obtain ⟨-, h⟩ := h
          rcases h with ⟨-, h⟩ | ⟨-, h⟩
          · obtain ⟨-, h⟩ := h
            obtain ⟨-, em⟩ := h
            rw [em]
            exact (fw_f.rf (m := m))
          · obtain ⟨-, em⟩ := h
            rw [em]
            exact (fw_f.rf (m := m))
        · obtain ⟨v1, m1, h1, h⟩ := h
          have f1 := (fw_f.rf (m := m)).tr (fw_259 h1)
          obtain ⟨-, h⟩ := h
          obtain ⟨m2, e2, h⟩ := h
          have f2 := f1.up e2 (by simp [fw_t])
          obtain ⟨-, h⟩ := h
          obtain ⟨m3, e3, h⟩ := h
          have f3 := f2.up e3 (by simp [fw_t])
          exact f3.tr (ih.2 _ _ _ _ _ _ _ h)
      · intro l1 l2 l3 l4 m v m' h
        replace h := lm_261_52.mp h
        rcases h with ⟨-, h⟩ | ⟨-, h⟩
        · exact (fw_f.rf (m := m)).tr (ih.1 _ _ _ _ _ _ _ h)
        · rcases h with ⟨-, h⟩ | ⟨-, h⟩
          · exact (fw_f.rf (m := m)).tr (ih.2 _ _ _ _ _ _ _ h)
          · rcases h with ⟨-, h⟩ | ⟨-, h⟩
            · exact (fw_f.rf (m := m)).tr (ih.2 _ _ _ _ _ _ _ h)
            · obtain ⟨-, h⟩ := h
              rcases h with ⟨-, h⟩ | ⟨-, h⟩
              · exact (fw_f.rf (m := m)).tr (ih.2 _ _ _ _ _ _ _ h)
              · obtain ⟨-, h⟩ := h
                obtain ⟨-, h⟩ := h
                rcases h with ⟨-, h⟩ | ⟨-, h⟩
                · obtain ⟨-, h⟩ := h
                  obtain ⟨-, h⟩ := h
                  obtain ⟨m1, e1, h⟩ := h
                  have f1 := (fw_f.rf (m := m)).up e1 (by simp [fw_t])
                  obtain ⟨-, h⟩ := h
                  obtain ⟨m2, e2, h⟩ := h
                  have f2 := f1.up e2 (by simp [fw_t])
                  exact f2.tr (ih.2 _ _ _ _ _ _ _ h)
                · exact (fw_f.rf (m := m)).tr (ih.2 _ _ _ _ _ _ _ h)
  obtain ⟨-, h⟩ := h
  obtain ⟨-, h⟩ := h
  obtain ⟨m1, e1, h⟩ := h
  have f1 := (fw_f.rf (m := m)).up e1 (by simp [fw_t])
  obtain ⟨c, h⟩ := h
  exact f1.tr ((key c).1 _ _ _ _ _ _ _ h)
theorem fw_263 {x0 : Int} {m : dc_M} {v : Int} {m' : dc_M} (h : D_263 x0 m v m') : fw_f m m' := by
  have key : ∀ c : Nat, (∀ (l2 : Int) (l3 : Int) (l4 : Int) (m : dc_M) (v : Int) (m' : dc_M), LM_263 x0 c 32 l2 l3 l4 m v m' → fw_f m m') := by
    intro c'
    induction c' with
    | zero => exact fun _ _ _ _ _ _ h => h.elim
    | succ c ih =>
      intro l2 l3 l4 m v m' h
      replace h := lm_263_32.mp h
      rcases h with ⟨-, h⟩ | ⟨-, h⟩
      · obtain ⟨-, h⟩ := h
        obtain ⟨-, em⟩ := h
        rw [em]
        exact (fw_f.rf (m := m))
      · obtain ⟨-, h⟩ := h
        exact (fw_f.rf (m := m)).tr (ih _ _ _ _ _ _ h)
  obtain ⟨v1, m1, h1, h⟩ := h
  have f1 := (fw_f.rf (m := m)).tr (fw_261 h1)
  obtain ⟨v2, m2, h2, h⟩ := h
  have f2 := f1.tr (fw_188 h2)
  rcases h with ⟨-, h⟩ | ⟨-, h⟩
  · obtain ⟨-, h⟩ := h
    obtain ⟨c, h⟩ := h
    exact f2.tr ((key c) _ _ _ _ _ _ h)
  · obtain ⟨-, em⟩ := h
    rw [em]
    exact f2
theorem fw_267 {x0 : Int} {x1 : Int} {m : dc_M} {v : Int} {m' : dc_M} (h : D_267 x0 x1 m v m') : fw_f m m' := by
  have key : ∀ c : Nat, (∀ (l3 : Int) (l4 : Int) (m : dc_M) (v : Int) (m' : dc_M), LM_267 x0 x1 c 26 l3 l4 m v m' → fw_f m m') := by
    intro c'
    induction c' with
    | zero => exact fun _ _ _ _ _ h => h.elim
    | succ c ih =>
      intro l3 l4 m v m' h
      replace h := lm_267_26.mp h
      obtain ⟨-, h⟩ := h
      obtain ⟨-, h⟩ := h
      rcases h with ⟨-, h⟩ | ⟨-, h⟩
      · obtain ⟨-, h⟩ := h
        rcases h with ⟨-, h⟩ | ⟨-, h⟩
        · obtain ⟨-, em⟩ := h
          rw [em]
          exact (fw_f.rf (m := m))
        · obtain ⟨-, h⟩ := h
          obtain ⟨-, h⟩ := h
          rcases h with ⟨-, h⟩ | ⟨-, h⟩
          · obtain ⟨-, em⟩ := h
            rw [em]
            exact (fw_f.rf (m := m))
          · obtain ⟨-, em⟩ := h
            rw [em]
            exact (fw_f.rf (m := m))
      · obtain ⟨-, h⟩ := h
        rcases h with ⟨-, h⟩ | ⟨-, h⟩
        · exact (fw_f.rf (m := m)).tr (ih _ _ _ _ _ h)
        · exact (fw_f.rf (m := m)).tr (ih _ _ _ _ _ h)
  obtain ⟨-, h⟩ := h
  rcases h with ⟨-, h⟩ | ⟨-, h⟩
  · obtain ⟨-, h⟩ := h
    obtain ⟨-, h⟩ := h
    obtain ⟨c, h⟩ := h
    exact (fw_f.rf (m := m)).tr ((key c) _ _ _ _ _ h)
  · obtain ⟨-, em⟩ := h
    rw [em]
    exact (fw_f.rf (m := m))
theorem fw_268 {x0 : Int} {x1 : Int} {m : dc_M} {v : Int} {m' : dc_M} (h : D_268 x0 x1 m v m') : fw_f m m' := by
  have key : ∀ c : Nat, (∀ (l3 : Int) (l4 : Int) (l5 : Int) (l6 : Int) (l7 : Int) (l8 : Int) (m : dc_M) (v : Int) (m' : dc_M), LM_268 x0 x1 c 8 l3 l4 l5 l6 l7 l8 m v m' → fw_f m m') ∧ (∀ (l3 : Int) (l4 : Int) (l5 : Int) (l6 : Int) (l7 : Int) (l8 : Int) (m : dc_M) (v : Int) (m' : dc_M), LM_268 x0 x1 c 50 l3 l4 l5 l6 l7 l8 m v m' → fw_f m m') ∧ (∀ (l3 : Int) (l4 : Int) (l5 : Int) (l6 : Int) (l7 : Int) (l8 : Int) (m : dc_M) (v : Int) (m' : dc_M), LM_268 x0 x1 c 145 l3 l4 l5 l6 l7 l8 m v m' → fw_f m m') := by
    intro c'
    induction c' with
    | zero => exact ⟨fun _ _ _ _ _ _ _ _ _ h => h.elim, fun _ _ _ _ _ _ _ _ _ h => h.elim, fun _ _ _ _ _ _ _ _ _ h => h.elim⟩
    | succ c ih =>
      refine ⟨?_, ?_, ?_⟩
      · intro l3 l4 l5 l6 l7 l8 m v m' h
        replace h := lm_268_8.mp h
        rcases h with ⟨-, h⟩ | ⟨-, h⟩
        · exact (fw_f.rf (m := m)).tr (ih.2.1 _ _ _ _ _ _ _ _ _ h)
        · rcases h with ⟨-, h⟩ | ⟨-, h⟩
          · exact (fw_f.rf (m := m)).tr (ih.2.1 _ _ _ _ _ _ _ _ _ h)
          · obtain ⟨-, h⟩ := h
            obtain ⟨m1, e1, h⟩ := h
            have f1 := (fw_f.rf (m := m)).up e1 (by simp [fw_t])
            exact f1.tr (ih.1 _ _ _ _ _ _ _ _ _ h)
      · intro l3 l4 l5 l6 l7 l8 m v m' h
        replace h := lm_268_50.mp h
        obtain ⟨-, h⟩ := h
        rcases h with ⟨-, h⟩ | ⟨-, h⟩
        · rcases h with ⟨-, h⟩ | ⟨-, h⟩
          · obtain ⟨-, em⟩ := h
            rw [em]
            exact (fw_f.rf (m := m))
          · obtain ⟨m1, e1, h⟩ := h
            have f1 := (fw_f.rf (m := m)).up e1 (by simp [fw_t])
            obtain ⟨-, em⟩ := h
            rw [em]
            exact f1
        · obtain ⟨-, h⟩ := h
          rcases h with ⟨-, h⟩ | ⟨-, h⟩
          · obtain ⟨-, h⟩ := h
            rcases h with ⟨-, h⟩ | ⟨-, h⟩
            · obtain ⟨-, h⟩ := h
              rcases h with ⟨-, h⟩ | ⟨-, h⟩
              · obtain ⟨-, h⟩ := h
                exact (fw_f.rf (m := m)).tr (ih.2.2 _ _ _ _ _ _ _ _ _ h)
              · exact (fw_f.rf (m := m)).tr (ih.2.1 _ _ _ _ _ _ _ _ _ h)
            · obtain ⟨-, h⟩ := h
              rcases h with ⟨-, h⟩ | ⟨-, h⟩
              · obtain ⟨-, h⟩ := h
                exact (fw_f.rf (m := m)).tr (ih.2.2 _ _ _ _ _ _ _ _ _ h)
              · exact (fw_f.rf (m := m)).tr (ih.2.1 _ _ _ _ _ _ _ _ _ h)
          · obtain ⟨-, h⟩ := h
            rcases h with ⟨-, h⟩ | ⟨-, h⟩
            · obtain ⟨-, h⟩ := h
              obtain ⟨-, h⟩ := h
              obtain ⟨m1, e1, h⟩ := h
              have f1 := (fw_f.rf (m := m)).up e1 (by simp [fw_t])
              rcases h with ⟨-, h⟩ | ⟨-, h⟩
              · obtain ⟨-, h⟩ := h
                exact f1.tr (ih.2.2 _ _ _ _ _ _ _ _ _ h)
              · exact f1.tr (ih.2.1 _ _ _ _ _ _ _ _ _ h)
            · obtain ⟨-, h⟩ := h
              obtain ⟨-, h⟩ := h
              obtain ⟨m1, e1, h⟩ := h
              have f1 := (fw_f.rf (m := m)).up e1 (by simp [fw_t])
              rcases h with ⟨-, h⟩ | ⟨-, h⟩
              · obtain ⟨-, h⟩ := h
                exact f1.tr (ih.2.2 _ _ _ _ _ _ _ _ _ h)
              · exact f1.tr (ih.2.1 _ _ _ _ _ _ _ _ _ h)
      · intro l3 l4 l5 l6 l7 l8 m v m' h
        replace h := lm_268_145.mp h
        rcases h with ⟨-, h⟩ | ⟨-, h⟩
        · obtain ⟨-, h⟩ := h
          rcases h with ⟨-, h⟩ | ⟨-, h⟩
          · exact (fw_f.rf (m := m)).tr (ih.2.1 _ _ _ _ _ _ _ _ _ h)
          · rcases h with ⟨-, h⟩ | ⟨-, h⟩
            · exact (fw_f.rf (m := m)).tr (ih.2.1 _ _ _ _ _ _ _ _ _ h)
            · exact (fw_f.rf (m := m)).tr (ih.2.1 _ _ _ _ _ _ _ _ _ h)
        · rcases h with ⟨-, h⟩ | ⟨-, h⟩
          · exact (fw_f.rf (m := m)).tr (ih.2.2 _ _ _ _ _ _ _ _ _ h)
          · rcases h with ⟨-, h⟩ | ⟨-, h⟩
            · exact (fw_f.rf (m := m)).tr (ih.2.2 _ _ _ _ _ _ _ _ _ h)
            · obtain ⟨-, h⟩ := h
              obtain ⟨m1, e1, h⟩ := h
              have f1 := (fw_f.rf (m := m)).up e1 (by simp [fw_t])
              exact f1.tr (ih.2.2 _ _ _ _ _ _ _ _ _ h)
  obtain ⟨c, h⟩ := h
  exact (fw_f.rf (m := m)).tr ((key c).1 _ _ _ _ _ _ _ _ _ h)
theorem fw_266 {x0 : Int} {x1 : Int} {m : dc_M} {v : Int} {m' : dc_M} (h : D_266 x0 x1 m v m') : fw_f m m' := by
  have key : ∀ c : Nat, (∀ (l3 : Int) (l4 : Int) (l5 : Int) (l6 : Int) (m : dc_M) (v : Int) (m' : dc_M), LM_266 x0 x1 c 2 l3 l4 l5 l6 m v m' → fw_f m m') ∧ (∀ (l3 : Int) (l4 : Int) (l5 : Int) (l6 : Int) (m : dc_M) (v : Int) (m' : dc_M), LM_266 x0 x1 c 28 l3 l4 l5 l6 m v m' → fw_f m m') ∧ (∀ (l3 : Int) (l4 : Int) (l5 : Int) (l6 : Int) (m : dc_M) (v : Int) (m' : dc_M), LM_266 x0 x1 c 52 l3 l4 l5 l6 m v m' → fw_f m m') ∧ (∀ (l3 : Int) (l4 : Int) (l5 : Int) (l6 : Int) (m : dc_M) (v : Int) (m' : dc_M), LM_266 x0 x1 c 102 l3 l4 l5 l6 m v m' → fw_f m m') ∧ (∀ (l3 : Int) (l4 : Int) (l5 : Int) (l6 : Int) (m : dc_M) (v : Int) (m' : dc_M), LM_266 x0 x1 c 206 l3 l4 l5 l6 m v m' → fw_f m m') := by
    intro c'
    induction c' with
    | zero => exact ⟨fun _ _ _ _ _ _ _ h => h.elim, fun _ _ _ _ _ _ _ h => h.elim, fun _ _ _ _ _ _ _ h => h.elim, fun _ _ _ _ _ _ _ h => h.elim, fun _ _ _ _ _ _ _ h => h.elim⟩
    | succ c ih =>
      refine ⟨?_, ?_, ?_, ?_, ?_⟩
      · intro l3 l4 l5 l6 m v m' h
        replace h := lm_266_2.mp h
        rcases h with ⟨-, h⟩ | ⟨-, h⟩
        · obtain ⟨m1, e1, h⟩ := h
          have f1 := (fw_f.rf (m := m)).up e1 (by simp [fw_t])
          exact f1.tr (ih.2.1 _ _ _ _ _ _ _ h)
        · obtain ⟨-, h⟩ := h
          obtain ⟨m1, e1, h⟩ := h
          have f1 := (fw_f.rf (m := m)).up e1 (by simp [fw_t])
          exact f1.tr (ih.1 _ _ _ _ _ _ _ h)
      · intro l3 l4 l5 l6 m v m' h
        replace h := lm_266_28.mp h
        obtain ⟨-, h⟩ := h
        rcases h with ⟨-, h⟩ | ⟨-, h⟩
        · obtain ⟨-, em⟩ := h
          rw [em]
          exact (fw_f.rf (m := m))
        · exact (fw_f.rf (m := m)).tr (ih.2.2.1 _ _ _ _ _ _ _ h)
      · intro l3 l4 l5 l6 m v m' h
        replace h := lm_266_52.mp h
        obtain ⟨-, h⟩ := h
        rcases h with ⟨-, h⟩ | ⟨-, h⟩
        · exact (fw_f.rf (m := m)).tr (ih.2.2.2.1 _ _ _ _ _ _ _ h)
        · obtain ⟨-, h⟩ := h
          obtain ⟨v1, m1, h1, h⟩ := h
          have f1 := (fw_f.rf (m := m)).tr (fw_267 h1)
          obtain ⟨-, h⟩ := h
          obtain ⟨m2, e2, h⟩ := h
          have f2 := f1.up e2 (by simp [fw_t])
          exact f2.tr (ih.2.2.1 _ _ _ _ _ _ _ h)
      · intro l3 l4 l5 l6 m v m' h
        replace h := lm_266_102.mp h
        rcases h with ⟨-, h⟩ | ⟨-, h⟩
        · obtain ⟨-, h⟩ := h
          rcases h with ⟨-, h⟩ | ⟨-, h⟩
          · exact (fw_f.rf (m := m)).tr (ih.2.2.2.2 _ _ _ _ _ _ _ h)
          · exact (fw_f.rf (m := m)).tr (ih.2.2.2.2 _ _ _ _ _ _ _ h)
        · obtain ⟨-, h⟩ := h
          rcases h with ⟨-, h⟩ | ⟨-, h⟩
          · exact (fw_f.rf (m := m)).tr (ih.2.2.2.1 _ _ _ _ _ _ _ h)
          · obtain ⟨-, h⟩ := h
            rcases h with ⟨-, h⟩ | ⟨-, h⟩
            · exact (fw_f.rf (m := m)).tr (ih.2.2.2.1 _ _ _ _ _ _ _ h)
            · obtain ⟨-, h⟩ := h
              obtain ⟨-, h⟩ := h
              obtain ⟨-, h⟩ := h
              obtain ⟨-, h⟩ := h
              rcases h with ⟨-, h⟩ | ⟨-, h⟩
              · exact (fw_f.rf (m := m)).tr (ih.2.2.2.1 _ _ _ _ _ _ _ h)
              · exact (fw_f.rf (m := m)).tr (ih.2.2.2.1 _ _ _ _ _ _ _ h)
      · intro l3 l4 l5 l6 m v m' h
        replace h := lm_266_206.mp h
        rcases h with ⟨-, h⟩ | ⟨-, h⟩
        · exact (fw_f.rf (m := m)).tr (ih.2.1 _ _ _ _ _ _ _ h)
        · obtain ⟨v1, m1, h1, h⟩ := h
          have f1 := (fw_f.rf (m := m)).tr (fw_268 h1)
          exact f1.tr (ih.2.2.2.2 _ _ _ _ _ _ _ h)
  obtain ⟨c, h⟩ := h
  exact (fw_f.rf (m := m)).tr ((key c).1 _ _ _ _ _ _ _ h)
theorem fw_269 {x0 : Int} {x1 : Int} {m : dc_M} {v : Int} {m' : dc_M} (h : D_269 x0 x1 m v m') : fw_f m m' := by
  have key : ∀ c : Nat, (∀ (l3 : Int) (l4 : Int) (m : dc_M) (v : Int) (m' : dc_M), LM_269 x0 x1 c 56 l3 l4 m v m' → fw_f m m') := by
    intro c'
    induction c' with
    | zero => exact fun _ _ _ _ _ h => h.elim
    | succ c ih =>
      intro l3 l4 m v m' h
      replace h := lm_269_56.mp h
      rcases h with ⟨-, h⟩ | ⟨-, h⟩
      · obtain ⟨m1, e1, h⟩ := h
        have f1 := (fw_f.rf (m := m)).up e1 (by simp [fw_t])
        obtain ⟨-, em⟩ := h
        rw [em]
        exact f1
      · obtain ⟨-, h⟩ := h
        obtain ⟨-, h⟩ := h
        obtain ⟨m1, e1, h⟩ := h
        have f1 := (fw_f.rf (m := m)).up e1 (by simp [fw_t])
        exact f1.tr (ih _ _ _ _ _ h)
  obtain ⟨m1, e1, h⟩ := h
  have f1 := (fw_f.rf (m := m)).up e1 (by simp [fw_t])
  obtain ⟨v2, m2, h2, h⟩ := h
  have f2 := f1.tr (fw_263 h2)
  obtain ⟨v3, m3, h3, h⟩ := h
  have f3 := f2.tr (fw_190 h3)
  rcases h with ⟨-, h⟩ | ⟨-, h⟩
  · obtain ⟨-, em⟩ := h
    rw [em]
    exact f3
  · rcases h with ⟨-, h⟩ | ⟨-, h⟩
    · obtain ⟨v4, m4, h4, h⟩ := h
      have f4 := f3.tr (fw_266 h4)
      rcases h with ⟨-, h⟩ | ⟨-, h⟩
      · obtain ⟨m5, e5, h⟩ := h
        have f5 := f4.up e5 (by simp [fw_t])
        obtain ⟨c, h⟩ := h
        exact f5.tr ((key c) _ _ _ _ _ h)
      · obtain ⟨m5, e5, h⟩ := h
        have f5 := f4.up e5 (by simp [fw_t])
        obtain ⟨c, h⟩ := h
        exact f5.tr ((key c) _ _ _ _ _ h)
    · obtain ⟨-, em⟩ := h
      rw [em]
      exact f3
def fe_t (k : Nat) (i : Int) : Prop := (k = 114 ∧ (i = 0 ∨ (2 ≤ i ∧ i ≤ 4) ∨ i = 90)) ∨ (171 ≤ k ∧ k ≤ 173)
def fe_f (m m' : dc_M) : Prop := ∀ (k : Nat) (i : Int), ¬ fe_t k i → m' k i = m k i
theorem fe_f.rf {m : dc_M} : fe_f m m := fun _ _ _ => rfl
theorem fe_f.tr {a b c : dc_M} (h : fe_f a b) (g : fe_f b c) : fe_f a c := fun k i z => (g k i z).trans (h k i z)
theorem fe_f.up {a m m1 : dc_M} {k : Nat} {i v : Int} (h : fe_f a m) (e : m1 = dc_up m k i v) (hx : fe_t k i) : fe_f a m1 := fun k' i' z => by
  rw [e]
  refine (if_neg (fun q => ?_)).trans (h k' i' z)
  rw [q.1, q.2] at z
  exact z hx
theorem fe_f.cp {a m m1 : dc_M} {s : Nat} {sp : Int} {d : Nat} {dp c : Int} (h : fe_f a m) (e : m1 = dc_cpy m s sp d dp c) (hx : ∀ i, fe_t d i) : fe_f a m1 := fun k' i' z => by
  rw [e]
  refine (if_neg (fun q => ?_)).trans (h k' i' z)
  rw [q.1] at z
  exact z (hx _)
theorem fe_f.fi {a m m1 : dc_M} {k : Nat} {len v : Int} (h : fe_f a m) (e : m1 = dc_fill m k len v) (hx : ∀ i, fe_t k i) : fe_f a m1 := fun k' i' z => by
  rw [e]
  refine (if_neg (fun q => ?_)).trans (h k' i' z)
  rw [q.1] at z
  exact z (hx _)
theorem fe_187  {m : dc_M} {v : Int} {m' : dc_M} (h : D_187 m v m') : fe_f m m' := by
  obtain ⟨m1, e1, h⟩ := h
  have f1 := (fe_f.rf (m := m)).up e1 (by simp [fe_t])
  obtain ⟨m2, e2, h⟩ := h
  have f2 := f1.up e2 (by simp [fe_t])
  obtain ⟨m3, e3, h⟩ := h
  have f3 := f2.up e3 (by simp [fe_t])
  obtain ⟨-, em⟩ := h
  rw [em]
  exact f3
theorem fe_188 {x0 : Int} {x1 : Int} {x2 : Int} {m : dc_M} {v : Int} {m' : dc_M} (h : D_188 x0 x1 x2 m v m') : fe_f m m' := by
  rcases h with ⟨-, h⟩ | ⟨-, h⟩
  · obtain ⟨-, em⟩ := h
    rw [em]
    exact (fe_f.rf (m := m))
  · rcases h with ⟨-, h⟩ | ⟨-, h⟩
    · obtain ⟨-, em⟩ := h
      rw [em]
      exact (fe_f.rf (m := m))
    · obtain ⟨-, em⟩ := h
      rw [em]
      exact (fe_f.rf (m := m))
theorem fe_189 {x0 : Int} {m : dc_M} {v : Int} {m' : dc_M} (h : D_189 x0 m v m') : fe_f m m' := by
  obtain ⟨-, h⟩ := h
  obtain ⟨-, em⟩ := h
  rw [em]
  exact (fe_f.rf (m := m))
theorem fe_276 {x0 : Int} {x1 : Int} {m : dc_M} {v : Int} {m' : dc_M} (h : D_276 x0 x1 m v m') : fe_f m m' := by
  obtain ⟨-, h⟩ := h
  obtain ⟨-, h⟩ := h
  rcases h with ⟨-, h⟩ | ⟨-, h⟩
  · obtain ⟨-, h⟩ := h
    obtain ⟨-, h⟩ := h
    rcases h with ⟨-, h⟩ | ⟨-, h⟩
    · obtain ⟨-, em⟩ := h
      rw [em]
      exact (fe_f.rf (m := m))
    · obtain ⟨-, h⟩ := h
      obtain ⟨-, h⟩ := h
      rcases h with ⟨-, h⟩ | ⟨-, h⟩
      · obtain ⟨-, em⟩ := h
        rw [em]
        exact (fe_f.rf (m := m))
      · obtain ⟨-, em⟩ := h
        rw [em]
        exact (fe_f.rf (m := m))
  · obtain ⟨-, h⟩ := h
    obtain ⟨-, h⟩ := h
    rcases h with ⟨-, h⟩ | ⟨-, h⟩
    · obtain ⟨-, em⟩ := h
      rw [em]
      exact (fe_f.rf (m := m))
    · obtain ⟨-, h⟩ := h
      obtain ⟨-, h⟩ := h
      rcases h with ⟨-, h⟩ | ⟨-, h⟩
      · obtain ⟨-, em⟩ := h
        rw [em]
        exact (fe_f.rf (m := m))
      · obtain ⟨-, h⟩ := h
        obtain ⟨-, h⟩ := h
        rcases h with ⟨-, h⟩ | ⟨-, h⟩
        · obtain ⟨-, em⟩ := h
          rw [em]
          exact (fe_f.rf (m := m))
        · obtain ⟨-, em⟩ := h
          rw [em]
          exact (fe_f.rf (m := m))
theorem fe_275 {x0 : Int} {x1 : Int} {m : dc_M} {v : Int} {m' : dc_M} (h : D_275 x0 x1 m v m') : fe_f m m' := by
  have key : ∀ c : Nat, (∀ (l3 : Int) (l4 : Int) (l5 : Int) (l6 : Int) (m : dc_M) (v : Int) (m' : dc_M), LM_275 x0 x1 c 17 l3 l4 l5 l6 m v m' → fe_f m m') ∧ (∀ (l3 : Int) (l4 : Int) (l5 : Int) (l6 : Int) (m : dc_M) (v : Int) (m' : dc_M), LM_275 x0 x1 c 45 l3 l4 l5 l6 m v m' → fe_f m m') ∧ (∀ (l3 : Int) (l4 : Int) (l5 : Int) (l6 : Int) (m : dc_M) (v : Int) (m' : dc_M), LM_275 x0 x1 c 62 l3 l4 l5 l6 m v m' → fe_f m m') := by
    intro c'
    induction c' with
    | zero => exact ⟨fun _ _ _ _ _ _ _ h => h.elim, fun _ _ _ _ _ _ _ h => h.elim, fun _ _ _ _ _ _ _ h => h.elim⟩
    | succ c ih =>
      refine ⟨?_, ?_, ?_⟩
      · intro l3 l4 l5 l6 m v m' h
        replace h := lm_275_17.mp h
        obtain ⟨-, h⟩ := h
        rcases h with ⟨-, h⟩ | ⟨-, h⟩
        · exact (fe_f.rf (m := m)).tr (ih.2.1 _ _ _ _ _ _ _ h)
        · obtain ⟨-, h⟩ := h
          obtain ⟨m1, e1, h⟩ := h
          have f1 := (fe_f.rf (m := m)).up e1 (by simp [fe_t])
          exact f1.tr (ih.1 _ _ _ _ _ _ _ h)
      · intro l3 l4 l5 l6 m v m' h
        replace h := lm_275_45.mp h
        obtain ⟨-, h⟩ := h
        rcases h with ⟨-, h⟩ | ⟨-, h⟩
        · obtain ⟨-, em⟩ := h
          rw [em]
          exact (fe_f.rf (m := m))
        · exact (fe_f.rf (m := m)).tr (ih.2.2 _ _ _ _ _ _ _ h)
      · intro l3 l4 l5 l6 m v m' h
        replace h := lm_275_62.mp h
        obtain ⟨-, h⟩ := h
        rcases h with ⟨-, h⟩ | ⟨-, h⟩
        · rcases h with ⟨-, h⟩ | ⟨-, h⟩
          · exact (fe_f.rf (m := m)).tr (ih.2.1 _ _ _ _ _ _ _ h)
          · exact (fe_f.rf (m := m)).tr (ih.2.1 _ _ _ _ _ _ _ h)
        · rcases h with ⟨-, h⟩ | ⟨-, h⟩
          · rcases h with ⟨-, h⟩ | ⟨-, h⟩
            · exact (fe_f.rf (m := m)).tr (ih.2.1 _ _ _ _ _ _ _ h)
            · exact (fe_f.rf (m := m)).tr (ih.2.1 _ _ _ _ _ _ _ h)
          · obtain ⟨-, h⟩ := h
            rcases h with ⟨-, h⟩ | ⟨-, h⟩
            · obtain ⟨-, h⟩ := h
              rcases h with ⟨-, h⟩ | ⟨-, h⟩
              · obtain ⟨-, h⟩ := h
                obtain ⟨m1, e1, h⟩ := h
                have f1 := (fe_f.rf (m := m)).up e1 (by simp [fe_t])
                exact f1.tr (ih.2.2 _ _ _ _ _ _ _ h)
              · obtain ⟨-, h⟩ := h
                obtain ⟨m1, e1, h⟩ := h
                have f1 := (fe_f.rf (m := m)).up e1 (by simp [fe_t])
                exact f1.tr (ih.2.2 _ _ _ _ _ _ _ h)
            · obtain ⟨v1, m1, h1, h⟩ := h
              have f1 := (fe_f.rf (m := m)).tr (fe_276 h1)
              rcases h with ⟨-, h⟩ | ⟨-, h⟩
              · obtain ⟨-, h⟩ := h
                rcases h with ⟨-, h⟩ | ⟨-, h⟩
                · obtain ⟨-, h⟩ := h
                  obtain ⟨m2, e2, h⟩ := h
                  have f2 := f1.up e2 (by simp [fe_t])
                  exact f2.tr (ih.2.2 _ _ _ _ _ _ _ h)
                · obtain ⟨-, h⟩ := h
                  obtain ⟨m2, e2, h⟩ := h
                  have f2 := f1.up e2 (by simp [fe_t])
                  exact f2.tr (ih.2.2 _ _ _ _ _ _ _ h)
              · obtain ⟨-, h⟩ := h
                rcases h with ⟨-, h⟩ | ⟨-, h⟩
                · obtain ⟨-, h⟩ := h
                  obtain ⟨m2, e2, h⟩ := h
                  have f2 := f1.up e2 (by simp [fe_t])
                  exact f2.tr (ih.2.2 _ _ _ _ _ _ _ h)
                · obtain ⟨-, h⟩ := h
                  obtain ⟨m2, e2, h⟩ := h
                  have f2 := f1.up e2 (by simp [fe_t])
                  exact f2.tr (ih.2.2 _ _ _ _ _ _ _ h)
  obtain ⟨-, h⟩ := h
  obtain ⟨-, h⟩ := h
  obtain ⟨c, h⟩ := h
  exact (fe_f.rf (m := m)).tr ((key c).1 _ _ _ _ _ _ _ h)
theorem fe_273 {x0 : Int} {m : dc_M} {v : Int} {m' : dc_M} (h : D_273 x0 m v m') : fe_f m m' := by
  obtain ⟨v1, m1, h1, h⟩ := h
  have f1 := (fe_f.rf (m := m)).tr (fe_188 h1)
  rcases h with ⟨-, h⟩ | ⟨-, h⟩
  · obtain ⟨-, em⟩ := h
    rw [em]
    exact f1
  · obtain ⟨-, h⟩ := h
    rcases h with ⟨-, h⟩ | ⟨-, h⟩
    · obtain ⟨-, em⟩ := h
      rw [em]
      exact f1
    · obtain ⟨-, em⟩ := h
      rw [em]
      exact f1
theorem fe_277 {x0 : Int} {x1 : Int} {m : dc_M} {v : Int} {m' : dc_M} (h : D_277 x0 x1 m v m') : fe_f m m' := by
  obtain ⟨m1, e1, h⟩ := h
  have f1 := (fe_f.rf (m := m)).up e1 (by simp [fe_t])
  obtain ⟨v2, m2, h2, h⟩ := h
  have f2 := f1.tr (fe_273 h2)
  rcases h with ⟨-, h⟩ | ⟨-, h⟩
  · obtain ⟨-, em⟩ := h
    rw [em]
    exact f2
  · obtain ⟨v3, m3, h3, h⟩ := h
    have f3 := f2.tr (fe_273 h3)
    rcases h with ⟨-, h⟩ | ⟨-, h⟩
    · obtain ⟨-, em⟩ := h
      rw [em]
      exact f3
    · obtain ⟨v4, m4, h4, h⟩ := h
      have f4 := f3.tr (fe_275 h4)
      obtain ⟨-, em⟩ := h
      rw [em]
      exact f4
theorem fe_279 {x0 : Int} {x1 : Int} {x2 : Int} {m : dc_M} {v : Int} {m' : dc_M} (h : D_279 x0 x1 x2 m v m') : fe_f m m' := by
  have key : ∀ c : Nat, (∀ (l4 : Int) (l5 : Int) (l6 : Int) (l7 : Int) (l8 : Int) (l9 : Int) (m : dc_M) (v : Int) (m' : dc_M), LM_279 x0 x1 x2 c 12 l4 l5 l6 l7 l8 l9 m v m' → fe_f m m') ∧ (∀ (l4 : Int) (l5 : Int) (l6 : Int) (l7 : Int) (l8 : Int) (l9 : Int) (m : dc_M) (v : Int) (m' : dc_M), LM_279 x0 x1 x2 c 44 l4 l5 l6 l7 l8 l9 m v m' → fe_f m m') := by
    intro c'
    induction c' with
    | zero => exact ⟨fun _ _ _ _ _ _ _ _ _ h => h.elim, fun _ _ _ _ _ _ _ _ _ h => h.elim⟩
    | succ c ih =>
      refine ⟨?_, ?_⟩
      · intro l4 l5 l6 l7 l8 l9 m v m' h
        replace h := lm_279_12.mp h
        rcases h with ⟨-, h⟩ | ⟨-, h⟩
        · obtain ⟨-, em⟩ := h
          rw [em]
          exact (fe_f.rf (m := m))
        · obtain ⟨-, h⟩ := h
          obtain ⟨-, h⟩ := h
          obtain ⟨-, h⟩ := h
          exact (fe_f.rf (m := m)).tr (ih.2 _ _ _ _ _ _ _ _ _ h)
      · intro l4 l5 l6 l7 l8 l9 m v m' h
        replace h := lm_279_44.mp h
        rcases h with ⟨-, h⟩ | ⟨-, h⟩
        · rcases h with ⟨-, h⟩ | ⟨-, h⟩
          · exact (fe_f.rf (m := m)).tr (ih.2 _ _ _ _ _ _ _ _ _ h)
          · exact (fe_f.rf (m := m)).tr (ih.2 _ _ _ _ _ _ _ _ _ h)
        · rcases h with ⟨-, h⟩ | ⟨-, h⟩
          · obtain ⟨-, h⟩ := h
            obtain ⟨m1, e1, h⟩ := h
            have f1 := (fe_f.rf (m := m)).up e1 (by simp [fe_t])
            exact f1.tr (ih.1 _ _ _ _ _ _ _ _ _ h)
          · rcases h with ⟨-, h⟩ | ⟨-, h⟩
            · exact (fe_f.rf (m := m)).tr (ih.2 _ _ _ _ _ _ _ _ _ h)
            · exact (fe_f.rf (m := m)).tr (ih.2 _ _ _ _ _ _ _ _ _ h)
  obtain ⟨c, h⟩ := h
  exact (fe_f.rf (m := m)).tr ((key c).1 _ _ _ _ _ _ _ _ _ h)
theorem fe_280 {x0 : Int} {m : dc_M} {v : Int} {m' : dc_M} (h : D_280 x0 m v m') : fe_f m m' := by
  have key : ∀ c : Nat, (∀ (l2 : Int) (l3 : Int) (m : dc_M) (v : Int) (m' : dc_M), LM_280 x0 c 4 l2 l3 m v m' → fe_f m m') := by
    intro c'
    induction c' with
    | zero => exact fun _ _ _ _ _ h => h.elim
    | succ c ih =>
      intro l2 l3 m v m' h
      replace h := lm_280_4.mp h
      rcases h with ⟨-, h⟩ | ⟨-, h⟩
      · obtain ⟨-, em⟩ := h
        rw [em]
        exact (fe_f.rf (m := m))
      · obtain ⟨-, h⟩ := h
        rcases h with ⟨-, h⟩ | ⟨-, h⟩
        · obtain ⟨-, h⟩ := h
          obtain ⟨v1, m1, h1, h⟩ := h
          have f1 := (fe_f.rf (m := m)).tr (fe_189 h1)
          obtain ⟨v2, m2, h2, h⟩ := h
          have f2 := f1.tr (fe_189 h2)
          obtain ⟨v3, m3, h3, h⟩ := h
          have f3 := f2.tr (fe_275 h3)
          obtain ⟨v4, m4, h4, h⟩ := h
          have f4 := f3.tr (fe_189 h4)
          obtain ⟨v5, m5, h5, h⟩ := h
          have f5 := f4.tr (fe_189 h5)
          obtain ⟨v6, m6, h6, h⟩ := h
          have f6 := f5.tr (fe_189 h6)
          obtain ⟨v7, m7, h7, h⟩ := h
          have f7 := f6.tr (fe_189 h7)
          rcases h with ⟨-, h⟩ | ⟨-, h⟩
          · exact f7.tr (ih _ _ _ _ _ h)
          · obtain ⟨-, em⟩ := h
            rw [em]
            exact f7
        · obtain ⟨v1, m1, h1, h⟩ := h
          have f1 := (fe_f.rf (m := m)).tr (fe_189 h1)
          obtain ⟨-, h⟩ := h
          obtain ⟨v2, m2, h2, h⟩ := h
          have f2 := f1.tr (fe_189 h2)
          obtain ⟨v3, m3, h3, h⟩ := h
          have f3 := f2.tr (fe_189 h3)
          obtain ⟨v4, m4, h4, h⟩ := h
          have f4 := f3.tr (fe_189 h4)
          obtain ⟨v5, m5, h5, h⟩ := h
          have f5 := f4.tr (fe_189 h5)
          rcases h with ⟨-, h⟩ | ⟨-, h⟩
          · exact f5.tr (ih _ _ _ _ _ h)
          · obtain ⟨-, em⟩ := h
            rw [em]
            exact f5
  obtain ⟨c, h⟩ := h
  exact (fe_f.rf (m := m)).tr ((key c) _ _ _ _ _ h)
theorem fe_278  {m : dc_M} {v : Int} {m' : dc_M} (h : D_278 m v m') : fe_f m m' := by
  have key : ∀ c : Nat, (∀ (l1 : Int) (l2 : Int) (l3 : Int) (l4 : Int) (l5 : Int) (l6 : Int) (m : dc_M) (v : Int) (m' : dc_M), LM_278 c 40 l1 l2 l3 l4 l5 l6 m v m' → fe_f m m') ∧ (∀ (l1 : Int) (l2 : Int) (l3 : Int) (l4 : Int) (l5 : Int) (l6 : Int) (m : dc_M) (v : Int) (m' : dc_M), LM_278 c 75 l1 l2 l3 l4 l5 l6 m v m' → fe_f m m') ∧ (∀ (l1 : Int) (l2 : Int) (l3 : Int) (l4 : Int) (l5 : Int) (l6 : Int) (m : dc_M) (v : Int) (m' : dc_M), LM_278 c 95 l1 l2 l3 l4 l5 l6 m v m' → fe_f m m') ∧ (∀ (l1 : Int) (l2 : Int) (l3 : Int) (l4 : Int) (l5 : Int) (l6 : Int) (m : dc_M) (v : Int) (m' : dc_M), LM_278 c 145 l1 l2 l3 l4 l5 l6 m v m' → fe_f m m') := by
    intro c'
    induction c' with
    | zero => exact ⟨fun _ _ _ _ _ _ _ _ _ h => h.elim, fun _ _ _ _ _ _ _ _ _ h => h.elim, fun _ _ _ _ _ _ _ _ _ h => h.elim, fun _ _ _ _ _ _ _ _ _ h => h.elim⟩
    | succ c ih =>
      refine ⟨?_, ?_, ?_, ?_⟩
      · intro l1 l2 l3 l4 l5 l6 m v m' h
        replace h := lm_278_40.mp h
        rcases h with ⟨-, h⟩ | ⟨-, h⟩
        · exact (fe_f.rf (m := m)).tr (ih.2.1 _ _ _ _ _ _ _ _ _ h)
        · obtain ⟨v1, m1, h1, h⟩ := h
          have f1 := (fe_f.rf (m := m)).tr (fe_189 h1)
          obtain ⟨v2, m2, h2, h⟩ := h
          have f2 := f1.tr (fe_273 h2)
          rcases h with ⟨-, h⟩ | ⟨-, h⟩
          · exact f2.tr (ih.1 _ _ _ _ _ _ _ _ _ h)
          · obtain ⟨-, em⟩ := h
            rw [em]
            exact f2
      · intro l1 l2 l3 l4 l5 l6 m v m' h
        replace h := lm_278_75.mp h
        rcases h with ⟨-, h⟩ | ⟨-, h⟩
        · exact (fe_f.rf (m := m)).tr (ih.2.2.1 _ _ _ _ _ _ _ _ _ h)
        · exact (fe_f.rf (m := m)).tr (ih.2.1 _ _ _ _ _ _ _ _ _ h)
      · intro l1 l2 l3 l4 l5 l6 m v m' h
        replace h := lm_278_95.mp h
        rcases h with ⟨-, h⟩ | ⟨-, h⟩
        · obtain ⟨-, em⟩ := h
          rw [em]
          exact (fe_f.rf (m := m))
        · obtain ⟨v1, m1, h1, h⟩ := h
          have f1 := (fe_f.rf (m := m)).tr (fe_279 h1)
          obtain ⟨v2, m2, h2, h⟩ := h
          have f2 := f1.tr (fe_280 h2)
          rcases h with ⟨-, h⟩ | ⟨-, h⟩
          · exact f2.tr (ih.2.2.1 _ _ _ _ _ _ _ _ _ h)
          · rcases h with ⟨-, h⟩ | ⟨-, h⟩
            · obtain ⟨m3, e3, h⟩ := h
              have f3 := f2.up e3 (by simp [fe_t])
              exact f3.tr (ih.2.2.2 _ _ _ _ _ _ _ _ _ h)
            · rcases h with ⟨-, h⟩ | ⟨-, h⟩
              · obtain ⟨m3, e3, h⟩ := h
                have f3 := f2.up e3 (by simp [fe_t])
                exact f3.tr (ih.2.2.2 _ _ _ _ _ _ _ _ _ h)
              · exact f2.tr (ih.2.2.1 _ _ _ _ _ _ _ _ _ h)
      · intro l1 l2 l3 l4 l5 l6 m v m' h
        replace h := lm_278_145.mp h
        rcases h with ⟨-, h⟩ | ⟨-, h⟩
        · exact (fe_f.rf (m := m)).tr (ih.2.2.1 _ _ _ _ _ _ _ _ _ h)
        · obtain ⟨-, h⟩ := h
          obtain ⟨-, h⟩ := h
          obtain ⟨m1, e1, h⟩ := h
          have f1 := (fe_f.rf (m := m)).up e1 (by simp [fe_t])
          exact f1.tr (ih.2.2.2 _ _ _ _ _ _ _ _ _ h)
  obtain ⟨m1, e1, h⟩ := h
  have f1 := (fe_f.rf (m := m)).up e1 (by simp [fe_t])
  obtain ⟨v2, m2, h2, h⟩ := h
  have f2 := f1.tr (fe_187 h2)
  rcases h with ⟨-, h⟩ | ⟨-, h⟩
  · obtain ⟨-, em⟩ := h
    rw [em]
    exact f2
  · obtain ⟨v3, m3, h3, h⟩ := h
    have f3 := f2.tr (fe_188 h3)
    rcases h with ⟨-, h⟩ | ⟨-, h⟩
    · obtain ⟨c, h⟩ := h
      exact f3.tr ((key c).1 _ _ _ _ _ _ _ _ _ h)
    · obtain ⟨-, em⟩ := h
      rw [em]
      exact f3
theorem fe_281 {x0 : Int} {m : dc_M} {v : Int} {m' : dc_M} (h : D_281 x0 m v m') : fe_f m m' := by
  obtain ⟨m1, e1, h⟩ := h
  have f1 := (fe_f.rf (m := m)).up e1 (by simp [fe_t])
  obtain ⟨v2, m2, h2, h⟩ := h
  have f2 := f1.tr (fe_188 h2)
  rcases h with ⟨-, h⟩ | ⟨-, h⟩
  · obtain ⟨-, em⟩ := h
    rw [em]
    exact f2
  · obtain ⟨-, h⟩ := h
    obtain ⟨-, em⟩ := h
    rw [em]
    exact f2
def fv_t (k : Nat) (i : Int) : Prop := (k = 88 ∧ i = 1) ∨ k = 89 ∨ k = 55 ∨ (k = 3 ∧ i = 4) ∨ k = 7
def fv_f (m m' : dc_M) : Prop := ∀ (k : Nat) (i : Int), ¬ fv_t k i → m' k i = m k i
theorem fv_f.rf {m : dc_M} : fv_f m m := fun _ _ _ => rfl
theorem fv_f.tr {a b c : dc_M} (h : fv_f a b) (g : fv_f b c) : fv_f a c := fun k i z => (g k i z).trans (h k i z)
theorem fv_f.up {a m m1 : dc_M} {k : Nat} {i v : Int} (h : fv_f a m) (e : m1 = dc_up m k i v) (hx : fv_t k i) : fv_f a m1 := fun k' i' z => by
  rw [e]
  refine (if_neg (fun q => ?_)).trans (h k' i' z)
  rw [q.1, q.2] at z
  exact z hx
theorem fv_f.cp {a m m1 : dc_M} {s : Nat} {sp : Int} {d : Nat} {dp c : Int} (h : fv_f a m) (e : m1 = dc_cpy m s sp d dp c) (hx : ∀ i, fv_t d i) : fv_f a m1 := fun k' i' z => by
  rw [e]
  refine (if_neg (fun q => ?_)).trans (h k' i' z)
  rw [q.1] at z
  exact z (hx _)
theorem fv_f.fi {a m m1 : dc_M} {k : Nat} {len v : Int} (h : fv_f a m) (e : m1 = dc_fill m k len v) (hx : ∀ i, fv_t k i) : fv_f a m1 := fun k' i' z => by
  rw [e]
  refine (if_neg (fun q => ?_)).trans (h k' i' z)
  rw [q.1] at z
  exact z (hx _)
theorem fv_14 {x0 : Int} {m : dc_M} {v : Int} {m' : dc_M} (h : D_14 x0 m v m') : fv_f m m' := by
  rcases h with ⟨-, h⟩ | ⟨-, h⟩
  · obtain ⟨-, em⟩ := h
    rw [em]
    exact (fv_f.rf (m := m))
  · rcases h with ⟨-, h⟩ | ⟨-, h⟩
    · obtain ⟨-, em⟩ := h
      rw [em]
      exact (fv_f.rf (m := m))
    · obtain ⟨-, em⟩ := h
      rw [em]
      exact (fv_f.rf (m := m))
theorem fv_79 {x0 : Int} {m : dc_M} {v : Int} {m' : dc_M} (h : D_79 x0 m v m') : fv_f m m' := by
  rcases h with ⟨-, h⟩ | ⟨-, h⟩
  · obtain ⟨-, em⟩ := h
    rw [em]
    exact (fv_f.rf (m := m))
  · rcases h with ⟨-, h⟩ | ⟨-, h⟩
    · obtain ⟨-, em⟩ := h
      rw [em]
      exact (fv_f.rf (m := m))
    · obtain ⟨-, em⟩ := h
      rw [em]
      exact (fv_f.rf (m := m))
theorem fv_26 {x0 : Int} {x1 : Int} {m : dc_M} {v : Int} {m' : dc_M} (h : D_26 x0 x1 m v m') : fv_f m m' := by
  obtain ⟨-, h⟩ := h
  obtain ⟨-, em⟩ := h
  rw [em]
  exact (fv_f.rf (m := m))
theorem fv_27 {x0 : Int} {x1 : Int} {m : dc_M} {v : Int} {m' : dc_M} (h : D_27 x0 x1 m v m') : fv_f m m' := by
  obtain ⟨-, h⟩ := h
  rcases h with ⟨-, h⟩ | ⟨-, h⟩
  · obtain ⟨-, em⟩ := h
    rw [em]
    exact (fv_f.rf (m := m))
  · obtain ⟨-, em⟩ := h
    rw [em]
    exact (fv_f.rf (m := m))
theorem fv_54 {x0 : Int} {x1 : Int} {m : dc_M} {v : Int} {m' : dc_M} (h : D_54 x0 x1 m v m') : fv_f m m' := by
  have key : ∀ c : Nat, (∀ (l2 : Int) (l3 : Int) (m : dc_M) (v : Int) (m' : dc_M), LM_54 x0 x1 c 7 l2 l3 m v m' → fv_f m m') := by
    intro c'
    induction c' with
    | zero => exact fun _ _ _ _ _ h => h.elim
    | succ c ih =>
      intro l2 l3 m v m' h
      replace h := lm_54_7.mp h
      rcases h with ⟨-, h⟩ | ⟨-, h⟩
      · obtain ⟨-, em⟩ := h
        rw [em]
        exact (fv_f.rf (m := m))
      · rcases h with ⟨-, h⟩ | ⟨-, h⟩
        · obtain ⟨-, em⟩ := h
          rw [em]
          exact (fv_f.rf (m := m))
        · exact (fv_f.rf (m := m)).tr (ih _ _ _ _ _ h)
  obtain ⟨c, h⟩ := h
  exact (fv_f.rf (m := m)).tr ((key c) _ _ _ _ _ h)
theorem fv_22 {x0 : Int} {x1 : Int} {m : dc_M} {v : Int} {m' : dc_M} (h : D_22 x0 x1 m v m') : fv_f m m' := by
  obtain ⟨-, h⟩ := h
  obtain ⟨m1, e1, h⟩ := h
  have f1 := (fv_f.rf (m := m)).up e1 (by simp [fv_t])
  obtain ⟨-, h⟩ := h
  obtain ⟨m2, e2, h⟩ := h
  have f2 := f1.cp e2 (fun _ => by simp [fv_t])
  obtain ⟨-, em⟩ := h
  rw [em]
  exact f2
theorem fv_23 {x0 : Int} {m : dc_M} {v : Int} {m' : dc_M} (h : D_23 x0 m v m') : fv_f m m' := by
  obtain ⟨v1, m1, h1, h⟩ := h
  have f1 := (fv_f.rf (m := m)).tr (fv_22 h1)
  obtain ⟨-, em⟩ := h
  rw [em]
  exact f1
theorem fv_90 {k1 : Nat} {x1 : Int} {x3 : Int} {m : dc_M} {v : Int} {m' : dc_M} (h : D_90 k1 x1 x3 m v m') : fv_f m m' := by
  have key : ∀ c : Nat, (∀ (l5 : Int) (l6 : Int) (l7 : Int) (m : dc_M) (v : Int) (m' : dc_M), LM_90 k1 x1 x3 c 36 l5 l6 l7 m v m' → fv_f m m') := by
    intro c'
    induction c' with
    | zero => exact fun _ _ _ _ _ _ h => h.elim
    | succ c ih =>
      intro l5 l6 l7 m v m' h
      replace h := lm_90_36.mp h
      obtain ⟨-, h⟩ := h
      rcases h with ⟨-, h⟩ | ⟨-, h⟩
      · obtain ⟨-, h⟩ := h
        rcases h with ⟨-, h⟩ | ⟨-, h⟩
        · obtain ⟨-, h⟩ := h
          obtain ⟨-, h⟩ := h
          obtain ⟨m1, e1, h⟩ := h
          have f1 := (fv_f.rf (m := m)).up e1 (by simp [fv_t])
          obtain ⟨-, em⟩ := h
          rw [em]
          exact f1
        · obtain ⟨v1, m1, h1, h⟩ := h
          have f1 := (fv_f.rf (m := m)).tr (fv_27 h1)
          rcases h with ⟨-, h⟩ | ⟨-, h⟩
          · obtain ⟨-, h⟩ := h
            obtain ⟨-, h⟩ := h
            obtain ⟨m2, e2, h⟩ := h
            have f2 := f1.up e2 (by simp [fv_t])
            obtain ⟨-, em⟩ := h
            rw [em]
            exact f2
          · obtain ⟨-, h⟩ := h
            obtain ⟨-, h⟩ := h
            obtain ⟨m2, e2, h⟩ := h
            have f2 := f1.up e2 (by simp [fv_t])
            obtain ⟨-, em⟩ := h
            rw [em]
            exact f2
      · obtain ⟨v1, m1, h1, h⟩ := h
        have f1 := (fv_f.rf (m := m)).tr (fv_26 h1)
        rcases h with ⟨-, h⟩ | ⟨-, h⟩
        · exact f1.tr (ih _ _ _ _ _ _ h)
        · exact f1.tr (ih _ _ _ _ _ _ h)
  obtain ⟨-, h⟩ := h
  rcases h with ⟨-, h⟩ | ⟨-, h⟩
  · rcases h with ⟨-, h⟩ | ⟨-, h⟩
    · obtain ⟨-, h⟩ := h
      rcases h with ⟨-, h⟩ | ⟨-, h⟩
      · obtain ⟨-, h⟩ := h
        obtain ⟨-, h⟩ := h
        obtain ⟨m1, e1, h⟩ := h
        have f1 := (fv_f.rf (m := m)).up e1 (by simp [fv_t])
        obtain ⟨-, em⟩ := h
        rw [em]
        exact f1
      · obtain ⟨v1, m1, h1, h⟩ := h
        have f1 := (fv_f.rf (m := m)).tr (fv_27 h1)
        rcases h with ⟨-, h⟩ | ⟨-, h⟩
        · obtain ⟨-, h⟩ := h
          obtain ⟨-, h⟩ := h
          obtain ⟨m2, e2, h⟩ := h
          have f2 := f1.up e2 (by simp [fv_t])
          obtain ⟨-, em⟩ := h
          rw [em]
          exact f2
        · obtain ⟨-, h⟩ := h
          obtain ⟨-, h⟩ := h
          obtain ⟨m2, e2, h⟩ := h
          have f2 := f1.up e2 (by simp [fv_t])
          obtain ⟨-, em⟩ := h
          rw [em]
          exact f2
    · obtain ⟨-, h⟩ := h
      obtain ⟨c, h⟩ := h
      exact (fv_f.rf (m := m)).tr ((key c) _ _ _ _ _ _ h)
  · rcases h with ⟨-, h⟩ | ⟨-, h⟩
    · obtain ⟨-, h⟩ := h
      rcases h with ⟨-, h⟩ | ⟨-, h⟩
      · obtain ⟨-, h⟩ := h
        obtain ⟨-, h⟩ := h
        obtain ⟨m1, e1, h⟩ := h
        have f1 := (fv_f.rf (m := m)).up e1 (by simp [fv_t])
        obtain ⟨-, em⟩ := h
        rw [em]
        exact f1
      · obtain ⟨v1, m1, h1, h⟩ := h
        have f1 := (fv_f.rf (m := m)).tr (fv_27 h1)
        rcases h with ⟨-, h⟩ | ⟨-, h⟩
        · obtain ⟨-, h⟩ := h
          obtain ⟨-, h⟩ := h
          obtain ⟨m2, e2, h⟩ := h
          have f2 := f1.up e2 (by simp [fv_t])
          obtain ⟨-, em⟩ := h
          rw [em]
          exact f2
        · obtain ⟨-, h⟩ := h
          obtain ⟨-, h⟩ := h
          obtain ⟨m2, e2, h⟩ := h
          have f2 := f1.up e2 (by simp [fv_t])
          obtain ⟨-, em⟩ := h
          rw [em]
          exact f2
    · obtain ⟨-, h⟩ := h
      obtain ⟨c, h⟩ := h
      exact (fv_f.rf (m := m)).tr ((key c) _ _ _ _ _ _ h)
theorem fv_91 {k1 : Nat} {x2 : Int} {x3 : Int} {m : dc_M} {v : Int} {m' : dc_M} (h : D_91 k1 x2 x3 m v m') : fv_f m m' := by
  have key : ∀ c : Nat, (∀ (l4 : Int) (l5 : Int) (m : dc_M) (v : Int) (m' : dc_M), LM_91 k1 x2 x3 c 6 l4 l5 m v m' → fv_f m m') := by
    intro c'
    induction c' with
    | zero => exact fun _ _ _ _ _ h => h.elim
    | succ c ih =>
      intro l4 l5 m v m' h
      replace h := lm_91_6.mp h
      rcases h with ⟨-, h⟩ | ⟨-, h⟩
      · obtain ⟨-, em⟩ := h
        rw [em]
        exact (fv_f.rf (m := m))
      · obtain ⟨-, h⟩ := h
        rcases h with ⟨-, h⟩ | ⟨-, h⟩
        · exact (fv_f.rf (m := m)).tr (ih _ _ _ _ _ h)
        · obtain ⟨v1, m1, h1, h⟩ := h
          have f1 := (fv_f.rf (m := m)).tr (fv_26 h1)
          obtain ⟨v2, m2, h2, h⟩ := h
          have f2 := f1.tr (fv_26 h2)
          rcases h with ⟨-, h⟩ | ⟨-, h⟩
          · exact f2.tr (ih _ _ _ _ _ h)
          · exact f2.tr (ih _ _ _ _ _ h)
  obtain ⟨c, h⟩ := h
  exact (fv_f.rf (m := m)).tr ((key c) _ _ _ _ _ h)
theorem fv_97  {m : dc_M} {v : Int} {m' : dc_M} (h : D_97 88 m v m') : fv_f m m' := by
  have key : ∀ c : Nat, (∀ (l1 : Int) (m : dc_M) (v : Int) (m' : dc_M), LM_97 88 c 17 l1 m v m' → fv_f m m') := by
    intro c'
    induction c' with
    | zero => exact fun _ _ _ _ h => h.elim
    | succ c ih =>
      intro l1 m v m' h
      replace h := lm_97_17.mp h
      rcases h with ⟨-, h⟩ | ⟨-, h⟩
      · obtain ⟨m1, e1, h⟩ := h
        have f1 := (fv_f.rf (m := m)).up e1 (by simp [fv_t])
        obtain ⟨-, em⟩ := h
        rw [em]
        exact f1
      · obtain ⟨-, h⟩ := h
        obtain ⟨m1, e1, h⟩ := h
        have f1 := (fv_f.rf (m := m)).up e1 (by simp [fv_t])
        exact f1.tr (ih _ _ _ _ h)
  rcases h with ⟨-, h⟩ | ⟨-, h⟩
  · obtain ⟨m1, e1, h⟩ := h
    have f1 := (fv_f.rf (m := m)).up e1 (by simp [fv_t])
    obtain ⟨-, em⟩ := h
    rw [em]
    exact f1
  · obtain ⟨c, h⟩ := h
    exact (fv_f.rf (m := m)).tr ((key c) _ _ _ _ h)
theorem fv_98 {x0 : Int} {x1 : Int} {m : dc_M} {v : Int} {m' : dc_M} (h : D_98 88 x0 x1 m v m') : fv_f m m' := by
  rcases h with ⟨-, h⟩ | ⟨-, h⟩
  · obtain ⟨-, em⟩ := h
    rw [em]
    exact (fv_f.rf (m := m))
  · rcases h with ⟨-, h⟩ | ⟨-, h⟩
    · obtain ⟨-, em⟩ := h
      rw [em]
      exact (fv_f.rf (m := m))
    · rcases h with ⟨-, h⟩ | ⟨-, h⟩
      · obtain ⟨-, em⟩ := h
        rw [em]
        exact (fv_f.rf (m := m))
      · rcases h with ⟨-, h⟩ | ⟨-, h⟩
        · obtain ⟨-, em⟩ := h
          rw [em]
          exact (fv_f.rf (m := m))
        · obtain ⟨-, h⟩ := h
          obtain ⟨m1, e1, h⟩ := h
          have f1 := (fv_f.rf (m := m)).up e1 (by simp [fv_t])
          obtain ⟨-, em⟩ := h
          rw [em]
          exact f1
theorem fv_92 {k1 : Nat} {x1 : Int} {x2 : Int} {m : dc_M} {v : Int} {m' : dc_M} (h : D_92 k1 x1 x2 88 m v m') : fv_f m m' := by
  have key : ∀ c : Nat, (∀ (l5 : Int) (l6 : Int) (l7 : Int) (l8 : Int) (m : dc_M) (v : Int) (m' : dc_M), LM_92 k1 x1 x2 88 c 9 l5 l6 l7 l8 m v m' → fv_f m m') ∧ (∀ (l5 : Int) (l6 : Int) (l7 : Int) (l8 : Int) (m : dc_M) (v : Int) (m' : dc_M), LM_92 k1 x1 x2 88 c 54 l5 l6 l7 l8 m v m' → fv_f m m') := by
    intro c'
    induction c' with
    | zero => exact ⟨fun _ _ _ _ _ _ _ h => h.elim, fun _ _ _ _ _ _ _ h => h.elim⟩
    | succ c ih =>
      refine ⟨?_, ?_⟩
      · intro l5 l6 l7 l8 m v m' h
        replace h := lm_92_9.mp h
        rcases h with ⟨-, h⟩ | ⟨-, h⟩
        · obtain ⟨-, em⟩ := h
          rw [em]
          exact (fv_f.rf (m := m))
        · rcases h with ⟨-, h⟩ | ⟨-, h⟩
          · exact (fv_f.rf (m := m)).tr (ih.1 _ _ _ _ _ _ _ h)
          · obtain ⟨-, h⟩ := h
            rcases h with ⟨-, h⟩ | ⟨-, h⟩
            · obtain ⟨-, h⟩ := h
              exact (fv_f.rf (m := m)).tr (ih.1 _ _ _ _ _ _ _ h)
            · rcases h with ⟨-, h⟩ | ⟨-, h⟩
              · exact (fv_f.rf (m := m)).tr (ih.2 _ _ _ _ _ _ _ h)
              · obtain ⟨v1, m1, h1, h⟩ := h
                have f1 := (fv_f.rf (m := m)).tr (fv_97 h1)
                exact f1.tr (ih.2 _ _ _ _ _ _ _ h)
      · intro l5 l6 l7 l8 m v m' h
        replace h := lm_92_54.mp h
        obtain ⟨-, h⟩ := h
        rcases h with ⟨-, h⟩ | ⟨-, h⟩
        · obtain ⟨-, h⟩ := h
          obtain ⟨m1, e1, h⟩ := h
          have f1 := (fv_f.rf (m := m)).up e1 (by simp [fv_t])
          obtain ⟨-, h⟩ := h
          exact f1.tr (ih.1 _ _ _ _ _ _ _ h)
        · obtain ⟨-, h⟩ := h
          obtain ⟨-, h⟩ := h
          obtain ⟨v1, m1, h1, h⟩ := h
          have f1 := (fv_f.rf (m := m)).tr (fv_54 h1)
          obtain ⟨v2, m2, h2, h⟩ := h
          have f2 := f1.tr (fv_98 h2)
          exact f2.tr (ih.2 _ _ _ _ _ _ _ h)
  obtain ⟨c, h⟩ := h
  exact (fv_f.rf (m := m)).tr ((key c).1 _ _ _ _ _ _ _ h)
theorem fv_89 {k1 : Nat} {x1 : Int} {m : dc_M} {v : Int} {m' : dc_M} (h : D_89 k1 x1 88 m v m') : fv_f m m' := by
  have key : ∀ c : Nat, (∀ (l5 : Int) (l6 : Int) (l7 : Int) (l8 : Int) (l9 : Int) (m : dc_M) (v : Int) (m' : dc_M), LM_89 k1 x1 88 c 17 l5 l6 l7 l8 l9 m v m' → fv_f m m') ∧ (∀ (l5 : Int) (l6 : Int) (l7 : Int) (l8 : Int) (l9 : Int) (m : dc_M) (v : Int) (m' : dc_M), LM_89 k1 x1 88 c 38 l5 l6 l7 l8 l9 m v m' → fv_f m m') ∧ (∀ (l5 : Int) (l6 : Int) (l7 : Int) (l8 : Int) (l9 : Int) (m : dc_M) (v : Int) (m' : dc_M), LM_89 k1 x1 88 c 111 l5 l6 l7 l8 l9 m v m' → fv_f m m') := by
    intro c'
    induction c' with
    | zero => exact ⟨fun _ _ _ _ _ _ _ _ h => h.elim, fun _ _ _ _ _ _ _ _ h => h.elim, fun _ _ _ _ _ _ _ _ h => h.elim⟩
    | succ c ih =>
      refine ⟨?_, ?_, ?_⟩
      · intro l5 l6 l7 l8 l9 m v m' h
        replace h := lm_89_17.mp h
        rcases h with ⟨-, h⟩ | ⟨-, h⟩
        · obtain ⟨-, em⟩ := h
          rw [em]
          exact (fv_f.rf (m := m))
        · obtain ⟨-, h⟩ := h
          exact (fv_f.rf (m := m)).tr (ih.2.1 _ _ _ _ _ _ _ _ h)
      · intro l5 l6 l7 l8 l9 m v m' h
        replace h := lm_89_38.mp h
        rcases h with ⟨-, h⟩ | ⟨-, h⟩
        · rcases h with ⟨-, h⟩ | ⟨-, h⟩
          · obtain ⟨-, h⟩ := h
            obtain ⟨v1, m1, h1, h⟩ := h
            have f1 := (fv_f.rf (m := m)).tr (fv_91 h1)
            exact f1.tr (ih.2.2 _ _ _ _ _ _ _ _ h)
          · exact (fv_f.rf (m := m)).tr (ih.2.2 _ _ _ _ _ _ _ _ h)
        · obtain ⟨v1, m1, h1, h⟩ := h
          have f1 := (fv_f.rf (m := m)).tr (fv_90 h1)
          exact f1.tr (ih.2.1 _ _ _ _ _ _ _ _ h)
      · intro l5 l6 l7 l8 l9 m v m' h
        replace h := lm_89_111.mp h
        rcases h with ⟨-, h⟩ | ⟨-, h⟩
        · exact (fv_f.rf (m := m)).tr (ih.1 _ _ _ _ _ _ _ _ h)
        · obtain ⟨v1, m1, h1, h⟩ := h
          have f1 := (fv_f.rf (m := m)).tr (fv_92 h1)
          exact f1.tr (ih.2.2 _ _ _ _ _ _ _ _ h)
  obtain ⟨m1, e1, h⟩ := h
  have f1 := (fv_f.rf (m := m)).up e1 (by simp [fv_t])
  obtain ⟨m2, e2, h⟩ := h
  have f2 := f1.fi e2 (fun _ => by simp [fv_t])
  obtain ⟨c, h⟩ := h
  exact f2.tr ((key c).1 _ _ _ _ _ _ _ _ h)
theorem fv_94  {m : dc_M} {v : Int} {m' : dc_M} (h : D_94 88 m v m') : fv_f m m' := by
  obtain ⟨-, em⟩ := h
  rw [em]
  exact (fv_f.rf (m := m))
theorem fv_167 {x0 : Int} {x1 : Int} {m : dc_M} {v : Int} {m' : dc_M} (h : D_167 x0 x1 m v m') : fv_f m m' := by
  obtain ⟨v1, m1, h1, h⟩ := h
  have f1 := (fv_f.rf (m := m)).tr (fv_14 h1)
  rcases h with ⟨-, h⟩ | ⟨-, h⟩
  · obtain ⟨-, em⟩ := h
    rw [em]
    exact f1
  · obtain ⟨v2, m2, h2, h⟩ := h
    have f2 := f1.tr (fv_79 h2)
    rcases h with ⟨-, h⟩ | ⟨-, h⟩
    · obtain ⟨v3, m3, h3, h⟩ := h
      have f3 := f2.tr (fv_23 h3)
      obtain ⟨-, h⟩ := h
      obtain ⟨v4, m4, h4, h⟩ := h
      have f4 := f3.tr (fv_89 h4)
      obtain ⟨v5, m5, h5, h⟩ := h
      have f5 := f4.tr (fv_94 h5)
      obtain ⟨-, em⟩ := h
      rw [em]
      exact f5
    · obtain ⟨-, em⟩ := h
      rw [em]
      exact f2
def fs_t (k : Nat) (i : Int) : Prop := (k = 40 ∧ i = 1) ∨ k = 41 ∨ k = 55
def fs_f (m m' : dc_M) : Prop := ∀ (k : Nat) (i : Int), ¬ fs_t k i → m' k i = m k i
theorem fs_f.rf {m : dc_M} : fs_f m m := fun _ _ _ => rfl
theorem fs_f.tr {a b c : dc_M} (h : fs_f a b) (g : fs_f b c) : fs_f a c := fun k i z => (g k i z).trans (h k i z)
theorem fs_f.up {a m m1 : dc_M} {k : Nat} {i v : Int} (h : fs_f a m) (e : m1 = dc_up m k i v) (hx : fs_t k i) : fs_f a m1 := fun k' i' z => by
  rw [e]
  refine (if_neg (fun q => ?_)).trans (h k' i' z)
  rw [q.1, q.2] at z
  exact z hx
theorem fs_f.cp {a m m1 : dc_M} {s : Nat} {sp : Int} {d : Nat} {dp c : Int} (h : fs_f a m) (e : m1 = dc_cpy m s sp d dp c) (hx : ∀ i, fs_t d i) : fs_f a m1 := fun k' i' z => by
  rw [e]
  refine (if_neg (fun q => ?_)).trans (h k' i' z)
  rw [q.1] at z
  exact z (hx _)
theorem fs_f.fi {a m m1 : dc_M} {k : Nat} {len v : Int} (h : fs_f a m) (e : m1 = dc_fill m k len v) (hx : ∀ i, fs_t k i) : fs_f a m1 := fun k' i' z => by
  rw [e]
  refine (if_neg (fun q => ?_)).trans (h k' i' z)
  rw [q.1] at z
  exact z (hx _)
theorem fs_26 {x0 : Int} {x1 : Int} {m : dc_M} {v : Int} {m' : dc_M} (h : D_26 x0 x1 m v m') : fs_f m m' := by
  obtain ⟨-, h⟩ := h
  obtain ⟨-, em⟩ := h
  rw [em]
  exact (fs_f.rf (m := m))
theorem fs_27 {x0 : Int} {x1 : Int} {m : dc_M} {v : Int} {m' : dc_M} (h : D_27 x0 x1 m v m') : fs_f m m' := by
  obtain ⟨-, h⟩ := h
  rcases h with ⟨-, h⟩ | ⟨-, h⟩
  · obtain ⟨-, em⟩ := h
    rw [em]
    exact (fs_f.rf (m := m))
  · obtain ⟨-, em⟩ := h
    rw [em]
    exact (fs_f.rf (m := m))
theorem fs_54 {x0 : Int} {x1 : Int} {m : dc_M} {v : Int} {m' : dc_M} (h : D_54 x0 x1 m v m') : fs_f m m' := by
  have key : ∀ c : Nat, (∀ (l2 : Int) (l3 : Int) (m : dc_M) (v : Int) (m' : dc_M), LM_54 x0 x1 c 7 l2 l3 m v m' → fs_f m m') := by
    intro c'
    induction c' with
    | zero => exact fun _ _ _ _ _ h => h.elim
    | succ c ih =>
      intro l2 l3 m v m' h
      replace h := lm_54_7.mp h
      rcases h with ⟨-, h⟩ | ⟨-, h⟩
      · obtain ⟨-, em⟩ := h
        rw [em]
        exact (fs_f.rf (m := m))
      · rcases h with ⟨-, h⟩ | ⟨-, h⟩
        · obtain ⟨-, em⟩ := h
          rw [em]
          exact (fs_f.rf (m := m))
        · exact (fs_f.rf (m := m)).tr (ih _ _ _ _ _ h)
  obtain ⟨c, h⟩ := h
  exact (fs_f.rf (m := m)).tr ((key c) _ _ _ _ _ h)
theorem fs_90 {k1 : Nat} {x1 : Int} {x3 : Int} {m : dc_M} {v : Int} {m' : dc_M} (h : D_90 k1 x1 x3 m v m') : fs_f m m' := by
  have key : ∀ c : Nat, (∀ (l5 : Int) (l6 : Int) (l7 : Int) (m : dc_M) (v : Int) (m' : dc_M), LM_90 k1 x1 x3 c 36 l5 l6 l7 m v m' → fs_f m m') := by
    intro c'
    induction c' with
    | zero => exact fun _ _ _ _ _ _ h => h.elim
    | succ c ih =>
      intro l5 l6 l7 m v m' h
      replace h := lm_90_36.mp h
      obtain ⟨-, h⟩ := h
      rcases h with ⟨-, h⟩ | ⟨-, h⟩
      · obtain ⟨-, h⟩ := h
        rcases h with ⟨-, h⟩ | ⟨-, h⟩
        · obtain ⟨-, h⟩ := h
          obtain ⟨-, h⟩ := h
          obtain ⟨m1, e1, h⟩ := h
          have f1 := (fs_f.rf (m := m)).up e1 (by simp [fs_t])
          obtain ⟨-, em⟩ := h
          rw [em]
          exact f1
        · obtain ⟨v1, m1, h1, h⟩ := h
          have f1 := (fs_f.rf (m := m)).tr (fs_27 h1)
          rcases h with ⟨-, h⟩ | ⟨-, h⟩
          · obtain ⟨-, h⟩ := h
            obtain ⟨-, h⟩ := h
            obtain ⟨m2, e2, h⟩ := h
            have f2 := f1.up e2 (by simp [fs_t])
            obtain ⟨-, em⟩ := h
            rw [em]
            exact f2
          · obtain ⟨-, h⟩ := h
            obtain ⟨-, h⟩ := h
            obtain ⟨m2, e2, h⟩ := h
            have f2 := f1.up e2 (by simp [fs_t])
            obtain ⟨-, em⟩ := h
            rw [em]
            exact f2
      · obtain ⟨v1, m1, h1, h⟩ := h
        have f1 := (fs_f.rf (m := m)).tr (fs_26 h1)
        rcases h with ⟨-, h⟩ | ⟨-, h⟩
        · exact f1.tr (ih _ _ _ _ _ _ h)
        · exact f1.tr (ih _ _ _ _ _ _ h)
  obtain ⟨-, h⟩ := h
  rcases h with ⟨-, h⟩ | ⟨-, h⟩
  · rcases h with ⟨-, h⟩ | ⟨-, h⟩
    · obtain ⟨-, h⟩ := h
      rcases h with ⟨-, h⟩ | ⟨-, h⟩
      · obtain ⟨-, h⟩ := h
        obtain ⟨-, h⟩ := h
        obtain ⟨m1, e1, h⟩ := h
        have f1 := (fs_f.rf (m := m)).up e1 (by simp [fs_t])
        obtain ⟨-, em⟩ := h
        rw [em]
        exact f1
      · obtain ⟨v1, m1, h1, h⟩ := h
        have f1 := (fs_f.rf (m := m)).tr (fs_27 h1)
        rcases h with ⟨-, h⟩ | ⟨-, h⟩
        · obtain ⟨-, h⟩ := h
          obtain ⟨-, h⟩ := h
          obtain ⟨m2, e2, h⟩ := h
          have f2 := f1.up e2 (by simp [fs_t])
          obtain ⟨-, em⟩ := h
          rw [em]
          exact f2
        · obtain ⟨-, h⟩ := h
          obtain ⟨-, h⟩ := h
          obtain ⟨m2, e2, h⟩ := h
          have f2 := f1.up e2 (by simp [fs_t])
          obtain ⟨-, em⟩ := h
          rw [em]
          exact f2
    · obtain ⟨-, h⟩ := h
      obtain ⟨c, h⟩ := h
      exact (fs_f.rf (m := m)).tr ((key c) _ _ _ _ _ _ h)
  · rcases h with ⟨-, h⟩ | ⟨-, h⟩
    · obtain ⟨-, h⟩ := h
      rcases h with ⟨-, h⟩ | ⟨-, h⟩
      · obtain ⟨-, h⟩ := h
        obtain ⟨-, h⟩ := h
        obtain ⟨m1, e1, h⟩ := h
        have f1 := (fs_f.rf (m := m)).up e1 (by simp [fs_t])
        obtain ⟨-, em⟩ := h
        rw [em]
        exact f1
      · obtain ⟨v1, m1, h1, h⟩ := h
        have f1 := (fs_f.rf (m := m)).tr (fs_27 h1)
        rcases h with ⟨-, h⟩ | ⟨-, h⟩
        · obtain ⟨-, h⟩ := h
          obtain ⟨-, h⟩ := h
          obtain ⟨m2, e2, h⟩ := h
          have f2 := f1.up e2 (by simp [fs_t])
          obtain ⟨-, em⟩ := h
          rw [em]
          exact f2
        · obtain ⟨-, h⟩ := h
          obtain ⟨-, h⟩ := h
          obtain ⟨m2, e2, h⟩ := h
          have f2 := f1.up e2 (by simp [fs_t])
          obtain ⟨-, em⟩ := h
          rw [em]
          exact f2
    · obtain ⟨-, h⟩ := h
      obtain ⟨c, h⟩ := h
      exact (fs_f.rf (m := m)).tr ((key c) _ _ _ _ _ _ h)
theorem fs_91 {k1 : Nat} {x2 : Int} {x3 : Int} {m : dc_M} {v : Int} {m' : dc_M} (h : D_91 k1 x2 x3 m v m') : fs_f m m' := by
  have key : ∀ c : Nat, (∀ (l4 : Int) (l5 : Int) (m : dc_M) (v : Int) (m' : dc_M), LM_91 k1 x2 x3 c 6 l4 l5 m v m' → fs_f m m') := by
    intro c'
    induction c' with
    | zero => exact fun _ _ _ _ _ h => h.elim
    | succ c ih =>
      intro l4 l5 m v m' h
      replace h := lm_91_6.mp h
      rcases h with ⟨-, h⟩ | ⟨-, h⟩
      · obtain ⟨-, em⟩ := h
        rw [em]
        exact (fs_f.rf (m := m))
      · obtain ⟨-, h⟩ := h
        rcases h with ⟨-, h⟩ | ⟨-, h⟩
        · exact (fs_f.rf (m := m)).tr (ih _ _ _ _ _ h)
        · obtain ⟨v1, m1, h1, h⟩ := h
          have f1 := (fs_f.rf (m := m)).tr (fs_26 h1)
          obtain ⟨v2, m2, h2, h⟩ := h
          have f2 := f1.tr (fs_26 h2)
          rcases h with ⟨-, h⟩ | ⟨-, h⟩
          · exact f2.tr (ih _ _ _ _ _ h)
          · exact f2.tr (ih _ _ _ _ _ h)
  obtain ⟨c, h⟩ := h
  exact (fs_f.rf (m := m)).tr ((key c) _ _ _ _ _ h)
theorem fs_97  {m : dc_M} {v : Int} {m' : dc_M} (h : D_97 40 m v m') : fs_f m m' := by
  have key : ∀ c : Nat, (∀ (l1 : Int) (m : dc_M) (v : Int) (m' : dc_M), LM_97 40 c 17 l1 m v m' → fs_f m m') := by
    intro c'
    induction c' with
    | zero => exact fun _ _ _ _ h => h.elim
    | succ c ih =>
      intro l1 m v m' h
      replace h := lm_97_17.mp h
      rcases h with ⟨-, h⟩ | ⟨-, h⟩
      · obtain ⟨m1, e1, h⟩ := h
        have f1 := (fs_f.rf (m := m)).up e1 (by simp [fs_t])
        obtain ⟨-, em⟩ := h
        rw [em]
        exact f1
      · obtain ⟨-, h⟩ := h
        obtain ⟨m1, e1, h⟩ := h
        have f1 := (fs_f.rf (m := m)).up e1 (by simp [fs_t])
        exact f1.tr (ih _ _ _ _ h)
  rcases h with ⟨-, h⟩ | ⟨-, h⟩
  · obtain ⟨m1, e1, h⟩ := h
    have f1 := (fs_f.rf (m := m)).up e1 (by simp [fs_t])
    obtain ⟨-, em⟩ := h
    rw [em]
    exact f1
  · obtain ⟨c, h⟩ := h
    exact (fs_f.rf (m := m)).tr ((key c) _ _ _ _ h)
theorem fs_98 {x0 : Int} {x1 : Int} {m : dc_M} {v : Int} {m' : dc_M} (h : D_98 40 x0 x1 m v m') : fs_f m m' := by
  rcases h with ⟨-, h⟩ | ⟨-, h⟩
  · obtain ⟨-, em⟩ := h
    rw [em]
    exact (fs_f.rf (m := m))
  · rcases h with ⟨-, h⟩ | ⟨-, h⟩
    · obtain ⟨-, em⟩ := h
      rw [em]
      exact (fs_f.rf (m := m))
    · rcases h with ⟨-, h⟩ | ⟨-, h⟩
      · obtain ⟨-, em⟩ := h
        rw [em]
        exact (fs_f.rf (m := m))
      · rcases h with ⟨-, h⟩ | ⟨-, h⟩
        · obtain ⟨-, em⟩ := h
          rw [em]
          exact (fs_f.rf (m := m))
        · obtain ⟨-, h⟩ := h
          obtain ⟨m1, e1, h⟩ := h
          have f1 := (fs_f.rf (m := m)).up e1 (by simp [fs_t])
          obtain ⟨-, em⟩ := h
          rw [em]
          exact f1
theorem fs_92 {k1 : Nat} {x1 : Int} {x2 : Int} {m : dc_M} {v : Int} {m' : dc_M} (h : D_92 k1 x1 x2 40 m v m') : fs_f m m' := by
  have key : ∀ c : Nat, (∀ (l5 : Int) (l6 : Int) (l7 : Int) (l8 : Int) (m : dc_M) (v : Int) (m' : dc_M), LM_92 k1 x1 x2 40 c 9 l5 l6 l7 l8 m v m' → fs_f m m') ∧ (∀ (l5 : Int) (l6 : Int) (l7 : Int) (l8 : Int) (m : dc_M) (v : Int) (m' : dc_M), LM_92 k1 x1 x2 40 c 54 l5 l6 l7 l8 m v m' → fs_f m m') := by
    intro c'
    induction c' with
    | zero => exact ⟨fun _ _ _ _ _ _ _ h => h.elim, fun _ _ _ _ _ _ _ h => h.elim⟩
    | succ c ih =>
      refine ⟨?_, ?_⟩
      · intro l5 l6 l7 l8 m v m' h
        replace h := lm_92_9.mp h
        rcases h with ⟨-, h⟩ | ⟨-, h⟩
        · obtain ⟨-, em⟩ := h
          rw [em]
          exact (fs_f.rf (m := m))
        · rcases h with ⟨-, h⟩ | ⟨-, h⟩
          · exact (fs_f.rf (m := m)).tr (ih.1 _ _ _ _ _ _ _ h)
          · obtain ⟨-, h⟩ := h
            rcases h with ⟨-, h⟩ | ⟨-, h⟩
            · obtain ⟨-, h⟩ := h
              exact (fs_f.rf (m := m)).tr (ih.1 _ _ _ _ _ _ _ h)
            · rcases h with ⟨-, h⟩ | ⟨-, h⟩
              · exact (fs_f.rf (m := m)).tr (ih.2 _ _ _ _ _ _ _ h)
              · obtain ⟨v1, m1, h1, h⟩ := h
                have f1 := (fs_f.rf (m := m)).tr (fs_97 h1)
                exact f1.tr (ih.2 _ _ _ _ _ _ _ h)
      · intro l5 l6 l7 l8 m v m' h
        replace h := lm_92_54.mp h
        obtain ⟨-, h⟩ := h
        rcases h with ⟨-, h⟩ | ⟨-, h⟩
        · obtain ⟨-, h⟩ := h
          obtain ⟨m1, e1, h⟩ := h
          have f1 := (fs_f.rf (m := m)).up e1 (by simp [fs_t])
          obtain ⟨-, h⟩ := h
          exact f1.tr (ih.1 _ _ _ _ _ _ _ h)
        · obtain ⟨-, h⟩ := h
          obtain ⟨-, h⟩ := h
          obtain ⟨v1, m1, h1, h⟩ := h
          have f1 := (fs_f.rf (m := m)).tr (fs_54 h1)
          obtain ⟨v2, m2, h2, h⟩ := h
          have f2 := f1.tr (fs_98 h2)
          exact f2.tr (ih.2 _ _ _ _ _ _ _ h)
  obtain ⟨c, h⟩ := h
  exact (fs_f.rf (m := m)).tr ((key c).1 _ _ _ _ _ _ _ h)
theorem fs_89 {k1 : Nat} {x1 : Int} {m : dc_M} {v : Int} {m' : dc_M} (h : D_89 k1 x1 40 m v m') : fs_f m m' := by
  have key : ∀ c : Nat, (∀ (l5 : Int) (l6 : Int) (l7 : Int) (l8 : Int) (l9 : Int) (m : dc_M) (v : Int) (m' : dc_M), LM_89 k1 x1 40 c 17 l5 l6 l7 l8 l9 m v m' → fs_f m m') ∧ (∀ (l5 : Int) (l6 : Int) (l7 : Int) (l8 : Int) (l9 : Int) (m : dc_M) (v : Int) (m' : dc_M), LM_89 k1 x1 40 c 38 l5 l6 l7 l8 l9 m v m' → fs_f m m') ∧ (∀ (l5 : Int) (l6 : Int) (l7 : Int) (l8 : Int) (l9 : Int) (m : dc_M) (v : Int) (m' : dc_M), LM_89 k1 x1 40 c 111 l5 l6 l7 l8 l9 m v m' → fs_f m m') := by
    intro c'
    induction c' with
    | zero => exact ⟨fun _ _ _ _ _ _ _ _ h => h.elim, fun _ _ _ _ _ _ _ _ h => h.elim, fun _ _ _ _ _ _ _ _ h => h.elim⟩
    | succ c ih =>
      refine ⟨?_, ?_, ?_⟩
      · intro l5 l6 l7 l8 l9 m v m' h
        replace h := lm_89_17.mp h
        rcases h with ⟨-, h⟩ | ⟨-, h⟩
        · obtain ⟨-, em⟩ := h
          rw [em]
          exact (fs_f.rf (m := m))
        · obtain ⟨-, h⟩ := h
          exact (fs_f.rf (m := m)).tr (ih.2.1 _ _ _ _ _ _ _ _ h)
      · intro l5 l6 l7 l8 l9 m v m' h
        replace h := lm_89_38.mp h
        rcases h with ⟨-, h⟩ | ⟨-, h⟩
        · rcases h with ⟨-, h⟩ | ⟨-, h⟩
          · obtain ⟨-, h⟩ := h
            obtain ⟨v1, m1, h1, h⟩ := h
            have f1 := (fs_f.rf (m := m)).tr (fs_91 h1)
            exact f1.tr (ih.2.2 _ _ _ _ _ _ _ _ h)
          · exact (fs_f.rf (m := m)).tr (ih.2.2 _ _ _ _ _ _ _ _ h)
        · obtain ⟨v1, m1, h1, h⟩ := h
          have f1 := (fs_f.rf (m := m)).tr (fs_90 h1)
          exact f1.tr (ih.2.1 _ _ _ _ _ _ _ _ h)
      · intro l5 l6 l7 l8 l9 m v m' h
        replace h := lm_89_111.mp h
        rcases h with ⟨-, h⟩ | ⟨-, h⟩
        · exact (fs_f.rf (m := m)).tr (ih.1 _ _ _ _ _ _ _ _ h)
        · obtain ⟨v1, m1, h1, h⟩ := h
          have f1 := (fs_f.rf (m := m)).tr (fs_92 h1)
          exact f1.tr (ih.2.2 _ _ _ _ _ _ _ _ h)
  obtain ⟨m1, e1, h⟩ := h
  have f1 := (fs_f.rf (m := m)).up e1 (by simp [fs_t])
  obtain ⟨m2, e2, h⟩ := h
  have f2 := f1.fi e2 (fun _ => by simp [fs_t])
  obtain ⟨c, h⟩ := h
  exact f2.tr ((key c).1 _ _ _ _ _ _ _ _ h)
def fz_t (k : Nat) (i : Int) : Prop := k = 55
def fz_f (m m' : dc_M) : Prop := ∀ (k : Nat) (i : Int), ¬ fz_t k i → m' k i = m k i
theorem fz_f.rf {m : dc_M} : fz_f m m := fun _ _ _ => rfl
theorem fz_f.tr {a b c : dc_M} (h : fz_f a b) (g : fz_f b c) : fz_f a c := fun k i z => (g k i z).trans (h k i z)
theorem fz_f.up {a m m1 : dc_M} {k : Nat} {i v : Int} (h : fz_f a m) (e : m1 = dc_up m k i v) (hx : fz_t k i) : fz_f a m1 := fun k' i' z => by
  rw [e]
  refine (if_neg (fun q => ?_)).trans (h k' i' z)
  rw [q.1, q.2] at z
  exact z hx
theorem fz_f.cp {a m m1 : dc_M} {s : Nat} {sp : Int} {d : Nat} {dp c : Int} (h : fz_f a m) (e : m1 = dc_cpy m s sp d dp c) (hx : ∀ i, fz_t d i) : fz_f a m1 := fun k' i' z => by
  rw [e]
  refine (if_neg (fun q => ?_)).trans (h k' i' z)
  rw [q.1] at z
  exact z (hx _)
theorem fz_f.fi {a m m1 : dc_M} {k : Nat} {len v : Int} (h : fz_f a m) (e : m1 = dc_fill m k len v) (hx : ∀ i, fz_t k i) : fz_f a m1 := fun k' i' z => by
  rw [e]
  refine (if_neg (fun q => ?_)).trans (h k' i' z)
  rw [q.1] at z
  exact z (hx _)
theorem fz_54 {x0 : Int} {x1 : Int} {m : dc_M} {v : Int} {m' : dc_M} (h : D_54 x0 x1 m v m') : fz_f m m' := by
  have key : ∀ c : Nat, (∀ (l2 : Int) (l3 : Int) (m : dc_M) (v : Int) (m' : dc_M), LM_54 x0 x1 c 7 l2 l3 m v m' → fz_f m m') := by
    intro c'
    induction c' with
    | zero => exact fun _ _ _ _ _ h => h.elim
    | succ c ih =>
      intro l2 l3 m v m' h
      replace h := lm_54_7.mp h
      rcases h with ⟨-, h⟩ | ⟨-, h⟩
      · obtain ⟨-, em⟩ := h
        rw [em]
        exact (fz_f.rf (m := m))
      · rcases h with ⟨-, h⟩ | ⟨-, h⟩
        · obtain ⟨-, em⟩ := h
          rw [em]
          exact (fz_f.rf (m := m))
        · exact (fz_f.rf (m := m)).tr (ih _ _ _ _ _ h)
  obtain ⟨c, h⟩ := h
  exact (fz_f.rf (m := m)).tr ((key c) _ _ _ _ _ h)
theorem fz_27 {x0 : Int} {x1 : Int} {m : dc_M} {v : Int} {m' : dc_M} (h : D_27 x0 x1 m v m') : fz_f m m' := by
  obtain ⟨-, h⟩ := h
  rcases h with ⟨-, h⟩ | ⟨-, h⟩
  · obtain ⟨-, em⟩ := h
    rw [em]
    exact (fz_f.rf (m := m))
  · obtain ⟨-, em⟩ := h
    rw [em]
    exact (fz_f.rf (m := m))
theorem fz_26 {x0 : Int} {x1 : Int} {m : dc_M} {v : Int} {m' : dc_M} (h : D_26 x0 x1 m v m') : fz_f m m' := by
  obtain ⟨-, h⟩ := h
  obtain ⟨-, em⟩ := h
  rw [em]
  exact (fz_f.rf (m := m))
theorem fz_90 {k1 : Nat} {x1 : Int} {x3 : Int} {m : dc_M} {v : Int} {m' : dc_M} (h : D_90 k1 x1 x3 m v m') : fz_f m m' := by
  have key : ∀ c : Nat, (∀ (l5 : Int) (l6 : Int) (l7 : Int) (m : dc_M) (v : Int) (m' : dc_M), LM_90 k1 x1 x3 c 36 l5 l6 l7 m v m' → fz_f m m') := by
    intro c'
    induction c' with
    | zero => exact fun _ _ _ _ _ _ h => h.elim
    | succ c ih =>
      intro l5 l6 l7 m v m' h
      replace h := lm_90_36.mp h
      obtain ⟨-, h⟩ := h
      rcases h with ⟨-, h⟩ | ⟨-, h⟩
      · obtain ⟨-, h⟩ := h
        rcases h with ⟨-, h⟩ | ⟨-, h⟩
        · obtain ⟨-, h⟩ := h
          obtain ⟨-, h⟩ := h
          obtain ⟨m1, e1, h⟩ := h
          have f1 := (fz_f.rf (m := m)).up e1 (by simp [fz_t])
          obtain ⟨-, em⟩ := h
          rw [em]
          exact f1
        · obtain ⟨v1, m1, h1, h⟩ := h
          have f1 := (fz_f.rf (m := m)).tr (fz_27 h1)
          rcases h with ⟨-, h⟩ | ⟨-, h⟩
          · obtain ⟨-, h⟩ := h
            obtain ⟨-, h⟩ := h
            obtain ⟨m2, e2, h⟩ := h
            have f2 := f1.up e2 (by simp [fz_t])
            obtain ⟨-, em⟩ := h
            rw [em]
            exact f2
          · obtain ⟨-, h⟩ := h
            obtain ⟨-, h⟩ := h
            obtain ⟨m2, e2, h⟩ := h
            have f2 := f1.up e2 (by simp [fz_t])
            obtain ⟨-, em⟩ := h
            rw [em]
            exact f2
      · obtain ⟨v1, m1, h1, h⟩ := h
        have f1 := (fz_f.rf (m := m)).tr (fz_26 h1)
        rcases h with ⟨-, h⟩ | ⟨-, h⟩
        · exact f1.tr (ih _ _ _ _ _ _ h)
        · exact f1.tr (ih _ _ _ _ _ _ h)
  obtain ⟨-, h⟩ := h
  rcases h with ⟨-, h⟩ | ⟨-, h⟩
  · rcases h with ⟨-, h⟩ | ⟨-, h⟩
    · obtain ⟨-, h⟩ := h
      rcases h with ⟨-, h⟩ | ⟨-, h⟩
      · obtain ⟨-, h⟩ := h
        obtain ⟨-, h⟩ := h
        obtain ⟨m1, e1, h⟩ := h
        have f1 := (fz_f.rf (m := m)).up e1 (by simp [fz_t])
        obtain ⟨-, em⟩ := h
        rw [em]
        exact f1
      · obtain ⟨v1, m1, h1, h⟩ := h
        have f1 := (fz_f.rf (m := m)).tr (fz_27 h1)
        rcases h with ⟨-, h⟩ | ⟨-, h⟩
        · obtain ⟨-, h⟩ := h
          obtain ⟨-, h⟩ := h
          obtain ⟨m2, e2, h⟩ := h
          have f2 := f1.up e2 (by simp [fz_t])
          obtain ⟨-, em⟩ := h
          rw [em]
          exact f2
        · obtain ⟨-, h⟩ := h
          obtain ⟨-, h⟩ := h
          obtain ⟨m2, e2, h⟩ := h
          have f2 := f1.up e2 (by simp [fz_t])
          obtain ⟨-, em⟩ := h
          rw [em]
          exact f2
    · obtain ⟨-, h⟩ := h
      obtain ⟨c, h⟩ := h
      exact (fz_f.rf (m := m)).tr ((key c) _ _ _ _ _ _ h)
  · rcases h with ⟨-, h⟩ | ⟨-, h⟩
    · obtain ⟨-, h⟩ := h
      rcases h with ⟨-, h⟩ | ⟨-, h⟩
      · obtain ⟨-, h⟩ := h
        obtain ⟨-, h⟩ := h
        obtain ⟨m1, e1, h⟩ := h
        have f1 := (fz_f.rf (m := m)).up e1 (by simp [fz_t])
        obtain ⟨-, em⟩ := h
        rw [em]
        exact f1
      · obtain ⟨v1, m1, h1, h⟩ := h
        have f1 := (fz_f.rf (m := m)).tr (fz_27 h1)
        rcases h with ⟨-, h⟩ | ⟨-, h⟩
        · obtain ⟨-, h⟩ := h
          obtain ⟨-, h⟩ := h
          obtain ⟨m2, e2, h⟩ := h
          have f2 := f1.up e2 (by simp [fz_t])
          obtain ⟨-, em⟩ := h
          rw [em]
          exact f2
        · obtain ⟨-, h⟩ := h
          obtain ⟨-, h⟩ := h
          obtain ⟨m2, e2, h⟩ := h
          have f2 := f1.up e2 (by simp [fz_t])
          obtain ⟨-, em⟩ := h
          rw [em]
          exact f2
    · obtain ⟨-, h⟩ := h
      obtain ⟨c, h⟩ := h
      exact (fz_f.rf (m := m)).tr ((key c) _ _ _ _ _ _ h)
theorem fz_91 {k1 : Nat} {x2 : Int} {x3 : Int} {m : dc_M} {v : Int} {m' : dc_M} (h : D_91 k1 x2 x3 m v m') : fz_f m m' := by
  have key : ∀ c : Nat, (∀ (l4 : Int) (l5 : Int) (m : dc_M) (v : Int) (m' : dc_M), LM_91 k1 x2 x3 c 6 l4 l5 m v m' → fz_f m m') := by
    intro c'
    induction c' with
    | zero => exact fun _ _ _ _ _ h => h.elim
    | succ c ih =>
      intro l4 l5 m v m' h
      replace h := lm_91_6.mp h
      rcases h with ⟨-, h⟩ | ⟨-, h⟩
      · obtain ⟨-, em⟩ := h
        rw [em]
        exact (fz_f.rf (m := m))
      · obtain ⟨-, h⟩ := h
        rcases h with ⟨-, h⟩ | ⟨-, h⟩
        · exact (fz_f.rf (m := m)).tr (ih _ _ _ _ _ h)
        · obtain ⟨v1, m1, h1, h⟩ := h
          have f1 := (fz_f.rf (m := m)).tr (fz_26 h1)
          obtain ⟨v2, m2, h2, h⟩ := h
          have f2 := f1.tr (fz_26 h2)
          rcases h with ⟨-, h⟩ | ⟨-, h⟩
          · exact f2.tr (ih _ _ _ _ _ h)
          · exact f2.tr (ih _ _ _ _ _ h)
  obtain ⟨c, h⟩ := h
  exact (fz_f.rf (m := m)).tr ((key c) _ _ _ _ _ h)
