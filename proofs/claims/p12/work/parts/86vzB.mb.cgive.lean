/-! THE CLASS'S CYCLE: who gives, who takes -/
def cb_N (W : List (Int × Int)) (w : Int) (m : dc_M) : Prop := c8_U m (mp_W W w) ∧ c9_W W w m ∧ c9_L m ∧ ∃ s : Nat, s < 65536 ∧ m 17 4 = (s : Int) ∧ ∀ y : Nat, y < 16 → lb_b s y ≠ 0 → ca_R W w m y
theorem ca_R.cg {W : List (Int × Int)} {w : Int} {m m2 : dc_M} {x : Nat} (h : ca_R W w m x) (f : ∀ (k : Nat) (i : Int), (k = 18 ∨ k = 20) → m2 k i = m k i) : ca_R W w m2 x := by
  have e18 : m2 18 = m 18 := funext fun i => f 18 i (Or.inl rfl)
  have e20 : m2 20 = m 20 := funext fun i => f 20 i (Or.inr rfl)
  unfold ca_R
  rw [e18, e20]
  exact h
theorem cb_N.cg {W : List (Int × Int)} {w : Int} {m m2 : dc_M} (h : cb_N W w m) (f : ∀ (k : Nat) (i : Int), (17 ≤ k ∧ k ≤ 23) → m2 k i = m k i) : cb_N W w m2 := by
  obtain ⟨h1, h2, h3, s, h4, h5, h6⟩ := h
  have e18 : m2 18 = m 18 := funext fun i => f 18 i (by omega)
  have e19 : m2 19 = m 19 := funext fun i => f 19 i (by omega)
  refine ⟨?_, ?_, h3.cg (fun k i hk => f k i (by omega)), s, h4, (f 17 4 (by omega)).trans h5, fun y y0 y1 => (h6 y y0 y1).cg (fun k i hk => f k i (by omega))⟩
  · unfold c8_U
    rw [e18, e19, f 17 2 (by omega)]
    exact h1
  · unfold c9_W
    rw [e18]
    exact h2
/-- the row of the relays x stands -/
def cb_X (W : List (Int × Int)) (w : Int) (m : dc_M) (x : Nat) : Prop := x < 16 ∧ cb_N W w m ∧ ca_R W w m x
theorem cb_X.cg {W : List (Int × Int)} {w : Int} {m m2 : dc_M} {x : Nat} (h : cb_X W w m x) (f : ∀ (k : Nat) (i : Int), (17 ≤ k ∧ k ≤ 23) → m2 k i = m k i) : cb_X W w m2 x := ⟨h.1, h.2.1.cg f, h.2.2.cg (fun k i hk => f k i (by omega))⟩
/-- the NET of a HUB -/
def cb_r (m : dc_M) (x : Nat) (h : Int) : Int := if m 18 h = -1 then -1 else m 20 (60 * (x : Int) + m 18 h)
theorem cb_r_e {m m2 : dc_M} {x : Nat} (e18 : m2 18 = m 18) (e20 : m2 20 = m 20) : cb_r m2 x = cb_r m x := by
  funext h
  unfold cb_r
  rw [e18, e20]
theorem cb_net {W : List (Int × Int)} {w : Int} {m : dc_M} {x : Nat} (X : cb_X W w m x) {t v : Int} {m' : dc_M} (h : D_73 (x : Int) t m v m') : m' = m ∧ (0 ≤ t ∧ t < 217) ∧ v = cb_r m x t := by
  obtain ⟨e, b, q⟩ := ca_net X.1 X.2.1.1 h
  refine ⟨e, b, ?_⟩
  unfold cb_r
  rcases q with ⟨q1, q2⟩ | ⟨q1, q2⟩
  · rw [if_pos q1]; exact q2
  · rw [if_neg q1]; exact q2
theorem cb_r_n {m : dc_M} {x : Nat} {t : Int} (u : m 18 t = -1) : cb_r m x t = -1 := if_pos u
theorem cb_r_y {W : List (Int × Int)} {w : Int} {m : dc_M} {x : Nat} (X : cb_X W w m x) {t : Int} (wt : nt_w (m 18) t) : 0 ≤ cb_r m x t ∧ cb_r m x t < 60 := by
  unfold cb_r
  rw [if_neg wt.2.2]
  exact X.2.2.2 t wt
theorem cb_r_q {W : List (Int × Int)} {w : Int} {m : dc_M} {x : Nat} (X : cb_X W w m x) {a b : Int} (wa : nt_w (m 18) a) (wb : nt_w (m 18) b) : cb_r m x a = cb_r m x b ↔ mp_q (mp_E W w (ca_k x)) a b := by
  unfold cb_r
  rw [if_neg wa.2.2, if_neg wb.2.2]
  exact X.2.2.1 a b wa wb
/-- a HUB without a part is alone -/
theorem cb_al {W : List (Int × Int)} {w : Int} {m : dc_M} (hw : c9_W W w m) {pk : Int → Prop} {t : Int} (t0 : 0 ≤ t) (t1 : t < 181) (u : m 18 t = -1) {b : Int} (q : mp_q (mp_E W w pk) t b) : t = b := by
  refine q.al (fun x y e => ?_)
  rcases e with e | ⟨p, p0, p1, e1, e2⟩
  · exact ⟨fun z => by rw [z] at e; exact ((hw t).mpr ⟨y, Or.inl e⟩).2.2 u, fun z => by rw [z] at e; exact ((hw t).mpr ⟨x, Or.inr e⟩).2.2 u⟩
  · exact ⟨by omega, by rcases e2 with ⟨-, e2⟩ | ⟨-, e2⟩ <;> omega⟩
/-- one that gives, and has a part -/
def cb_G (P g : Int → Int) (b : Int) : Prop := 0 ≤ g b ∧ P b ≠ -1
/-- of each NET: its first giver below h -/
def cb_I (P ρ g : Int → Int) (st h : Int) (m : dc_M) : Prop := ∀ i, 0 ≤ i → i < 60 → (m 26 i < st ∧ ∀ b, 0 ≤ b → b < h → cb_G P g b → ρ b ≠ i) ∨ (m 26 i = st ∧ ∃ a, 0 ≤ a ∧ a < h ∧ cb_G P g a ∧ ρ a = i ∧ m 27 i = a ∧ m 28 i = g a ∧ ∀ b, 0 ≤ b → b < a → cb_G P g b → ρ b ≠ i)
/-- the first two in one NET below h -/
def cb_J (P ρ g : Int → Int) (h : Int) (m : dc_M) : Prop := (m 16 9 = 217 ∧ m 16 10 = 217 ∧ ∀ a b, 0 ≤ a → a < b → b < h → cb_G P g a → cb_G P g b → ρ a ≠ ρ b) ∨ ∃ a b, m 16 9 = a ∧ m 16 10 = b ∧ (0 ≤ a ∧ a < b ∧ b < h) ∧ cb_G P g a ∧ cb_G P g b ∧ ρ a = ρ b ∧ (∀ x y, 0 ≤ x → x < a → x < y → y < h → cb_G P g x → cb_G P g y → ρ x ≠ ρ y) ∧ ∀ y, a < y → y < b → cb_G P g y → ρ a ≠ ρ y
theorem cb_I.no {P ρ g : Int → Int} {st h : Int} {m : dc_M} (I : cb_I P ρ g st h m) (n : ¬ cb_G P g h) : cb_I P ρ g st (h + 1) m := by
  have key : ∀ b, b < h + 1 → cb_G P g b → b < h := fun b b1 b2 => by
    by_cases z : b = h
    · rw [z] at b2; exact absurd b2 n
    · omega
  intro i i0 i1
  rcases I i i0 i1 with ⟨a1, a2⟩ | ⟨a1, a, a0, a3, a4⟩
  · exact Or.inl ⟨a1, fun b b0 b1 b2 => a2 b b0 (key b b1 b2) b2⟩
  · exact Or.inr ⟨a1, a, a0, by omega, a4⟩
theorem cb_J.no {P ρ g : Int → Int} {h : Int} {m : dc_M} (J : cb_J P ρ g h m) (n : ¬ cb_G P g h) : cb_J P ρ g (h + 1) m := by
  have key : ∀ b, b < h + 1 → cb_G P g b → b < h := fun b b1 b2 => by
    by_cases z : b = h
    · rw [z] at b2; exact absurd b2 n
    · omega
  rcases J with ⟨a1, a2, a3⟩ | ⟨a, b, a1, a2, a3, a4, a5, a6, a7, a8⟩
  · exact Or.inl ⟨a1, a2, fun a b a0 ab b1 ga gb => a3 a b a0 ab (key b b1 gb) ga gb⟩
  · exact Or.inr ⟨a, b, a1, a2, ⟨a3.1, a3.2.1, by omega⟩, a4, a5, a6, fun x y x0 xa xy yh gx gy => a7 x y x0 xa xy (key y yh gy) gx gy, a8⟩
def cb_f (m0 m : dc_M) : Prop := ∀ (k : Nat) (i : Int), ¬ (k = 16 ∧ (i = 9 ∨ i = 10)) → k ≠ 26 → k ≠ 27 → k ≠ 28 → m k i = m0 k i
/-- giveAll -/
theorem cb_gl {W : List (Int × Int)} {w : Int} {m0 : dc_M} {x : Nat} (X : cb_X W w m0 x) {x0 x1 : Int} {g : Int → Int} (hg : ∀ h, -1 ≤ g h) {b : Int} (hb : b ≤ 96) (ex : x1 = nt_c (nt_b (m0 18)) b) (e8 : m0 16 8 = (x : Int)) : ∀ (f c : Nat) (h : Int) (m : dc_M) (v : Int) (m' : dc_M), LM_56 x0 x1 c 2 (nt_c (nt_b (m0 18)) h) m v m' → b - h = (f : Int) → 0 ≤ h → (∀ j, h ≤ j → j < b → m0 18 j ≠ -1 → m0 24 (nt_c (nt_b (m0 18)) j) = g j) → cb_f m0 m → cb_I (m0 18) (cb_r m0 x) g (m0 16 7) h m → cb_J (m0 18) (cb_r m0 x) g h m → cb_f m0 m' ∧ cb_I (m0 18) (cb_r m0 x) g (m0 16 7) b m' ∧ cb_J (m0 18) (cb_r m0 x) g b m' := by
  intro f
  induction f with
  | zero =>
    intro c h m v m' hh hf h0 hv fr I J
    have e : h = b := by omega
    rw [e] at hh I J
    cases c with
    | zero => exact hh.elim
    | succ c =>
      replace hh := lm_56_2.mp hh
      rcases hh with ⟨-, -, em⟩ | ⟨c1, -⟩
      · rw [em]; exact ⟨fr, I, J⟩
      · exfalso; omega
  | succ f ih =>
    intro c h m v m' hh hf h0 hv fr I J
    by_cases z : m0 18 h = -1
    · have n : ¬ cb_G (m0 18) g h := fun y => y.2 z
      exact ih c (h + 1) m v m' (by rw [nt_c_n h0 (nt_b_n z)]; exact hh) (by omega) (by omega) (fun j j0 j1 j2 => hv j (by omega) j1 j2) fr (I.no n) (J.no n)
    · cases c with
      | zero => exact hh.elim
      | succ c =>
        have cy := nt_c_y (b := nt_b (m0 18)) h0 (nt_b_y z)
        have r := nt_c_r (b := nt_b (m0 18)) h0
        have r2 := nt_c_le (b := nt_b (m0 18)) (h := h + 1) (k := b) (by omega) (by omega)
        have w1 : dc_w (nt_c (nt_b (m0 18)) h + 1) = nt_c (nt_b (m0 18)) (h + 1) := by rw [dw (by omega) (by omega), cy]
        have wh : nt_w (m0 18) h := ⟨h0, by omega, z⟩
        have g24 : m 24 (nt_c (nt_b (m0 18)) h) = g h := (fr 24 _ (by omega) (by decide) (by decide) (by decide)).trans (hv h (Int.le_refl h) (by omega) z)
        have g21 : m 21 (nt_c (nt_b (m0 18)) h) = h := (fr 21 _ (by omega) (by decide) (by decide) (by decide)).trans (X.2.1.2.2.1.2.2.2.1 h h0 (by omega) z)
        have g8 : m 16 8 = (x : Int) := (fr 16 8 (by omega) (by decide) (by decide) (by decide)).trans e8
        have g7 : m 16 7 = m0 16 7 := fr 16 7 (by omega) (by decide) (by decide) (by decide)
        have Xm : cb_X W w m x := X.cg (fun k i hk => fr k i (by omega) (by omega) (by omega) (by omega))
        have er : cb_r m x = cb_r m0 x := cb_r_e (funext fun i => fr 18 i (by omega) (by decide) (by decide) (by decide)) (funext fun i => fr 20 i (by omega) (by decide) (by decide) (by decide))
        have hgh := hg h
        have hv2 : ∀ j, h + 1 ≤ j → j < b → m0 18 j ≠ -1 → m0 24 (nt_c (nt_b (m0 18)) j) = g j := fun j j0 j1 j2 => hv j (by omega) j1 j2
        replace hh := lm_56_2.mp hh
        rw [w1, g24, g21, g8] at hh
        rcases hh with ⟨c1, -⟩ | ⟨c1, -, -, hh⟩
        · exfalso; omega
        · rcases hh with ⟨c2, v2, m2, hd, hh⟩ | ⟨c2, hh⟩
          · obtain ⟨e2, -, ev2⟩ := cb_net Xm hd
            clear hd
            rw [er] at ev2
            have ry := cb_r_y X wh
            have G : cb_G (m0 18) g h := ⟨by clear hh; omega, z⟩
            rw [e2] at hh
            rcases hh with ⟨d, -⟩ | ⟨-, -, hh⟩
            · exfalso; omega
            · rw [g7, ev2] at hh
              rcases I (cb_r m0 x h) ry.1 ry.2 with ⟨i1, i2⟩ | ⟨i1, a, a0, a1, a2, a3, a4, a5, a6⟩
              · -- the NET has no giver yet
                rcases hh with ⟨d, -⟩ | ⟨-, -, m3, e3, -, m4, e4, -, -, m5, e5, hh⟩
                · exact absurd d (Int.ne_of_lt i1)
                · have g4 : m4 24 (nt_c (nt_b (m0 18)) h) = g h := by rw [e4, dc_up_k (by decide), e3, dc_up_k (by decide)]; exact g24
                  rw [g4] at e5
                  have f5 : ∀ (k : Nat) (i : Int), k ≠ 26 → k ≠ 27 → k ≠ 28 → m5 k i = m k i := fun k i z1 z2 z3 => by rw [e5, dc_up_k z3, e4, dc_up_k z2, e3, dc_up_k z1]
                  refine ih c (h + 1) m5 v m' hh (by clear hh; omega) (by clear hh; omega) hv2 (fun k i z1 z2 z3 z4 => (f5 k i z2 z3 z4).trans (fr k i z1 z2 z3 z4)) (fun i j0 j1 => ?_) ?_
                  · by_cases y : i = cb_r m0 x h
                    · refine Or.inr ⟨?_, h, h0, by clear hh; omega, G, y.symm, ?_, ?_, fun q q0 q1 qG => by rw [y]; exact i2 q q0 q1 qG⟩
                      · rw [e5, dc_up_k (by decide), e4, dc_up_k (by decide), e3, y, dc_up_s]
                      · rw [e5, dc_up_k (by decide), e4, y, dc_up_s]
                      · rw [e5, y, dc_up_s]
                    · have k26 : m5 26 i = m 26 i := by rw [e5, dc_up_k (by decide), e4, dc_up_k (by decide), e3, dc_up_i y]
                      have k27 : m5 27 i = m 27 i := by rw [e5, dc_up_k (by decide), e4, dc_up_i y, e3, dc_up_k (by decide)]
                      have k28 : m5 28 i = m 28 i := by rw [e5, dc_up_i y, e4, dc_up_k (by decide), e3, dc_up_k (by decide)]
                      rw [k26, k27, k28]
                      rcases I i j0 j1 with ⟨b1, b2⟩ | ⟨b1, q, q0, q1, q2⟩
                      · refine Or.inl ⟨b1, fun q q0 q1 qG => ?_⟩
                        by_cases yy : q = h
                        · rw [yy]; exact fun e => y e.symm
                        · exact b2 q q0 (by clear hh; omega) qG
                      · exact Or.inr ⟨b1, q, q0, by clear hh; omega, q2⟩
                  · have k9 : m5 16 9 = m 16 9 := f5 16 9 (by decide) (by decide) (by decide)
                    have k10 : m5 16 10 = m 16 10 := f5 16 10 (by decide) (by decide) (by decide)
                    have nn : ∀ q, 0 ≤ q → q < h → cb_G (m0 18) g q → cb_r m0 x q ≠ cb_r m0 x h := fun q q0 q1 qG => i2 q q0 q1 qG
                    unfold cb_J
                    rw [k9, k10]
                    rcases J with ⟨b1, b2, b3⟩ | ⟨p, q, b1, b2, b3, b4, b5, b6, b7, b8⟩
                    · refine Or.inl ⟨b1, b2, fun p q p0 pq q1 pG qG => ?_⟩
                      by_cases yy : q = h
                      · rw [yy]; exact nn p p0 (by clear hh; omega) pG
                      · exact b3 p q p0 pq (by clear hh; omega) pG qG
                    · refine Or.inr ⟨p, q, b1, b2, ⟨b3.1, b3.2.1, by clear hh; omega⟩, b4, b5, b6, fun s t s0 s1 st t1 sG tG => ?_, b8⟩
                      by_cases yy : t = h
                      · rw [yy]; exact nn s s0 (by clear hh; omega) sG
                      · exact b7 s t s0 s1 st (by clear hh; omega) sG tG
              · -- it has one: a
                have I2 : cb_I (m0 18) (cb_r m0 x) g (m0 16 7) (h + 1) m := fun i j0 j1 => by
                  rcases I i j0 j1 with ⟨b1, b2⟩ | ⟨b1, q, q0, q1, q2⟩
                  · refine Or.inl ⟨b1, fun q q0 q1 qG => ?_⟩
                    by_cases yy : q = h
                    · rw [yy]
                      intro e
                      rw [← e] at b1
                      exact absurd i1 (Int.ne_of_lt b1)
                    · exact b2 q q0 (by clear hh; omega) qG
                  · exact Or.inr ⟨b1, q, q0, by clear hh; omega, q2⟩
                rcases hh with ⟨-, hh⟩ | ⟨d, -⟩
                · rcases hh with ⟨d, -⟩ | ⟨-, -, hh⟩
                  · exfalso; omega
                  · rw [a4] at hh
                    rcases hh with ⟨d, hh⟩ | ⟨d, -, m3, e3, m4, e4, hh⟩
                    · -- an earlier two stay
                      refine ih c (h + 1) m v m' hh (by clear hh; omega) (by clear hh; omega) hv2 fr I2 ?_
                      rcases J with ⟨b1, b2, b3⟩ | ⟨p, q, b1, b2, b3, b4, b5, b6, b7, b8⟩
                      · exfalso; clear hh; omega
                      · refine Or.inr ⟨p, q, b1, b2, ⟨b3.1, b3.2.1, by clear hh; omega⟩, b4, b5, b6, fun s t s0 s1 st t1 sG tG => ?_, b8⟩
                        by_cases yy : t = h
                        · rw [yy]; exact a6 s s0 (by clear hh; omega) sG
                        · exact b7 s t s0 s1 st (by clear hh; omega) sG tG
                    · -- a and h are the first two now
                      have f4 : ∀ (k : Nat) (i : Int), ¬ (k = 16 ∧ (i = 9 ∨ i = 10)) → m4 k i = m k i := fun k i z1 => by
                        rw [e4]
                        refine (if_neg (fun y => z1 ⟨y.1, Or.inr y.2⟩)).trans ?_
                        rw [e3]
                        exact if_neg (fun y => z1 ⟨y.1, Or.inl y.2⟩)
                      refine ih c (h + 1) m4 v m' hh (by clear hh; omega) (by clear hh; omega) hv2 (fun k i z1 z2 z3 z4 => (f4 k i z1).trans (fr k i z1 z2 z3 z4)) (fun i j0 j1 => ?_) ?_
                      · rw [f4 26 i (by omega), f4 27 i (by omega), f4 28 i (by omega)]
                        exact I2 i j0 j1
                      · have noP : ∀ s t, 0 ≤ s → s < a → s < t → t < h → cb_G (m0 18) g s → cb_G (m0 18) g t → cb_r m0 x s ≠ cb_r m0 x t := fun s t s0 s1 st t1 sG tG => by
                          rcases J with ⟨-, -, b3⟩ | ⟨p, q, b1, -, b3, -, -, -, b7, -⟩
                          · exact b3 s t s0 st t1 sG tG
                          · exact b7 s t s0 (by clear hh; omega) st t1 sG tG
                        have noQ : ∀ t, a < t → t < h → cb_G (m0 18) g t → cb_r m0 x a ≠ cb_r m0 x t := fun t t0 t1 tG => by
                          rcases J with ⟨-, -, b3⟩ | ⟨p, q, b1, -, b3, -, -, -, b7, -⟩
                          · exact b3 a t a0 t0 t1 a2 tG
                          · exact b7 a t a0 (by clear hh; omega) t0 t1 a2 tG
                        refine Or.inr ⟨a, h, ?_, ?_, ⟨a0, a1, by clear hh; omega⟩, a2, G, a3, fun s t s0 s1 st t1 sG tG => ?_, noQ⟩
                        · rw [e4, dc_up_i (by decide), e3, dc_up_s]
                        · rw [e4, dc_up_s]
                        · by_cases yy : t = h
                          · rw [yy]; exact a6 s s0 s1 sG
                          · exact noP s t s0 s1 st (by clear hh; omega) sG tG
                · exact absurd i1 d
          · have n : ¬ cb_G (m0 18) g h := fun y => by have := y.1; clear hh; omega
            exact ih c (h + 1) m v m' hh (by clear hh; omega) (by clear hh; omega) hv2 fr (I.no n) (J.no n)
/-- who gives counts for it -/
theorem cb_gw {W : List (Int × Int)} {w : Int} {m : dc_M} (hw : c9_W W w m) {pk : Int → Prop} {t b : Int} (b0 : 0 ≤ b) (b1 : b < 96) (ne : t ≠ b) (q : mp_q (mp_E W w pk) t b) : m 18 b ≠ -1 := fun z => ne (cb_al hw b0 (by omega) z q.sy).symm
/-- look(hub) -/
theorem cb_look {W : List (Int × Int)} {w : Int} {m0 : dc_M} {x : Nat} (X : cb_X W w m0 x) {g : Int → Int} {h : Int} {m : dc_M} (f : cb_f m0 m) (e8 : m0 16 8 = (x : Int)) (I : cb_I (m0 18) (cb_r m0 x) g (m0 16 7) h m) (h96 : h ≤ 96) (hh : ∀ b, h ≤ b → b < 96 → g b < 0) {t : Int} (t0 : 96 ≤ t) (t1 : t < 181) {v : Int} {m' : dc_M} (hd : D_57 t m v m') : m' = m ∧ v = mp_tk (mp_E W w (ca_k x)) g t := by
  have Xm : cb_X W w m x := X.cg (fun k i hk => f k i (by omega) (by omega) (by omega) (by omega))
  have er : cb_r m x = cb_r m0 x := cb_r_e (funext fun i => f 18 i (by omega) (by decide) (by decide) (by decide)) (funext fun i => f 20 i (by omega) (by decide) (by decide) (by decide))
  have g8 : m 16 8 = (x : Int) := (f 16 8 (by omega) (by decide) (by decide) (by decide)).trans e8
  have g7 : m 16 7 = m0 16 7 := f 16 7 (by omega) (by decide) (by decide) (by decide)
  have hw := X.2.1.2.1
  obtain ⟨v1, m1, h1, hd⟩ := hd
  rw [g8] at h1
  obtain ⟨e1, -, ev⟩ := cb_net Xm h1
  clear h1
  rw [e1, g7] at hd
  rw [er] at ev
  by_cases z : m0 18 t = -1
  · rw [cb_r_n z] at ev
    rcases hd with ⟨-, ev2, em⟩ | ⟨d, -⟩
    · refine ⟨em, ev2.trans (mp_tk_n (fun b b0 b1 b2 b3 => ?_)).symm⟩
      have := cb_al hw (by omega) t1 z b3
      omega
    · exact absurd ev d
  · have wt : nt_w (m0 18) t := ⟨by omega, by omega, z⟩
    have ry := cb_r_y X wt
    have wb : ∀ b, 0 ≤ b → b < 96 → mp_q (mp_E W w (ca_k x)) t b → nt_w (m0 18) b := fun b b0 b1 q => ⟨b0, by omega, cb_gw hw b0 b1 (by omega) q⟩
    rcases hd with ⟨d, -⟩ | ⟨-, -, hd⟩
    · exfalso; omega
    · rw [ev] at hd
      rcases I _ ry.1 ry.2 with ⟨i1, i2⟩ | ⟨i1, a, a0, a1, a2, a3, a4, a5, a6⟩
      · rcases hd with ⟨-, ev2, em⟩ | ⟨d, -⟩
        · refine ⟨em, ev2.trans (mp_tk_n (fun b b0 b1 b2 b3 => ?_)).symm⟩
          have w2 := wb b b0 b1 b3
          refine i2 b b0 ?_ ⟨b2, w2.2.2⟩ ((cb_r_q X wt w2).mpr b3).symm
          by_cases y : b < h
          · exact y
          · have := hh b (by omega) b1; omega
        · exact absurd (Int.ne_of_lt i1) d
      · rcases hd with ⟨d, -⟩ | ⟨-, -, ev2, em⟩
        · exact absurd i1 d
        · refine ⟨em, ?_⟩
          rw [ev2, a5]
          have wa : nt_w (m0 18) a := ⟨a0, by omega, a2.2⟩
          refine (mp_tk_y ⟨a0, by omega, ⟨a2.1, (cb_r_q X wt wa).mp a3.symm⟩, fun b b0 b1 b2 => ?_⟩).symm
          have w2 := wb b b0 (by omega) b2.2
          exact a6 b b0 b1 ⟨b2.1, w2.2.2⟩ ((cb_r_q X wt w2).mpr b2.2).symm
/-- whether it JAMS -/
theorem cb_jam {W : List (Int × Int)} {w : Int} {m0 : dc_M} {x : Nat} (X : cb_X W w m0 x) {g : Int → Int} {h : Int} {m : dc_M} (J : cb_J (m0 18) (cb_r m0 x) g h m) (h96 : h ≤ 96) (hh : ∀ b, h ≤ b → b < 96 → g b < 0) : (m 16 9 = 217 ∧ mp_jm (mp_E W w (ca_k x)) g = none) ∨ ∃ a b, m 16 9 = a ∧ m 16 10 = b ∧ a ≠ 217 ∧ mp_jm (mp_E W w (ca_k x)) g = some (a, b) := by
  have hw := X.2.1.2.1
  have lt : ∀ b, 0 ≤ b → b < 96 → 0 ≤ g b → b < h := fun b b0 b1 b2 => by
    by_cases y : b < h
    · exact y
    · have := hh b (by omega) b1; omega
  have wd : ∀ a b, 0 ≤ a → a < b → b < 96 → mp_q (mp_E W w (ca_k x)) a b → nt_w (m0 18) a ∧ nt_w (m0 18) b := fun a b a0 ab b1 q => ⟨⟨a0, by omega, cb_gw hw a0 (by omega) (by omega) q.sy⟩, ⟨by omega, by omega, cb_gw hw (by omega) b1 (by omega) q⟩⟩
  rcases J with ⟨b1, -, b3⟩ | ⟨a, b, b1, b2, b3, b4, b5, b6, b7, b8⟩
  · refine Or.inl ⟨b1, mp_jm_n (fun a b a0 ab b96 ga gb q => ?_)⟩
    obtain ⟨wa, wb⟩ := wd a b a0 ab b96 q
    exact b3 a b a0 ab (lt b (by omega) b96 gb) ⟨ga, wa.2.2⟩ ⟨gb, wb.2.2⟩ ((cb_r_q X wa wb).mpr q)
  · have wa : nt_w (m0 18) a := ⟨b3.1, by omega, b4.2⟩
    have wb : nt_w (m0 18) b := ⟨by omega, by omega, b5.2⟩
    have q := (cb_r_q X wa wb).mp b6
    refine Or.inr ⟨a, b, b1, b2, by omega, mp_jm_y ⟨⟨b3.1, by omega, ⟨b4.1, b, b3.2.1, by omega, b5.1, q⟩, fun s s0 s1 ⟨gs, t, t0, t1, gt, qt⟩ => ?_⟩, ⟨by omega, by omega, ⟨b3.2.1, b5.1, q⟩, fun t t0 t1 ⟨u0, u1, u2⟩ => ?_⟩⟩⟩
    · obtain ⟨ws, wt⟩ := wd s t s0 t0 t1 qt
      exact b7 s t s0 s1 t0 (lt t (by omega) t1 gt) ⟨gs, ws.2.2⟩ ⟨gt, wt.2.2⟩ ((cb_r_q X ws wt).mpr qt)
    · obtain ⟨-, wt⟩ := wd a t b3.1 u0 (by omega) u2
      exact b8 t u0 t1 ⟨u1, wt.2.2⟩ ((cb_r_q X wa wt).mpr u2)
