/-! THE REFERENCE'S NETS -/
theorem dw {z : Int} (h1 : -2147483648 ≤ z) (h2 : z < 2147483648) : dc_w z = z := dc_w_eq ⟨h1, h2⟩
theorem ddv {x y : Int} (h : 0 ≤ x) : dc_div x y = x / y := if_pos h
theorem drm {x y : Int} (h : 0 ≤ x) : dc_rem x y = x % y := if_pos h
def r2_N (k : Nat) (E : Int → Int → Prop) (m : dc_M) : Prop := ∀ a, 0 ≤ a → a < 217 → 0 ≤ m k a ∧ m k a < 217 ∧ mp_q E a (m k a)
theorem r2_join {k : Nat} {E : Int → Int → Prop} {a b : Int} {m : dc_M} {v : Int} {m' : dc_M} (h : D_212 k 217 a b m v m') (e : mp_q E a b) (N : r2_N k E m) : r2_N k E m' ∧ (∀ (j : Nat) (i : Int), j ≠ k → m' j i = m j i) ∧ ((v = 0 ∧ m' = m ∧ m k a = m k b) ∨ v = 1) := by
  obtain ⟨⟨a0, a1⟩, ⟨b0, b1⟩, h⟩ := h
  have Na := N a a0 a1
  have Nb := N b b0 b1
  rcases h with ⟨c, -, -, h⟩ | ⟨c, ev, em⟩
  · have hab : a ≠ b := fun z => c (by rw [z])
    rcases h with ⟨d, -, -, m1, e1, -, m2, e2, ev, em⟩ | ⟨d, -, -, m1, e1, -, m2, e2, ev, em⟩
    · rw [em, e2, e1]
      refine ⟨fun x x0 x1 => ?_, fun j i hj => by rw [dc_up_k hj, dc_up_k hj], Or.inr ev⟩
      by_cases xb : x = b
      · rw [xb, dc_up_s]; exact Nb
      · rw [dc_up_i xb]
        by_cases xa : x = a
        · rw [xa, dc_up_s]; exact ⟨Nb.1, Nb.2.1, e.tr Nb.2.2⟩
        · rw [dc_up_i xa]; exact N x x0 x1
    · rw [em, e2, e1]
      refine ⟨fun x x0 x1 => ?_, fun j i hj => by rw [dc_up_k hj, dc_up_k hj], Or.inr ev⟩
      by_cases xb : x = b
      · rw [xb, dc_up_s]; exact ⟨Na.1, Na.2.1, e.sy.tr Na.2.2⟩
      · rw [dc_up_i xb]
        by_cases xa : x = a
        · rw [xa, dc_up_s]; exact Na
        · rw [dc_up_i xa]; exact N x x0 x1
  · rw [em]
    exact ⟨N, fun _ _ _ => rfl, Or.inl ⟨ev, rfl, Classical.not_not.mp c⟩⟩
def r2_Q (k : Nat) (E : Int → Int → Prop) (m0 m : dc_M) : Prop := (∀ (j : Nat) (i : Int), j ≠ k → m j i = m0 j i) ∧ r2_N k E m ∧ ∀ x y, E x y → m k x = m k y
theorem r2_Q.iff {k : Nat} {E : Int → Int → Prop} {m0 m : dc_M} (h : r2_Q k E m0 m) {a b : Int} (a0 : 0 ≤ a) (a1 : a < 217) (b0 : 0 ≤ b) (b1 : b < 217) : m k a = m k b ↔ mp_q E a b := by
  obtain ⟨-, N, q⟩ := h
  refine ⟨fun e => (N a a0 a1).2.2.tr ?_, fun e => e (fun x => m k x) q⟩
  rw [e]
  exact (N b b0 b1).2.2.sy
def r2_o (pk : Int → Prop) (p y : Int) : Prop := (pk (p / 3) ∧ y = 205 + p) ∨ (¬ pk (p / 3) ∧ y = 193 + p)
theorem r2_loop {k : Nat} (hk : k = 125 ∨ k = 126) {x1 : Int} {m0 : dc_M} {W : List (Int × Int)} {w : Int} {pk : Int → Prop} (hV : rz_V m0 0 W) (hw : m0 114 42 = w) (hp : ∀ r : Int, 0 ≤ r → r < 4 → (pk r ↔ (x1 ≠ 0 ∧ m0 129 r ≠ 0))) : ∀ c : Nat, (∀ (l3 : Int) (m : dc_M) (v : Int) (m' : dc_M), LM_211 k 217 x1 c 2 l3 0 m v m' → 0 ≤ l3 → l3 ≤ 217 → (∀ (j : Nat) (i : Int), j ≠ k → m j i = m0 j i) → (∀ a, 0 ≤ a → a < l3 → m k a = a) → r2_Q k (mp_E W w pk) m0 m') ∧
    (∀ (l3 : Int) (m : dc_M) (v : Int) (m' : dc_M), LM_211 k 217 x1 c 21 l3 0 m v m' → (∀ (j : Nat) (i : Int), j ≠ k → m j i = m0 j i) → r2_N k (mp_E W w pk) m → (l3 = 0 → ∀ x y, mp_E W w pk x y → m k x = m k y) → r2_Q k (mp_E W w pk) m0 m') ∧
    (∀ (l3 l4 : Int) (m : dc_M) (v : Int) (m' : dc_M), LM_211 k 217 x1 c 30 l3 l4 m v m' → 0 ≤ l4 → l4 ≤ 60 → (∀ (j : Nat) (i : Int), j ≠ k → m j i = m0 j i) → r2_N k (mp_E W w pk) m → (l3 = 0 → ∀ i : Nat, (i : Int) < l4 → i < W.length → (i : Int) ≠ w → m k (W.getD i (0, 0)).1 = m k (W.getD i (0, 0)).2) → r2_Q k (mp_E W w pk) m0 m') ∧
    (∀ (l3 l4 : Int) (m : dc_M) (v : Int) (m' : dc_M), LM_211 k 217 x1 c 82 l3 l4 m v m' → 0 ≤ l4 → l4 ≤ 12 → (∀ (j : Nat) (i : Int), j ≠ k → m j i = m0 j i) → r2_N k (mp_E W w pk) m → (l3 = 0 → (∀ x y, mp_W W w x y → m k x = m k y) ∧ ∀ p : Int, 0 ≤ p → p < l4 → ∀ y, r2_o pk p y → m k (181 + p) = m k y) → r2_Q k (mp_E W w pk) m0 m') := by
  have k1 : (120 : Nat) ≠ k := by omega
  have k2 : (118 : Nat) ≠ k := by omega
  have k3 : (119 : Nat) ≠ k := by omega
  have k4 : (114 : Nat) ≠ k := by omega
  have k5 : (129 : Nat) ≠ k := by omega
  obtain ⟨V1, V2, V3⟩ := hV
  intro c
  induction c with
  | zero => exact ⟨fun _ _ _ _ h => h.elim, fun _ _ _ _ h => h.elim, fun _ _ _ _ _ h => h.elim, fun _ _ _ _ _ h => h.elim⟩
  | succ c ih =>
    obtain ⟨ih2, ih21, ih30, ih82⟩ := ih
    refine ⟨?_, ?_, ?_, ?_⟩
    · intro l3 m v m' h l0 l1 fr hi
      have w1 : dc_w (l3 + 1) = l3 + 1 := dw (by omega) (by omega)
      replace h := lm_211_2.mp h
      rw [w1] at h
      rcases h with ⟨c1, h⟩ | ⟨c1, -, m1, e1, h⟩
      · refine ih21 _ m v m' h fr (fun a a0 a1 => ?_) (fun z => absurd z (by decide))
        rw [hi a a0 (by omega)]
        exact ⟨a0, a1, mp_q.rf⟩
      · refine ih2 _ m1 v m' h (by omega) (by omega) (fun j i hj => by rw [e1, dc_up_k hj]; exact fr j i hj) (fun a a0 a1 => ?_)
        rw [e1]
        by_cases z : a = l3
        · rw [z, dc_up_s]
        · rw [dc_up_i z]; exact hi a a0 (by omega)
    · intro l3 m v m' h fr N he
      replace h := lm_211_21.mp h
      rcases h with ⟨c1, ev, em⟩ | ⟨c1, h⟩
      · rw [em]
        exact ⟨fr, N, he c1⟩
      · exact ih30 _ _ m v m' h (by decide) (by decide) fr N (fun _ i hi => by exfalso; omega)
    · intro l3 l4 m v m' h l0 l1 fr N he
      have w1 : dc_w (l4 + 1) = l4 + 1 := dw (by omega) (by omega)
      have f1 : m 120 0 = (W.length : Int) := (fr 120 0 k1).trans V1
      have f2 : m 114 42 = w := (fr 114 42 k4).trans hw
      have f3 : m 118 = m0 118 := funext fun i => fr 118 i k2
      have f4 : m 119 = m0 119 := funext fun i => fr 119 i k3
      replace h := lm_211_30.mp h
      rw [w1, f1, f2, f3, f4] at h
      obtain ⟨-, h⟩ := h
      rcases h with ⟨c1, h⟩ | ⟨c1, h⟩
      · refine ih82 _ _ m v m' h (by decide) (by decide) fr N (fun z => ⟨fun x y e => ?_, fun p p0 p1 => by exfalso; omega⟩)
        obtain ⟨i, i1, i2, i3⟩ := e
        have q := he z i (by omega) i1 i2
        rw [i3] at q
        exact q
      · have hl : l4.toNat < W.length := by clear h; omega
        have el : ((l4.toNat : Nat) : Int) = l4 := by clear h; omega
        have V := V3 l4.toNat hl
        rw [show (60 : Int) * 0 + ((l4.toNat : Nat) : Int) = l4 by clear h; omega] at V
        rcases h with ⟨c2, h⟩ | ⟨c2, -, -, v2, m2, hd, h⟩
        · refine ih30 _ _ m v m' h (by omega) (by omega) fr N (fun z i h1 h2 h3 => he z i (by omega) h2 h3)
        · rw [V.1, V.2] at hd
          obtain ⟨N2, fr2, q⟩ := r2_join hd (mp_q.of (Or.inl ⟨l4.toNat, hl, by rw [el]; exact c2, rfl⟩)) N
          have fr3 : ∀ (j : Nat) (i : Int), j ≠ k → m2 j i = m0 j i := fun j i hj => (fr2 j i hj).trans (fr j i hj)
          clear hd
          rcases h with ⟨c3, h⟩ | ⟨c3, h⟩
          · rcases q with ⟨-, e2, q⟩ | q
            · rw [e2] at h
              refine ih30 _ _ m v m' h (by clear h; omega) (by clear h; omega) fr N (fun z i h1 h2 h3 => ?_)
              by_cases y : i = l4.toNat
              · rw [y]; exact q
              · exact he z i (by clear h; omega) h2 h3
            · exfalso; clear h; omega
          · exact ih30 _ _ m2 v m' h (by clear h; omega) (by clear h; omega) fr3 N2 (fun z => absurd z (by decide))
    · intro l3 l4 m v m' h l0 l1 fr N he
      have w1 : dc_w (l4 + 1) = l4 + 1 := dw (by omega) (by omega)
      have w2 : dc_w (181 + l4) = 181 + l4 := dw (by omega) (by omega)
      have w3 : dc_w (193 + l4) = 193 + l4 := dw (by omega) (by omega)
      have w4 : dc_w (205 + l4) = 205 + l4 := dw (by omega) (by omega)
      have w5 : dc_div l4 3 = l4 / 3 := ddv l0
      have f5 : m 129 = m0 129 := funext fun i => fr 129 i k5
      have g := hp (l4 / 3)
      replace h := lm_211_82.mp h
      rw [w1, w2, w3, w4, w5, f5] at h
      rcases h with ⟨c1, h⟩ | ⟨c1, h⟩
      · refine ih21 _ m v m' h fr N (fun z x y e => ?_)
        obtain ⟨q1, q2⟩ := he z
        rcases e with e | ⟨p, p0, p1, ex, e⟩
        · exact q1 x y e
        · rw [ex]; exact q2 p p0 (by clear h; omega) y e
      · have step : ∀ (y v2 : Int) (m2 : dc_M), r2_o pk l4 y → D_212 k 217 (181 + l4) y m v2 m2 → (((v2 : Int) = 0 ∧ LM_211 k 217 x1 c 82 l3 (l4 + 1) m2 v m') ∨ (¬ ((v2 : Int) = 0) ∧ LM_211 k 217 x1 c 82 1 (l4 + 1) m2 v m')) → r2_Q k (mp_E W w pk) m0 m' := by
          intro y v2 m2 ho hd h
          obtain ⟨N2, fr2, q⟩ := r2_join hd (mp_q.of (Or.inr ⟨l4, l0, by clear h hd; omega, rfl, ho⟩)) N
          have fr3 : ∀ (j : Nat) (i : Int), j ≠ k → m2 j i = m0 j i := fun j i hj => (fr2 j i hj).trans (fr j i hj)
          clear hd
          rcases h with ⟨c3, h⟩ | ⟨c3, h⟩
          · rcases q with ⟨-, e2, q⟩ | q
            · rw [e2] at h
              refine ih82 _ _ m v m' h (by clear h; omega) (by clear h; omega) fr N (fun z => ⟨(he z).1, fun p p0 p1 y2 o2 => ?_⟩)
              by_cases yy : p = l4
              · subst yy
                have : y2 = y := by
                  rcases ho with ⟨a1, a2⟩ | ⟨a1, a2⟩ <;> rcases o2 with ⟨b1, b2⟩ | ⟨b1, b2⟩
                  · rw [a2, b2]
                  · exact absurd a1 b1
                  · exact absurd b1 a1
                  · rw [a2, b2]
                rw [this]; exact q
              · exact (he z).2 p p0 (by clear h; omega) y2 o2
            · exfalso; clear h; omega
          · exact ih82 _ _ m2 v m' h (by clear h; omega) (by clear h; omega) fr3 N2 (fun z => absurd z (by decide))
        have g2 := g (by clear h; omega) (by clear h; omega)
        rcases h with ⟨c2, v2, m2, hd, h⟩ | ⟨c2, -, h⟩
        · exact step _ v2 m2 (Or.inr ⟨fun z => (g2.mp z).1 c2, rfl⟩) hd h
        · rcases h with ⟨c3, v2, m2, hd, h⟩ | ⟨c3, v2, m2, hd, h⟩
          · exact step _ v2 m2 (Or.inr ⟨fun z => (g2.mp z).2 c3, rfl⟩) hd h
          · exact step _ v2 m2 (Or.inl ⟨g2.mpr ⟨c2, c3⟩, rfl⟩) hd h
/-- nets(row, some) -/
theorem r2_nets {k : Nat} (hk : k = 125 ∨ k = 126) {x1 : Int} {m : dc_M} {W : List (Int × Int)} {w : Int} {pk : Int → Prop} (hV : rz_V m 0 W) (hw : m 114 42 = w) (hp : ∀ r : Int, 0 ≤ r → r < 4 → (pk r ↔ (x1 ≠ 0 ∧ m 129 r ≠ 0))) {v : Int} {m' : dc_M} (h : D_211 k 217 x1 m v m') : r2_Q k (mp_E W w pk) m m' := by
  obtain ⟨c, h⟩ := h
  exact (r2_loop hk hV hw hp c).1 0 m v m' h (by decide) (by decide) (fun _ _ _ => rfl) (fun a a0 a1 => by exfalso; omega)
/-! gather: how many of a NET give, and the first of them -/
def r2_I (row : Int → Int) (G : Int → Prop) (h : Int) (m : dc_M) (l : Int) : Prop := (m 128 l = 0 ∧ ∀ b, 0 ≤ b → b < h → G b → row b ≠ l) ∨ ∃ a, (0 ≤ a ∧ a < h) ∧ G a ∧ row a = l ∧ m 127 l = a ∧ (∀ b, 0 ≤ b → b < a → G b → row b ≠ l) ∧ (1 ≤ m 128 l ∧ m 128 l ≤ h) ∧ (1 < m 128 l ↔ ∃ b, a < b ∧ b < h ∧ G b ∧ row b = l)
theorem r2_I.no {row : Int → Int} {G : Int → Prop} {h : Int} {m : dc_M} {l : Int} (I : r2_I row G h m l) (n : ¬ (G h ∧ row h = l)) : r2_I row G (h + 1) m l := by
  have key : ∀ b, b < h + 1 → G b → row b = l → b < h := fun b b1 b2 b3 => by
    by_cases z : b = h
    · rw [z] at b2 b3; exact absurd ⟨b2, b3⟩ n
    · omega
  rcases I with ⟨i1, i2⟩ | ⟨a, ⟨a0, a1⟩, a2, a3, a4, a5, ⟨a6, a7⟩, a8⟩
  · exact Or.inl ⟨i1, fun b b0 b1 b2 b3 => i2 b b0 (key b b1 b2 b3) b2 b3⟩
  · refine Or.inr ⟨a, ⟨a0, by omega⟩, a2, a3, a4, a5, ⟨a6, by omega⟩, a8.trans ⟨fun ⟨b, b0, b1, b2⟩ => ⟨b, b0, by omega, b2⟩, fun ⟨b, b0, b1, b2, b3⟩ => ⟨b, b0, key b b1 b2 b3, b2, b3⟩⟩⟩
theorem r2_I.cg {row : Int → Int} {G : Int → Prop} {h : Int} {m m2 : dc_M} {l : Int} (I : r2_I row G h m l) (e1 : m2 127 l = m 127 l) (e2 : m2 128 l = m 128 l) : r2_I row G h m2 l := by
  unfold r2_I
  rw [e1, e2]
  exact I
/-- what is set apart where u gives nothing -/
def r2_G (x1 : Int) (g : Int → Int) (h : Int) : Prop := 0 ≤ g h ∧ (x1 = 0 → ¬ (61 ≤ h ∧ h ≤ 64))
theorem r2_gl {k : Nat} (hk : k = 125 ∨ k = 126) {x1 : Int} {m0 : dc_M} (hr : ∀ a, 0 ≤ a → a < 96 → 0 ≤ m0 k a ∧ m0 k a < 217) : ∀ c : Nat, (∀ (l3 : Int) (m : dc_M) (v : Int) (m' : dc_M), LM_213 k 217 x1 c 2 l3 m v m' → 0 ≤ l3 → l3 ≤ 217 → (∀ (j : Nat) (i : Int), j ≠ 127 → j ≠ 128 → m j i = m0 j i) → (∀ a, 0 ≤ a → a < l3 → m 128 a = 0) → (∀ (j : Nat) (i : Int), j ≠ 127 → j ≠ 128 → m' j i = m0 j i) ∧ ∀ l, 0 ≤ l → l < 217 → r2_I (m0 k) (r2_G x1 (m0 124)) 96 m' l) ∧
    (∀ (l3 : Int) (m : dc_M) (v : Int) (m' : dc_M), LM_213 k 217 x1 c 24 l3 m v m' → 0 ≤ l3 → l3 ≤ 96 → (∀ (j : Nat) (i : Int), j ≠ 127 → j ≠ 128 → m j i = m0 j i) → (∀ l, 0 ≤ l → l < 217 → r2_I (m0 k) (r2_G x1 (m0 124)) l3 m l) → (∀ (j : Nat) (i : Int), j ≠ 127 → j ≠ 128 → m' j i = m0 j i) ∧ ∀ l, 0 ≤ l → l < 217 → r2_I (m0 k) (r2_G x1 (m0 124)) 96 m' l) := by
  have k1 : k ≠ 127 := by omega
  have k2 : k ≠ 128 := by omega
  intro c
  induction c with
  | zero => exact ⟨fun _ _ _ _ h => h.elim, fun _ _ _ _ h => h.elim⟩
  | succ c ih =>
    obtain ⟨ih2, ih24⟩ := ih
    refine ⟨?_, ?_⟩
    · intro l3 m v m' h l0 l1 fr hi
      have w1 : dc_w (l3 + 1) = l3 + 1 := dw (by omega) (by omega)
      replace h := lm_213_2.mp h
      rw [w1] at h
      rcases h with ⟨c1, h⟩ | ⟨c1, -, m1, e1, h⟩
      · exact ih24 _ m v m' h (by decide) (by decide) fr (fun l p0 p1 => Or.inl ⟨hi l p0 (by clear h; omega), fun b b0 b1 => by exfalso; clear h; omega⟩)
      · refine ih2 _ m1 v m' h (by clear h; omega) (by clear h; omega) (fun j i h1 h2 => by rw [e1, dc_up_k h2]; exact fr j i h1 h2) (fun a a0 a1 => ?_)
        rw [e1]
        by_cases z : a = l3
        · rw [z, dc_up_s]
        · rw [dc_up_i z]; exact hi a a0 (by clear h; omega)
    · intro l3 m v m' h l0 l1 fr hi
      have w1 : dc_w (l3 + 1) = l3 + 1 := dw (by omega) (by omega)
      have f1 : m 124 = m0 124 := funext fun i => fr 124 i (by decide) (by decide)
      have f2 : m k = m0 k := funext fun i => fr k i k1 k2
      replace h := lm_213_24.mp h
      rw [w1, f1, f2] at h
      rcases h with ⟨c1, ev, em⟩ | ⟨c1, -, h⟩
      · rw [em]
        have e : l3 = 96 := by omega
        rw [e] at hi
        exact ⟨fr, hi⟩
      · -- a HUB that gives
        have yes : r2_G x1 (m0 124) l3 → ∀ (h : ((((m 128 (m0 k l3)) : Int) ≠ 0 ∧ ((0 ≤ ((m0 k l3) : Int) ∧ ((m0 k l3) : Int) < 217) ∧ ((0 ≤ ((m0 k l3) : Int) ∧ ((m0 k l3) : Int) < 217) ∧ ∃ m1, m1 = dc_up m 128 (m0 k l3) (dc_w ((m 128 (m0 k l3)) + 1)) ∧ (LM_213 k 217 x1 c 24 (l3 + 1) m1 v m')))) ∨ (¬ (((m 128 (m0 k l3)) : Int) ≠ 0) ∧ ((0 ≤ ((m0 k l3) : Int) ∧ ((m0 k l3) : Int) < 217) ∧ ∃ m1, m1 = dc_up m 127 (m0 k l3) l3 ∧ ((0 ≤ ((m0 k l3) : Int) ∧ ((m0 k l3) : Int) < 217) ∧ ((0 ≤ ((m0 k l3) : Int) ∧ ((m0 k l3) : Int) < 217) ∧ ∃ m2, m2 = dc_up m1 128 (m0 k l3) (dc_w ((m1 128 (m0 k l3)) + 1)) ∧ (LM_213 k 217 x1 c 24 (l3 + 1) m2 v m'))))))), (∀ (j : Nat) (i : Int), j ≠ 127 → j ≠ 128 → m' j i = m0 j i) ∧ ∀ l, 0 ≤ l → l < 217 → r2_I (m0 k) (r2_G x1 (m0 124)) 96 m' l := by
          intro G h
          obtain ⟨r0, r1⟩ := hr l3 l0 (by clear h; omega)
          have I0 := hi (m0 k l3) r0 r1
          rcases h with ⟨c2, -, -, m1, e1, h⟩ | ⟨c2, -, m1, e1, -, -, m2, e2, h⟩
          · rcases I0 with ⟨i1, -⟩ | ⟨a, ⟨a0, a1⟩, a2, a3, a4, a5, ⟨a6, a7⟩, a8⟩
            · exact absurd i1 c2
            · have w2 : dc_w (m 128 (m0 k l3) + 1) = m 128 (m0 k l3) + 1 := dw (by clear h; omega) (by clear h; omega)
              rw [w2] at e1
              refine ih24 _ m1 v m' h (by clear h; omega) (by clear h; omega) (fun j i h1 h2 => by rw [e1, dc_up_k h2]; exact fr j i h1 h2) (fun l p0 p1 => ?_)
              clear h
              by_cases z : l = m0 k l3
              · rw [z]
                refine Or.inr ⟨a, ⟨a0, by omega⟩, a2, a3, by rw [e1, dc_up_k (by decide)]; exact a4, a5, ?_, ?_⟩
                · rw [e1, dc_up_s]; omega
                · rw [e1, dc_up_s]
                  exact ⟨fun _ => ⟨l3, a1, by omega, G, rfl⟩, fun _ => by omega⟩
              · refine ((hi l p0 p1).no (fun y => z y.2.symm)).cg (by rw [e1, dc_up_k (by decide)]) (by rw [e1, dc_up_i z])
          · rcases I0 with ⟨i1, i2⟩ | ⟨a, ⟨a0, a1⟩, a2, a3, a4, a5, ⟨a6, a7⟩, a8⟩
            · have g1 : m1 128 (m0 k l3) = 0 := by rw [e1, dc_up_k (by decide)]; exact i1
              rw [g1] at e2
              have w2 : dc_w ((0 : Int) + 1) = 1 := dw (by decide) (by decide)
              rw [w2] at e2
              refine ih24 _ m2 v m' h (by clear h; omega) (by clear h; omega) (fun j i h1 h2 => by rw [e2, dc_up_k h2, e1, dc_up_k h1]; exact fr j i h1 h2) (fun l p0 p1 => ?_)
              clear h
              by_cases z : l = m0 k l3
              · rw [z]
                refine Or.inr ⟨l3, ⟨l0, by omega⟩, G, rfl, by rw [e2, dc_up_k (by decide), e1, dc_up_s], i2, ?_, ?_⟩
                · rw [e2, dc_up_s]; omega
                · rw [e2, dc_up_s]
                  exact ⟨fun y => absurd y (by decide), fun ⟨b, b0, b1, _⟩ => by omega⟩
              · refine ((hi l p0 p1).no (fun y => z y.2.symm)).cg (by rw [e2, dc_up_k (by decide), e1, dc_up_i z]) (by rw [e2, dc_up_i z, e1, dc_up_k (by decide)])
            · exfalso; clear h; omega
        have no : ¬ r2_G x1 (m0 124) l3 → LM_213 k 217 x1 c 24 (l3 + 1) m v m' → (∀ (j : Nat) (i : Int), j ≠ 127 → j ≠ 128 → m' j i = m0 j i) ∧ ∀ l, 0 ≤ l → l < 217 → r2_I (m0 k) (r2_G x1 (m0 124)) 96 m' l := fun G h => ih24 _ m v m' h (by omega) (by omega) fr (fun l p0 p1 => (hi l p0 p1).no (fun y => G y.1))
        rcases h with ⟨c2, h⟩ | ⟨c2, h⟩
        · exact no (fun y => by have := y.1; omega) h
        · rcases h with ⟨c3, -, -, h⟩ | ⟨c3, v2, m2, hd, h⟩
          · exact yes ⟨by omega, fun y => absurd y c3⟩ h
          · obtain ⟨e2, hd⟩ := rz_in hd
            rw [e2, f2] at h
            have c3 : x1 = 0 := Classical.not_not.mp c3
            rcases h with ⟨c4, -, -, h⟩ | ⟨c4, h⟩
            · refine yes ⟨by omega, fun _ y => ?_⟩ h
              rcases hd with ⟨-, y2⟩ | ⟨y2, -⟩
              · exact y2 ⟨y.1, y.2⟩
              · clear h; omega
            · refine no (fun y => y.2 c3 ?_) h
              rcases hd with ⟨y2, -⟩ | ⟨-, y2⟩
              · exact absurd y2 c4
              · exact y2
theorem r2_gather {k : Nat} (hk : k = 125 ∨ k = 126) {x1 : Int} {m : dc_M} (hr : ∀ a, 0 ≤ a → a < 96 → 0 ≤ m k a ∧ m k a < 217) {v : Int} {m' : dc_M} (h : D_213 k 217 x1 m v m') : (∀ (j : Nat) (i : Int), j ≠ 127 → j ≠ 128 → m' j i = m j i) ∧ ∀ l, 0 ≤ l → l < 217 → r2_I (m k) (r2_G x1 (m 124)) 96 m' l := by
  obtain ⟨c, h⟩ := h
  exact (r2_gl hk hr c).1 0 m v m' h (by decide) (by decide) (fun _ _ _ _ => rfl) (fun a a0 a1 => by exfalso; omega)
/-- the NETS of a row, and who gives in them: g is what HUBS give that count -/
def r2_S (k : Nat) (E : Int → Int → Prop) (g : Int → Int) (m : dc_M) : Prop := (∀ a, 0 ≤ a → a < 217 → 0 ≤ m k a ∧ m k a < 217) ∧ (∀ a b, 0 ≤ a → a < 217 → 0 ≤ b → b < 217 → (m k a = m k b ↔ mp_q E a b)) ∧ (∀ l, 0 ≤ l → l < 217 → r2_I (m k) (fun h => 0 ≤ g h) 96 m l) ∧ ∀ h, 0 ≤ h → h < 96 → 0 ≤ g h → m 124 h = g h
theorem r2_S.cg {k : Nat} {E : Int → Int → Prop} {g : Int → Int} {m m2 : dc_M} (S : r2_S k E g m) (hk : m2 k = m k) (e1 : m2 127 = m 127) (e2 : m2 128 = m 128) (e3 : ∀ h, 0 ≤ h → h < 96 → 0 ≤ g h → m2 124 h = m 124 h) : r2_S k E g m2 := by
  obtain ⟨s1, s2, s3, s4⟩ := S
  unfold r2_S
  rw [hk]
  exact ⟨s1, s2, fun l l0 l1 => (s3 l l0 l1).cg (by rw [e1]) (by rw [e2]), fun h h0 h1 hg => (e3 h h0 h1 hg).trans (s4 h h0 h1 hg)⟩
theorem r2_I.im {row : Int → Int} {G H : Int → Prop} {n : Int} {m : dc_M} {l : Int} (I : r2_I row G n m l) (e : ∀ h, 0 ≤ h → h < n → (G h ↔ H h)) : r2_I row H n m l := by
  rcases I with ⟨i1, i2⟩ | ⟨a, ⟨a0, a1⟩, a2, a3, a4, a5, a6, a8⟩
  · exact Or.inl ⟨i1, fun b b0 b1 b2 => i2 b b0 b1 ((e b b0 b1).mpr b2)⟩
  · refine Or.inr ⟨a, ⟨a0, a1⟩, (e a a0 a1).mp a2, a3, a4, fun b b0 b1 b2 => a5 b b0 b1 ((e b b0 (by omega)).mpr b2), a6, a8.trans ⟨fun ⟨b, b0, b1, b2⟩ => ⟨b, b0, b1, (e b (by omega) b1).mp b2.1, b2.2⟩, fun ⟨b, b0, b1, b2⟩ => ⟨b, b0, b1, (e b (by omega) b1).mpr b2.1, b2.2⟩⟩⟩
theorem r2_S.mk2 {k : Nat} (hk : k = 125 ∨ k = 126) {E : Int → Int → Prop} {x1 : Int} {m : dc_M} (h1 : ∀ a, 0 ≤ a → a < 217 → 0 ≤ m k a ∧ m k a < 217) (h2 : ∀ a b, 0 ≤ a → a < 217 → 0 ≤ b → b < 217 → (m k a = m k b ↔ mp_q E a b)) {v : Int} {m' : dc_M} (h : D_213 k 217 x1 m v m') {g : Int → Int} (hg : ∀ h, 0 ≤ h → h < 96 → (r2_G x1 (m 124) h ↔ 0 ≤ g h)) (hv : ∀ h, 0 ≤ h → h < 96 → 0 ≤ g h → m 124 h = g h) : r2_S k E g m' ∧ ∀ (j : Nat) (i : Int), j ≠ 127 → j ≠ 128 → m' j i = m j i := by
  obtain ⟨fr, I⟩ := r2_gather hk (fun a a0 a1 => h1 a a0 (by omega)) h
  have ek : m' k = m k := funext fun i => fr k i (by omega) (by omega)
  refine ⟨?_, fr⟩
  unfold r2_S
  rw [ek]
  exact ⟨h1, h2, fun l l0 l1 => (I l l0 l1).im hg, fun h h0 h1 hh => (fr 124 h (by decide) (by decide)).trans (hv h h0 h1 hh)⟩
/-- take(row, h) -/
theorem r2_take {k : Nat} {E : Int → Int → Prop} {g : Int → Int} {m : dc_M} (S : r2_S k E g m) {t : Int} {v : Int} {m' : dc_M} (h : D_214 k 217 t m v m') : m' = m ∧ v = mp_tk E g t := by
  obtain ⟨s1, s2, s3, s4⟩ := S
  obtain ⟨⟨t0, t1⟩, -, h⟩ := h
  obtain ⟨l0, l1⟩ := s1 t t0 t1
  have I := s3 (m k t) l0 l1
  rcases h with ⟨c, -, -, -, ev, em⟩ | ⟨c, ev, em⟩
  · refine ⟨em, ?_⟩
    rcases I with ⟨i1, -⟩ | ⟨a, ⟨a0, a1⟩, a2, a3, a4, a5, -, -⟩
    · exact absurd i1 c
    · rw [ev, a4, s4 a a0 a1 a2]
      refine (mp_tk_y ⟨a0, a1, ⟨a2, (s2 t a t0 t1 a0 (by omega)).mp a3.symm⟩, fun b b0 b1 b2 => a5 b b0 b1 b2.1 ?_⟩).symm
      exact ((s2 t b t0 t1 b0 (by omega)).mpr b2.2).symm
  · refine ⟨em, ?_⟩
    rcases I with ⟨i1, i2⟩ | ⟨a, ⟨a0, a1⟩, a2, a3, a4, a5, ⟨a6, -⟩, -⟩
    · rw [ev]
      refine (mp_tk_n fun b b0 b1 b2 b3 => i2 b b0 b1 b2 ?_).symm
      exact ((s2 t b t0 t1 b0 (by omega)).mpr b3).symm
    · exfalso
      have c := Classical.not_not.mp c
      omega
theorem r2_have {E : Int → Int → Prop} {g : Int → Int} {m : dc_M} (S : r2_S 126 E g m) {t : Int} {v : Int} {m' : dc_M} (h : D_215 t m v m') : m' = m ∧ v = mp_tk E g t := by
  obtain ⟨v1, m1, h1, ev, em⟩ := h
  obtain ⟨e1, e2⟩ := r2_take S h1
  exact ⟨em.trans e1, ev.trans e2⟩
/-- how many give in the NET of a HUB -/
theorem r2_S.c0 {k : Nat} {E : Int → Int → Prop} {g : Int → Int} {m : dc_M} (S : r2_S k E g m) {t : Int} (t0 : 0 ≤ t) (t1 : t < 217) : m 128 (m k t) ≤ 0 ↔ ¬ 0 ≤ mp_tk E g t := by
  obtain ⟨s1, s2, s3, s4⟩ := S
  obtain ⟨l0, l1⟩ := s1 t t0 t1
  rcases s3 (m k t) l0 l1 with ⟨i1, i2⟩ | ⟨a, ⟨a0, a1⟩, a2, a3, a4, a5, ⟨a6, -⟩, -⟩
  · have e : mp_tk E g t = -1 := mp_tk_n fun b b0 b1 b2 b3 => i2 b b0 b1 b2 ((s2 t b t0 t1 b0 (by omega)).mpr b3).symm
    rw [i1, e]
    decide
  · have e : mp_tk E g t = g a := mp_tk_y ⟨a0, a1, ⟨a2, (s2 t a t0 t1 a0 (by omega)).mp a3.symm⟩, fun b b0 b1 b2 => a5 b b0 b1 b2.1 ((s2 t b t0 t1 b0 (by omega)).mpr b2.2).symm⟩
    rw [e]
    exact ⟨fun z => by omega, fun z => absurd a2 z⟩
