/-! THE REFERENCE reads a board's text as 8j to 8l say -/
/-- all but these fields of the reference stay -/
def rz_f (L : List Int) (m m' : dc_M) : Prop := ∀ (k : Nat) (i : Int), (k ≠ 114 ∨ i ∉ L) → m' k i = m k i
theorem rz_f.rf {L : List Int} {m : dc_M} : rz_f L m m := fun _ _ _ => rfl
theorem rz_f.tr {L : List Int} {a b c : dc_M} (h : rz_f L a b) (g : rz_f L b c) : rz_f L a c := fun k i z => (g k i z).trans (h k i z)
theorem rz_f.mo {L L' : List Int} {a b : dc_M} (h : rz_f L a b) (s : ∀ i, i ∈ L → i ∈ L') : rz_f L' a b := fun k i z => h k i (by
  rcases z with z | z
  · exact Or.inl z
  · exact Or.inr (fun y => z (s i y)))
theorem rz_f.up {L : List Int} {m : dc_M} {j v : Int} (hj : j ∈ L) : rz_f L m (dc_up m 114 j v) := fun k i z => if_neg (fun y => by
  rcases z with z | z
  · exact z y.1
  · exact z (by rw [y.2]; exact hj))
theorem rz_f.up2 {L : List Int} {a m m1 : dc_M} {j v : Int} (h : rz_f L a m) (e : m1 = dc_up m 114 j v) (hj : j ∈ L) : rz_f L a m1 := by rw [e]; exact h.tr (rz_f.up hj)
theorem rz_f.fi {L : List Int} {a b : dc_M} (h : rz_f L a b) {i : Int} (hi : i ∉ L) : b 114 i = a 114 i := h 114 i (Or.inr hi)
/-- the reference's tape, byte by byte -/
def rz_t (m : dc_M) (i : Int) : Int := sv_g (sv_u (m 115 i) &&& sv_u 255)
theorem rz_t_r {m : dc_M} {i : Int} : 0 ≤ rz_t m i ∧ rz_t m i ≤ 255 := by
  have e : sv_u 255 = 255 := by decide
  have h : sv_u (m 115 i) &&& sv_u 255 ≤ 255 := by rw [e]; exact Nat.and_le_right
  unfold rz_t sv_g
  rw [if_pos (by omega)]
  omega
theorem rz_t_f {L : List Int} {a b : dc_M} (h : rz_f L a b) (i : Int) : rz_t b i = rz_t a i := by unfold rz_t; rw [h 115 i (Or.inl (by decide))]
/-- the place, limits and bytes -/
def rz_B (m : dc_M) (t : Int → Int) (n lim : Int) : Prop := (∀ i, rz_t m i = t i) ∧ m 114 3 = n ∧ m 114 12 = lim ∧ 0 ≤ n ∧ n ≤ 740
theorem rz_B.go {L : List Int} {m m' : dc_M} {t : Int → Int} {n lim : Int} (h : rz_B m t n lim) (f : rz_f L m m') (h3 : (3 : Int) ∉ L) (h12 : (12 : Int) ∉ L) : rz_B m' t n lim := ⟨fun i => (rz_t_f f i).trans (h.1 i), (f.fi h3).trans h.2.1, (f.fi h12).trans h.2.2.1, h.2.2.2⟩
theorem rz_peek {m : dc_M} {v : Int} {m' : dc_M} (h : D_195 m v m') : m' = m ∧ ((m 114 4 ≥ m 114 3 ∧ v = -1) ∨ (m 114 4 < m 114 3 ∧ v = rz_t m (m 114 4))) := by
  rcases h with ⟨c, ev, em⟩ | ⟨c, -, ev, em⟩
  · exact ⟨em, Or.inl ⟨c, ev⟩⟩
  · exact ⟨em, Or.inr ⟨by omega, ev⟩⟩
theorem rz_small {x : Int} {m : dc_M} {v : Int} {m' : dc_M} (h : D_196 x m v m') : m' = m ∧ ((v = 0 ∧ ¬ (97 ≤ x ∧ x ≤ 122)) ∨ (v = 1 ∧ 97 ≤ x ∧ x ≤ 122)) := by
  rcases h with ⟨c, ev, em⟩ | ⟨c, h⟩
  · exact ⟨em, Or.inl ⟨ev, by omega⟩⟩
  · rcases h with ⟨c2, ev, em⟩ | ⟨c2, ev, em⟩
    · exact ⟨em, Or.inl ⟨ev, by omega⟩⟩
    · exact ⟨em, Or.inr ⟨ev, by omega, by omega⟩⟩
theorem rz_digit {x : Int} {m : dc_M} {v : Int} {m' : dc_M} (h : D_197 x m v m') : m' = m ∧ ((v = 0 ∧ ¬ (48 ≤ x ∧ x ≤ 57)) ∨ (v = 1 ∧ 48 ≤ x ∧ x ≤ 57)) := by
  rcases h with ⟨c, ev, em⟩ | ⟨c, h⟩
  · exact ⟨em, Or.inl ⟨ev, by omega⟩⟩
  · rcases h with ⟨c2, ev, em⟩ | ⟨c2, ev, em⟩
    · exact ⟨em, Or.inl ⟨ev, by omega⟩⟩
    · exact ⟨em, Or.inr ⟨ev, by omega, by omega⟩⟩
/-- signs packed as the reference packs them -/
def pz_pk (t : Int → Int) (pl : Int) : Nat → Nat
  | 0 => 0
  | s + 1 => Nat.lor (ae_lshl (pz_pk t pl s) 8) (ae_i2l (sv_u (t (pl + s))))
theorem rz_wl {t : Int → Int} {n : Int} : ∀ (c : Nat) (l1 l2 : Int) (m : dc_M) (v : Int) (m' : dc_M) (pl : Int), LM_198 c 111 l1 l2 m v m' → (∀ i, rz_t m i = t i) → m 114 3 = n → n ≤ 740 → 0 ≤ l2 → m 114 4 = pl + l2 → 0 ≤ pl → m 114 4 ≤ n → (l2 ≤ 5 → m 114 13 = (pz_pk t pl l2.toNat : Nat)) → rz_f [4, 7, 13] m m' ∧ m' 114 4 = pz_en 97 122 t n (m 114 4) ∧ m' 114 7 = (if pz_en 97 122 t n (m 114 4) - pl ≤ 5 then 1 else 4) ∧ (pz_en 97 122 t n (m 114 4) - pl ≤ 5 → m' 114 13 = (pz_pk t pl (pz_en 97 122 t n (m 114 4) - pl).toNat : Nat)) := by
  intro c
  induction c with
  | zero => intro l1 l2 m v m' pl h; exact h.elim
  | succ c ih =>
    intro l1 l2 m v m' pl h ht hn h7 h0 hp hpl hpn hk
    replace h := lm_198_111.mp h
    obtain ⟨v1, m1, hp1, v2, m2, hs, h⟩ := h
    obtain ⟨x1, y1⟩ := rz_peek hp1
    subst x1
    obtain ⟨x2, y2⟩ := rz_small hs
    subst x2
    rw [ht, hn] at y1
    rcases h with ⟨c1, h⟩ | ⟨c1, h⟩
    · have en : pz_en 97 122 t n (m2 114 4) = m2 114 4 := pz_en_n (by omega)
      rw [en]
      have el : m2 114 4 - pl = l2 := by omega
      rw [el]
      rcases h with ⟨c2, m3, e3, -, em⟩ | ⟨c2, m3, e3, -, em⟩
      · subst em
        rw [if_pos c2]
        refine ⟨rz_f.rf.up2 e3 (by decide), by rw [e3, dc_up_i (by decide)], by rw [e3, dc_up_s], fun z => by rw [e3, dc_up_i (by decide)]; exact hk z⟩
      · subst em
        rw [if_neg c2]
        refine ⟨rz_f.rf.up2 e3 (by decide), by rw [e3, dc_up_i (by decide)], by rw [e3, dc_up_s], fun z => absurd z c2⟩
    · have hlt : m2 114 4 < n ∧ 97 ≤ t (m2 114 4) ∧ t (m2 114 4) ≤ 122 ∧ v1 = t (m2 114 4) := by clear h ih; omega
      rw [pz_en_y hlt.1 ⟨hlt.2.1, hlt.2.2.1⟩]
      rcases h with ⟨c2, m3, e3, m4, e4, h⟩ | ⟨c2, v3, m3, hp3, m4, e4, m5, e5, h⟩
      · have g4 : m3 114 4 = m2 114 4 := by rw [e3, dc_up_i (by decide)]
        rw [g4, dc_w_eq (by unfold sv_I; omega)] at e4
        have k4 : m4 114 4 = m2 114 4 + 1 := by rw [e4, dc_up_s]
        have F : rz_f [4, 7, 13] m2 m4 := (rz_f.rf.up2 e3 (by decide)).up2 e4 (by decide)
        rw [dc_w_eq (z := l2 + 1) (by unfold sv_I; omega)] at h
        obtain ⟨q1, q2, q3, q4⟩ := ih l1 (l2 + 1) m4 v m' pl h (fun i => (rz_t_f F i).trans (ht i)) ((F.fi (by decide)).trans hn) h7 (by omega) (by omega) hpl (by omega) (fun z => by omega)
        rw [k4] at q2 q3 q4
        exact ⟨F.tr q1, q2, q3, q4⟩
      · obtain ⟨x3, y3⟩ := rz_peek hp3
        subst x3
        rw [ht, hn] at y3
        have g4 : m4 114 4 = m3 114 4 := by rw [e4, dc_up_i (by decide)]
        rw [g4, dc_w_eq (by unfold sv_I; omega)] at e5
        have k4 : m5 114 4 = m3 114 4 + 1 := by rw [e5, dc_up_s]
        have k13 : m5 114 13 = (pz_pk t pl (l2 + 1).toNat : Nat) := by
          rw [e5, dc_up_i (by decide), e4, dc_up_s, hk (by omega), Int.toNat_natCast, show (l2 + 1).toNat = l2.toNat + 1 by omega]
          have ev : v3 = t (pl + (l2.toNat : Int)) := by
            rw [show pl + (l2.toNat : Int) = m3 114 4 by omega]; omega
          rw [ev]
          rfl
        have F : rz_f [4, 7, 13] m3 m5 := (rz_f.rf.up2 e4 (by decide)).up2 e5 (by decide)
        rw [dc_w_eq (z := l2 + 1) (by unfold sv_I; omega)] at h
        obtain ⟨q1, q2, q3, q4⟩ := ih l1 (l2 + 1) m5 v m' pl h (fun i => (rz_t_f F i).trans (ht i)) ((F.fi (by decide)).trans hn) h7 (by omega) (by omega) hpl (by omega) (fun _ => k13)
        rw [k4] at q2 q3 q4
        exact ⟨F.tr q1, q2, q3, q4⟩
theorem rz_nl {t : Int → Int} {n : Int} : ∀ (c : Nat) (l1 l2 : Int) (m : dc_M) (v : Int) (m' : dc_M) (pl : Int), LM_198 c 190 l1 l2 m v m' → (∀ i, rz_t m i = t i) → m 114 3 = n → n ≤ 740 → 0 ≤ l2 → m 114 4 = pl + l2 → 0 ≤ pl → m 114 4 ≤ n → (l2 = 0 → m 114 9 = 0) → (l2 = 1 → m 114 9 = t pl - 48 ∧ 48 ≤ t pl ∧ t pl ≤ 57) → (l2 = 2 → m 114 9 = 10 * (t pl - 48) + (t (pl + 1) - 48)) → rz_f [4, 7, 9] m m' ∧ m' 114 4 = pz_en 48 57 t n (m 114 4) ∧ m' 114 7 = (if pz_en 48 57 t n (m 114 4) - pl ≤ 2 then 2 else 4) ∧ (pz_en 48 57 t n (m 114 4) - pl = 1 → m' 114 9 = t pl - 48) ∧ (pz_en 48 57 t n (m 114 4) - pl = 2 → m' 114 9 = 10 * (t pl - 48) + (t (pl + 1) - 48)) := by
  intro c
  induction c with
  | zero => intro l1 l2 m v m' pl h; exact h.elim
  | succ c ih =>
    intro l1 l2 m v m' pl h ht hn h7 h0 hp hpl hpn k0 k1 k2
    replace h := lm_198_190.mp h
    obtain ⟨v1, m1, hp1, v2, m2, hs, h⟩ := h
    obtain ⟨x1, y1⟩ := rz_peek hp1
    subst x1
    obtain ⟨x2, y2⟩ := rz_digit hs
    subst x2
    rw [ht, hn] at y1
    rcases h with ⟨c1, h⟩ | ⟨c1, h⟩
    · have en : pz_en 48 57 t n (m2 114 4) = m2 114 4 := pz_en_n (by omega)
      rw [en]
      have el : m2 114 4 - pl = l2 := by omega
      rw [el]
      rcases h with ⟨c2, m3, e3, -, em⟩ | ⟨c2, m3, e3, -, em⟩
      · subst em
        rw [if_pos c2]
        refine ⟨rz_f.rf.up2 e3 (by decide), by rw [e3, dc_up_i (by decide)], by rw [e3, dc_up_s], fun z => by rw [e3, dc_up_i (by decide)]; exact (k1 z).1, fun z => by rw [e3, dc_up_i (by decide)]; exact k2 z⟩
      · subst em
        rw [if_neg c2]
        refine ⟨rz_f.rf.up2 e3 (by decide), by rw [e3, dc_up_i (by decide)], by rw [e3, dc_up_s], fun z => by omega, fun z => by omega⟩
    · have hlt : m2 114 4 < n ∧ 48 ≤ t (m2 114 4) ∧ t (m2 114 4) ≤ 57 ∧ v1 = t (m2 114 4) := by clear h ih; omega
      rw [pz_en_y hlt.1 ⟨hlt.2.1, hlt.2.2.1⟩]
      rcases h with ⟨c2, m3, e3, m4, e4, h⟩ | ⟨c2, v3, m3, hp3, m4, e4, m5, e5, h⟩
      · have g4 : m3 114 4 = m2 114 4 := by rw [e3, dc_up_i (by decide)]
        rw [g4, dc_w_eq (by unfold sv_I; omega)] at e4
        have k4 : m4 114 4 = m2 114 4 + 1 := by rw [e4, dc_up_s]
        have F : rz_f [4, 7, 9] m2 m4 := (rz_f.rf.up2 e3 (by decide)).up2 e4 (by decide)
        rw [dc_w_eq (z := l2 + 1) (by unfold sv_I; omega)] at h
        obtain ⟨q1, q2, q3, q4, q5⟩ := ih l1 (l2 + 1) m4 v m' pl h (fun i => (rz_t_f F i).trans (ht i)) ((F.fi (by decide)).trans hn) h7 (by omega) (by omega) hpl (by omega) (fun z => by omega) (fun z => by omega) (fun z => by omega)
        rw [k4] at q2 q3 q4 q5
        exact ⟨F.tr q1, q2, q3, q4, q5⟩
      · obtain ⟨x3, y3⟩ := rz_peek hp3
        subst x3
        rw [ht, hn] at y3
        have g4 : m4 114 4 = m3 114 4 := by rw [e4, dc_up_i (by decide)]
        rw [g4, dc_w_eq (by unfold sv_I; omega)] at e5
        have k4 : m5 114 4 = m3 114 4 + 1 := by rw [e5, dc_up_s]
        have ev : v3 = t (m3 114 4) := by omega
        have w9 : ∀ x : Int, m3 114 9 = x → 0 ≤ x → x ≤ 9 → m5 114 9 = 10 * x + t (m3 114 4) - 48 := fun x hx a b => by
          rw [e5, dc_up_i (by decide), e4, dc_up_s, hx, ev, dc_w_eq (z := 10 * x) (by unfold sv_I; omega), dc_w_eq (z := 10 * x + t (m3 114 4)) (by unfold sv_I; omega), dc_w_eq (by unfold sv_I; omega)]
        have F : rz_f [4, 7, 9] m3 m5 := (rz_f.rf.up2 e4 (by decide)).up2 e5 (by decide)
        rw [dc_w_eq (z := l2 + 1) (by unfold sv_I; omega)] at h
        obtain ⟨q1, q2, q3, q4, q5⟩ := ih l1 (l2 + 1) m5 v m' pl h (fun i => (rz_t_f F i).trans (ht i)) ((F.fi (by decide)).trans hn) h7 (by omega) (by omega) hpl (by omega) (fun z => by omega) (fun z => by
          have z : l2 = 0 := by omega
          have := w9 0 (k0 z) (by omega) (by omega)
          have ep : m3 114 4 = pl := by omega
          rw [ep] at this hlt
          exact ⟨by omega, by omega, by omega⟩) (fun z => by
          have z : l2 = 1 := by omega
          obtain ⟨r1, r2, r3⟩ := k1 z
          have := w9 _ r1 (by omega) (by omega)
          have ep : m3 114 4 = pl + 1 := by omega
          rw [ep] at this
          omega)
        rw [k4] at q2 q3 q4 q5
        exact ⟨F.tr q1, q2, q3, q4, q5⟩
/-- the token at p is the one read last -/
def rz_T (m : dc_M) (t : Int → Int) (n lim p : Int) : Prop := m 114 7 = (if pz_k t n lim p = 0 ∧ lim < n then 4 else pz_k t n lim p) ∧ m 114 8 = pz_pl t n lim p ∧ m 114 4 = pz_nx t n lim p ∧ (pz_k t n lim p = 1 → m 114 13 = (pz_pk t (pz_pl t n lim p) (pz_nx t n lim p - pz_pl t n lim p).toNat : Nat)) ∧ ((pz_k t n lim p = 2 ∨ pz_k t n lim p = 3) → m 114 9 = pz_v t n lim p)
theorem rz_mid {t : Int → Int} {n lim : Int} {c : Nat} {m : dc_M} {v : Int} {m' : dc_M} (h : (∃ v_113 m_118, D_195 m v_113 m_118 ∧ (∃ m_140, m_140 = dc_up m_118 114 13 ((0 : Nat) : Int) ∧ (∃ m_153, m_153 = dc_up m_140 114 9 0 ∧ ((((v_113 : Int) ≥ 0 ∧ (∃ v_180 m_185, D_196 v_113 m_153 v_180 m_185 ∧ ((((v_180 : Int) = 0 ∧ (∃ v_200 m_205, D_197 v_113 m_185 v_200 m_205 ∧ ((((v_200 : Int) = 0 ∧ ((((v_113 : Int) = 45 ∧ (∃ m_237, m_237 = dc_up m_205 114 7 3 ∧ (∃ m_250, m_250 = dc_up m_237 114 9 v_113 ∧ (∃ m_273, m_273 = dc_up m_250 114 4 (dc_w ((m_250 114 4) + 1)) ∧ (v = 0 ∧ m' = m_273))))) ∨ (¬ ((v_113 : Int) = 45) ∧ ((((v_113 : Int) = 59 ∧ (∃ m_297, m_297 = dc_up m_205 114 7 3 ∧ (∃ m_310, m_310 = dc_up m_297 114 9 v_113 ∧ (∃ m_333, m_333 = dc_up m_310 114 4 (dc_w ((m_310 114 4) + 1)) ∧ (v = 0 ∧ m' = m_333))))) ∨ (¬ ((v_113 : Int) = 59) ∧ ((((v_113 : Int) ≠ 46 ∧ (∃ m_354, m_354 = dc_up m_205 114 7 4 ∧ (∃ m_367, m_367 = dc_up m_354 114 9 v_113 ∧ (∃ m_390, m_390 = dc_up m_367 114 4 (dc_w ((m_367 114 4) + 1)) ∧ (v = 0 ∧ m' = m_390))))) ∨ (¬ ((v_113 : Int) ≠ 46) ∧ (∃ m_404, m_404 = dc_up m_205 114 7 3 ∧ (∃ m_417, m_417 = dc_up m_404 114 9 v_113 ∧ (∃ m_440, m_440 = dc_up m_417 114 4 (dc_w ((m_417 114 4) + 1)) ∧ (v = 0 ∧ m' = m_440)))))))))))))) ∨ (¬ ((v_200 : Int) = 0) ∧ (LM_198  c 190 v_113 0 m_205 v m')))))) ∨ (¬ ((v_180 : Int) = 0) ∧ (LM_198  c 111 v_113 0 m_185 v m')))))) ∨ (¬ ((v_113 : Int) ≥ 0) ∧ (∃ m_454, m_454 = dc_up m_153 114 7 0 ∧ (v = 0 ∧ m' = m_454))))))))) (B : rz_B m t n lim) (h0 : 0 ≤ m 114 4) (h1 : m 114 4 ≤ n) (h8 : m 114 8 = m 114 4) (hl : n ≤ lim ∨ m 114 4 < lim) (esk : pz_sk t n (m 114 4) = m 114 4) : rz_f [4, 7, 8, 9, 13] m m' ∧ rz_T m' t n lim (m 114 4) := by
  obtain ⟨ht, hn, hlim, hn0, hn7⟩ := B
  obtain ⟨v1, m1, hp1, m2, e2, m3, e3, h⟩ := h
  obtain ⟨x1, y1⟩ := rz_peek hp1
  subst x1
  rw [hn] at y1
  have hr := rz_t_r (m := m1) (i := m1 114 4)
  rw [ht] at y1 hr
  have F3 : rz_f [4, 7, 8, 9, 13] m1 m3 := (rz_f.rf.up2 e2 (by decide)).up2 e3 (by decide)
  have k4 : m3 114 4 = m1 114 4 := by rw [e3, dc_up_i (by decide), e2, dc_up_i (by decide)]
  have k8 : m3 114 8 = m1 114 4 := by rw [e3, dc_up_i (by decide), e2, dc_up_i (by decide), h8]
  have k9 : m3 114 9 = 0 := by rw [e3, dc_up_s]
  have k13 : m3 114 13 = ((0 : Nat) : Int) := by rw [e3, dc_up_i (by decide), e2, dc_up_s]
  have k3 : m3 114 3 = n := by rw [e3, dc_up_i (by decide), e2, dc_up_i (by decide), hn]
  have kt : ∀ i, rz_t m3 i = t i := fun i => (rz_t_f F3 i).trans (ht i)
  rcases h with ⟨c1, v4, m4, hs, h⟩ | ⟨c1, m4, e4, -, em⟩
  · have hp : m1 114 4 < n ∧ v1 = t (m1 114 4) := by clear h; omega
    have hne : ¬ (n ≤ m1 114 4 ∨ lim ≤ m1 114 4) := by omega
    have hpl : pz_pl t n lim (m1 114 4) = m1 114 4 := by unfold pz_pl; rw [esk, if_neg hne]
    rw [hp.2] at hs h
    obtain ⟨x4, y4⟩ := rz_small hs
    subst x4
    rcases h with ⟨c2, v5, m5, hd, h⟩ | ⟨c2, h⟩
    · have hnl : ¬ (97 ≤ t (m1 114 4) ∧ t (m1 114 4) ≤ 122) := by omega
      obtain ⟨x5, y5⟩ := rz_digit hd
      subst x5
      rcases h with ⟨c3, h⟩ | ⟨c3, h⟩
      · have hnd : ¬ (48 ≤ t (m1 114 4) ∧ t (m1 114 4) ≤ 57) := by omega
        have hnx : pz_nx t n lim (m1 114 4) = m1 114 4 + 1 := by unfold pz_nx; rw [esk, if_neg hne, if_neg hnl, if_neg hnd]
        have hkd : pz_k t n lim (m1 114 4) = (if t (m1 114 4) = 45 ∨ t (m1 114 4) = 59 ∨ t (m1 114 4) = 46 then 3 else 4) := by unfold pz_k; rw [esk, if_neg hne, if_neg hnl, if_neg hnd]
        have hv : pz_v t n lim (m1 114 4) = t (m1 114 4) := by unfold pz_v; rw [esk, if_neg hnd]
        have fin : ∀ K : Int, (K = if t (m1 114 4) = 45 ∨ t (m1 114 4) = 59 ∨ t (m1 114 4) = 46 then 3 else 4) → (∃ m6, m6 = dc_up m5 114 7 K ∧ (∃ m7, m7 = dc_up m6 114 9 (t (m1 114 4)) ∧ (∃ m8, m8 = dc_up m7 114 4 (dc_w ((m7 114 4) + 1)) ∧ (v = 0 ∧ m' = m8)))) → rz_f [4, 7, 8, 9, 13] m1 m' ∧ rz_T m' t n lim (m1 114 4) := by
          intro K hK ⟨m6, e6, m7, e7, m8, e8, _, em⟩
          subst em
          have g4 : m7 114 4 = m1 114 4 := by rw [e7, dc_up_i (by decide), e6, dc_up_i (by decide), k4]
          rw [g4, dc_w_eq (by unfold sv_I; omega)] at e8
          have hk4 : pz_k t n lim (m1 114 4) = K := by rw [hkd, hK]
          have hK3 : K = 3 ∨ K = 4 := by rw [hK]; split; exact Or.inl rfl; exact Or.inr rfl
          refine ⟨((F3.up2 e6 (by decide)).up2 e7 (by decide)).up2 e8 (by decide), ?_, ?_, ?_, fun z => by omega, fun z => ?_⟩
          · rw [hk4, if_neg (by omega), e8, dc_up_i (by decide), e7, dc_up_i (by decide), e6, dc_up_s]
          · rw [hpl, e8, dc_up_i (by decide), e7, dc_up_i (by decide), e6, dc_up_i (by decide), k8]
          · rw [hnx, e8, dc_up_s]
          · rw [hv, e8, dc_up_i (by decide), e7, dc_up_s]
        rcases h with ⟨c4, h⟩ | ⟨c4, h⟩
        · exact fin 3 (by rw [if_pos (by omega)]) h
        · rcases h with ⟨c5, h⟩ | ⟨c5, h⟩
          · exact fin 3 (by rw [if_pos (by omega)]) h
          · rcases h with ⟨c6, h⟩ | ⟨c6, h⟩
            · exact fin 4 (by rw [if_neg (by omega)]) h
            · exact fin 3 (by rw [if_pos (by omega)]) h
      · have hdg : 48 ≤ t (m1 114 4) ∧ t (m1 114 4) ≤ 57 := by omega
        obtain ⟨q1, q2, q3, q4, q5⟩ := rz_nl c _ 0 m5 v m' (m1 114 4) h kt k3 hn7 (by omega) (by omega) h0 (by omega) (fun _ => k9) (fun z => by omega) (fun z => by omega)
        rw [k4] at q2 q3 q4 q5
        have hnx : pz_nx t n lim (m1 114 4) = pz_en 48 57 t n (m1 114 4) := by unfold pz_nx; rw [esk, if_neg hne, if_neg hnl, if_pos hdg]
        have hkd : pz_k t n lim (m1 114 4) = (if pz_en 48 57 t n (m1 114 4) - m1 114 4 ≤ 2 then 2 else 4) := by unfold pz_k; rw [esk, if_neg hne, if_neg hnl, if_pos hdg]
        have ey := pz_en_y (a := 48) (b := 57) (t := t) hp.1 hdg
        have er := pz_en_r (a := 48) (b := 57) (t := t) (p := m1 114 4 + 1) (n := n) (by omega)
        refine ⟨F3.tr (q1.mo (by decide)), ?_, ?_, q2.trans hnx.symm, fun z => ?_, fun z => ?_⟩
        · rw [hkd, q3]
          split
          · rw [if_neg (by omega)]
          · rw [if_neg (by omega)]
        · rw [hpl, q1.fi (by decide), k8]
        · exfalso
          rw [hkd] at z
          split at z <;> omega
        · unfold pz_v
          rw [esk, if_pos hdg]
          have : pz_en 48 57 t n (m1 114 4) - m1 114 4 ≤ 2 := by
            rw [hkd] at z
            split at z
            · assumption
            · omega
          by_cases hq : pz_en 48 57 t n (m1 114 4) - m1 114 4 = 1
          · rw [if_pos hq]; exact q4 hq
          · rw [if_neg hq]; exact q5 (by omega)
    · have hlt : 97 ≤ t (m1 114 4) ∧ t (m1 114 4) ≤ 122 := by omega
      obtain ⟨q1, q2, q3, q4⟩ := rz_wl c _ 0 m4 v m' (m1 114 4) h kt k3 hn7 (by omega) (by omega) h0 (by omega) (fun _ => k13)
      rw [k4] at q2 q3 q4
      have hnx : pz_nx t n lim (m1 114 4) = pz_en 97 122 t n (m1 114 4) := by unfold pz_nx; rw [esk, if_neg hne, if_pos hlt]
      have hkd : pz_k t n lim (m1 114 4) = (if pz_en 97 122 t n (m1 114 4) - m1 114 4 ≤ 5 then 1 else 4) := by unfold pz_k; rw [esk, if_neg hne, if_pos hlt]
      refine ⟨F3.tr (q1.mo (by decide)), ?_, ?_, q2.trans hnx.symm, fun z => ?_, fun z => ?_⟩
      · rw [hkd, q3]
        split
        · rw [if_neg (by omega)]
        · rw [if_neg (by omega)]
      · rw [hpl, q1.fi (by decide), k8]
      · rw [hpl, hnx]
        refine q4 ?_
        rw [hkd] at z
        split at z
        · assumption
        · omega
      · exfalso
        rw [hkd] at z
        split at z <;> omega
  · subst em
    have hp : n ≤ m1 114 4 := by omega
    have hln : ¬ lim < n := by omega
    have hk : pz_k t n lim (m1 114 4) = 0 := by unfold pz_k; rw [esk, if_pos (Or.inl hp)]
    have hpl : pz_pl t n lim (m1 114 4) = n := by unfold pz_pl; rw [esk, if_pos (Or.inl hp), if_neg hln]
    have hnx : pz_nx t n lim (m1 114 4) = m1 114 4 := by unfold pz_nx; rw [esk, if_pos (Or.inl hp)]
    refine ⟨F3.up2 e4 (by decide), ?_, ?_, ?_, fun z => by omega, fun z => by omega⟩
    · rw [hk, if_neg (by omega), e4, dc_up_s]
    · rw [hpl, e4, dc_up_i (by decide), k8]; omega
    · rw [hnx, e4, dc_up_i (by decide), k4]
theorem rz_nextl {t : Int → Int} {n lim : Int} : ∀ (c : Nat) (l1 l2 : Int) (m : dc_M) (v : Int) (m' : dc_M), LM_198 c 0 l1 l2 m v m' → rz_B m t n lim → 0 ≤ m 114 4 → m 114 4 ≤ n → rz_f [4, 7, 8, 9, 13] m m' ∧ rz_T m' t n lim (m 114 4) := by
  intro c
  induction c with
  | zero => intro l1 l2 m v m' h; exact h.elim
  | succ c ih =>
    intro l1 l2 m v m' h B h0 h1
    replace h := lm_198_0.mp h
    obtain ⟨v1, m1, hp1, h⟩ := h
    obtain ⟨x1, y1⟩ := rz_peek hp1
    subst x1
    have ht := B.1
    have hn := B.2.1
    have hlim := B.2.2.1
    have hn7 := B.2.2.2
    rw [hn, ht] at y1
    have rc0 : (∃ m2, m2 = dc_up m1 114 4 (dc_w ((m1 114 4) + 1)) ∧ LM_198 c 0 0 0 m2 v m') → (m1 114 4 < n ∧ (t (m1 114 4) = 32 ∨ t (m1 114 4) = 10)) → rz_f [4, 7, 8, 9, 13] m1 m' ∧ rz_T m' t n lim (m1 114 4) := by
      intro ⟨m2, e2, h⟩ hc
      rw [dc_w_eq (by unfold sv_I; omega)] at e2
      have k4 : m2 114 4 = m1 114 4 + 1 := by rw [e2, dc_up_s]
      have F : rz_f [4, 7, 8, 9, 13] m1 m2 := rz_f.rf.up2 e2 (by decide)
      obtain ⟨q1, q2⟩ := ih 0 0 m2 v m' h (B.go F (by decide) (by decide)) (by omega) (by omega)
      rw [k4] at q2
      refine ⟨F.tr q1, ?_⟩
      have esk : pz_sk t n (m1 114 4) = pz_sk t n (m1 114 4 + 1) := pz_sk_y hc.1 hc.2
      unfold rz_T pz_k pz_pl pz_nx pz_v at q2 ⊢
      rw [esk]
      exact q2
    rcases h with ⟨c1, h⟩ | ⟨c1, v2, m2, hp2, h⟩
    · exact rc0 h (by omega)
    · obtain ⟨x2, y2⟩ := rz_peek hp2
      subst x2
      rw [hn, ht] at y2
      rcases h with ⟨c2, m3, e3, h⟩ | ⟨c2, h⟩
      · have esk : pz_sk t n (m2 114 4) = m2 114 4 := pz_sk_n (by clear h; omega)
        have F : rz_f [4, 7, 8, 9, 13] m2 m3 := rz_f.rf.up2 e3 (by decide)
        have B3 := B.go F (by decide) (by decide)
        have k4 : m3 114 4 = m2 114 4 := by rw [e3, dc_up_i (by decide)]
        have k8 : m3 114 8 = m2 114 4 := by rw [e3, dc_up_s]
        have esk3 : pz_sk t n (m3 114 4) = m3 114 4 := by rw [k4]; exact esk
        rcases h with ⟨c3, h⟩ | ⟨c3, h⟩
        · obtain ⟨q1, q2⟩ := rz_mid (c := c) h B3 (by clear h; omega) (by clear h; omega) (by clear h; omega) (by rw [B3.2.1, B3.2.2.1] at c3; exact Or.inl c3) esk3
          rw [k4] at q2
          exact ⟨F.tr q1, q2⟩
        · rcases h with ⟨c4, h⟩ | ⟨c4, m4, e4, m5, e5, -, em⟩
          · obtain ⟨q1, q2⟩ := rz_mid (c := c) h B3 (by clear h; omega) (by clear h; omega) (by clear h; omega) (by rw [B3.2.2.1] at c4; exact Or.inr c4) esk3
            rw [k4] at q2
            exact ⟨F.tr q1, q2⟩
          · subst em
            rw [B3.2.1, B3.2.2.1] at c3
            rw [k4, B3.2.2.1] at c4
            have hge : n ≤ m2 114 4 ∨ lim ≤ m2 114 4 := Or.inr (by omega)
            have hk : pz_k t n lim (m2 114 4) = 0 := by unfold pz_k; rw [esk, if_pos hge]
            have hpl : pz_pl t n lim (m2 114 4) = lim := by unfold pz_pl; rw [esk, if_pos hge, if_pos (by omega)]
            have hnx : pz_nx t n lim (m2 114 4) = m2 114 4 := by unfold pz_nx; rw [esk, if_pos hge]
            refine ⟨(F.up2 e4 (by decide)).up2 e5 (by decide), ?_, ?_, ?_, fun z => by omega, fun z => by omega⟩
            · rw [if_pos ⟨hk, by omega⟩, e5, dc_up_s]
            · rw [hpl, e5, dc_up_i (by decide), e4, dc_up_s, B3.2.2.1]
            · rw [hnx, e5, dc_up_i (by decide), e4, dc_up_i (by decide), k4]
      · exact rc0 h (by omega)
/-- the token at p stands, and reading may go on from there -/
def rz_S (m : dc_M) (t : Int → Int) (n lim p : Int) : Prop := rz_B m t n lim ∧ rz_T m t n lim p ∧ 0 ≤ p ∧ p ≤ n
theorem rz_S_next {m : dc_M} {v : Int} {m' : dc_M} {t : Int → Int} {n lim p : Int} (h : D_198 m v m') (S : rz_S m t n lim p) : rz_f [4, 7, 8, 9, 13] m m' ∧ rz_S m' t n lim (pz_nx t n lim p) := by
  obtain ⟨B, T, p0, p1⟩ := S
  obtain ⟨c, h⟩ := h
  have r := pz_nx_r (t := t) (lim := lim) p1
  have e4 := T.2.2.1
  obtain ⟨q1, q2⟩ := rz_nextl c 0 0 m v m' h B (by rw [e4]; omega) (by rw [e4]; omega)
  rw [e4] at q2
  exact ⟨q1, B.go q1 (by decide) (by decide), q2, by omega, by omega⟩
theorem rz_S.go {L : List Int} {m m' : dc_M} {t : Int → Int} {n lim p : Int} (S : rz_S m t n lim p) (f : rz_f L m m') (h : ∀ i, i ∈ [3, 4, 7, 8, 9, 12, 13] → i ∉ L) : rz_S m' t n lim p := by
  refine ⟨S.1.go f (h 3 (by decide)) (h 12 (by decide)), ?_, S.2.2⟩
  have T := S.2.1
  unfold rz_T at T ⊢
  rw [f.fi (h 7 (by decide)), f.fi (h 8 (by decide)), f.fi (h 4 (by decide)), f.fi (h 13 (by decide)), f.fi (h 9 (by decide))]
  exact T
/-- a fault has been told -/
def rz_E (m' : dc_M) (f : Int × Int) : Prop := m' 114 10 = f.1 ∧ m' 114 11 = f.2
theorem rz_bad {x y : Int} {m : dc_M} {v : Int} {m' : dc_M} (h : D_199 x y m v m') : v = 0 ∧ rz_E m' (x, y) ∧ rz_f [10, 11] m m' := by
  obtain ⟨m1, e1, m2, e2, ev, e3⟩ := h
  subst e3
  refine ⟨ev, ⟨by rw [e2, dc_up_i (by decide), e1, dc_up_s], by rw [e2, dc_up_s]⟩, (rz_f.rf.up2 e1 (by decide)).up2 e2 (by decide)⟩
theorem rz_k {m : dc_M} {t : Int → Int} {n lim p K : Int} (T : rz_T m t n lim p) (hK : K = 1 ∨ K = 2 ∨ K = 3) : m 114 7 = K ↔ pz_k t n lim p = K := by
  rw [T.1]
  split
  · next c => omega
  · exact Iff.rfl
theorem rz_sgn {c : Int} {m : dc_M} {v : Int} {m' : dc_M} {t : Int → Int} {n lim p : Int} (h : D_200 c m v m') (S : rz_S m t n lim p) : pz_on (pz_sgn t n lim p c) (fun f => v = 0 ∧ rz_E m' f) (fun p' => v = 1 ∧ rz_f [4, 7, 8, 9, 13] m m' ∧ rz_S m' t n lim p') := by
  have T := S.2.1
  have k3 := rz_k T (K := 3) (by omega)
  unfold pz_sgn
  rcases h with ⟨c1, v1, m1, hd, ev, em⟩ | ⟨c1, h⟩
  · subst ev em
    rw [if_neg (fun z => c1 (k3.mpr z.1))]
    rw [T.2.1] at hd
    exact ⟨(rz_bad hd).1, (rz_bad hd).2.1⟩
  · have c1 : m 114 7 = 3 := by omega
    have k3 := k3.mp c1
    have e9 := T.2.2.2.2 (Or.inr k3)
    rw [e9, T.2.1] at h
    rcases h with ⟨c2, v1, m1, hd, ev, em⟩ | ⟨c2, v1, m1, hd, ev, em⟩
    · subst ev em
      rw [if_pos ⟨k3, c2⟩]
      obtain ⟨q1, q2⟩ := rz_S_next hd S
      exact ⟨rfl, q1, q2⟩
    · subst ev em
      rw [if_neg (fun z => c2 z.2)]
      exact ⟨(rz_bad hd).1, (rz_bad hd).2.1⟩
theorem rz_in {x a b : Int} {m : dc_M} {v : Int} {m' : dc_M} (h : D_188 x a b m v m') : m' = m ∧ ((v = 0 ∧ ¬ (a ≤ x ∧ x ≤ b)) ∨ (v = 1 ∧ a ≤ x ∧ x ≤ b)) := by
  rcases h with ⟨c, ev, em⟩ | ⟨c, h⟩
  · exact ⟨em, Or.inl ⟨ev, by omega⟩⟩
  · rcases h with ⟨c2, ev, em⟩ | ⟨c2, ev, em⟩
    · exact ⟨em, Or.inl ⟨ev, by omega⟩⟩
    · exact ⟨em, Or.inr ⟨ev, by omega, by omega⟩⟩
theorem rz_num {a b : Int} {m : dc_M} {v : Int} {m' : dc_M} {t : Int → Int} {n lim p : Int} (h : D_201 a b m v m') (S : rz_S m t n lim p) : pz_on (pz_num t n lim p a b) (fun f => v = 0 ∧ rz_E m' f) (fun q => v = 1 ∧ m' 114 14 = q.1 ∧ (a ≤ q.1 ∧ q.1 ≤ b) ∧ rz_f [4, 7, 8, 9, 13, 14] m m' ∧ rz_S m' t n lim q.2) := by
  have T := S.2.1
  have k2 := rz_k T (K := 2) (by omega)
  unfold pz_num
  rcases h with ⟨c1, v1, m1, hi, h⟩ | ⟨c1, v1, m1, hd, ev, em⟩
  · have c1 := k2.mp c1
    have e9 := T.2.2.2.2 (Or.inl c1)
    rw [if_pos c1]
    obtain ⟨x1, y1⟩ := rz_in hi
    subst x1
    rw [e9] at y1
    rcases h with ⟨c2, m2, e2, v3, m3, hd, ev, em⟩ | ⟨c2, v3, m3, hd, ev, em⟩
    · subst ev em
      rw [if_pos (by omega)]
      have F : rz_f [14] m1 m2 := rz_f.rf.up2 e2 (by decide)
      obtain ⟨q1, q2⟩ := rz_S_next hd (S.go F (by decide))
      refine ⟨rfl, ?_, by show a ≤ pz_v t n lim p ∧ pz_v t n lim p ≤ b; omega, (F.mo (by decide)).tr (q1.mo (by decide)), q2⟩
      show m' 114 14 = pz_v t n lim p
      rw [q1.fi (by decide), e2, dc_up_s, e9]
    · subst ev em
      rw [T.2.1] at hd
      rw [if_neg (by omega)]
      exact ⟨(rz_bad hd).1, (rz_bad hd).2.1⟩
  · subst ev em
    rw [if_neg (fun z => c1 (k2.mpr z))]
    rw [T.2.1] at hd
    exact ⟨(rz_bad hd).1, (rz_bad hd).2.1⟩
/-! words, packed -/
def pz_Kl : List Nat := [99, 97, 120, 101, 117, 116, 111, 122, 105, 1886156147, 469920281971, 427020345714, 112, 115, 27489, 27490, 98, 113, 109, 1751215220, 29283, 29294, 29300]
def pz_K (w : Nat) : Nat := pz_Kl.getD w 0
def pz_Cl : List Int := [99, 32, 32, 32, 32, 97, 32, 32, 32, 32, 120, 32, 32, 32, 32, 101, 32, 32, 32, 32, 117, 32, 32, 32, 32, 116, 32, 32, 32, 32, 111, 32, 32, 32, 32, 122, 32, 32, 32, 32, 105, 32, 32, 32, 32, 112, 108, 117, 115, 32, 109, 105, 110, 117, 115, 99, 108, 101, 97, 114, 112, 32, 32, 32, 32, 115, 32, 32, 32, 32, 107, 97, 32, 32, 32, 107, 98, 32, 32, 32, 98, 32, 32, 32, 32, 113, 32, 32, 32, 32, 109, 32, 32, 32, 32, 104, 97, 108, 116, 32, 114, 99, 32, 32, 32, 114, 110, 32, 32, 32, 114, 116, 32, 32, 32]
theorem pz_C_eq : ∀ i : Nat, i < 115 → pz_C i = pz_Cl.getD i 0 := by decide +kernel
theorem pzc_0 : pz_C 0 = 99 := (pz_C_eq 0 (by decide)).trans rfl
theorem pzc_1 : pz_C 1 = 32 := (pz_C_eq 1 (by decide)).trans rfl
theorem pzc_2 : pz_C 2 = 32 := (pz_C_eq 2 (by decide)).trans rfl
theorem pzc_3 : pz_C 3 = 32 := (pz_C_eq 3 (by decide)).trans rfl
theorem pzc_4 : pz_C 4 = 32 := (pz_C_eq 4 (by decide)).trans rfl
theorem pzc_5 : pz_C 5 = 97 := (pz_C_eq 5 (by decide)).trans rfl
theorem pzc_6 : pz_C 6 = 32 := (pz_C_eq 6 (by decide)).trans rfl
theorem pzc_7 : pz_C 7 = 32 := (pz_C_eq 7 (by decide)).trans rfl
theorem pzc_8 : pz_C 8 = 32 := (pz_C_eq 8 (by decide)).trans rfl
theorem pzc_9 : pz_C 9 = 32 := (pz_C_eq 9 (by decide)).trans rfl
theorem pzc_10 : pz_C 10 = 120 := (pz_C_eq 10 (by decide)).trans rfl
theorem pzc_11 : pz_C 11 = 32 := (pz_C_eq 11 (by decide)).trans rfl
theorem pzc_12 : pz_C 12 = 32 := (pz_C_eq 12 (by decide)).trans rfl
theorem pzc_13 : pz_C 13 = 32 := (pz_C_eq 13 (by decide)).trans rfl
theorem pzc_14 : pz_C 14 = 32 := (pz_C_eq 14 (by decide)).trans rfl
theorem pzc_15 : pz_C 15 = 101 := (pz_C_eq 15 (by decide)).trans rfl
theorem pzc_16 : pz_C 16 = 32 := (pz_C_eq 16 (by decide)).trans rfl
theorem pzc_17 : pz_C 17 = 32 := (pz_C_eq 17 (by decide)).trans rfl
theorem pzc_18 : pz_C 18 = 32 := (pz_C_eq 18 (by decide)).trans rfl
theorem pzc_19 : pz_C 19 = 32 := (pz_C_eq 19 (by decide)).trans rfl
theorem pzc_20 : pz_C 20 = 117 := (pz_C_eq 20 (by decide)).trans rfl
theorem pzc_21 : pz_C 21 = 32 := (pz_C_eq 21 (by decide)).trans rfl
theorem pzc_22 : pz_C 22 = 32 := (pz_C_eq 22 (by decide)).trans rfl
theorem pzc_23 : pz_C 23 = 32 := (pz_C_eq 23 (by decide)).trans rfl
theorem pzc_24 : pz_C 24 = 32 := (pz_C_eq 24 (by decide)).trans rfl
theorem pzc_25 : pz_C 25 = 116 := (pz_C_eq 25 (by decide)).trans rfl
theorem pzc_26 : pz_C 26 = 32 := (pz_C_eq 26 (by decide)).trans rfl
theorem pzc_27 : pz_C 27 = 32 := (pz_C_eq 27 (by decide)).trans rfl
theorem pzc_28 : pz_C 28 = 32 := (pz_C_eq 28 (by decide)).trans rfl
theorem pzc_29 : pz_C 29 = 32 := (pz_C_eq 29 (by decide)).trans rfl
theorem pzc_30 : pz_C 30 = 111 := (pz_C_eq 30 (by decide)).trans rfl
theorem pzc_31 : pz_C 31 = 32 := (pz_C_eq 31 (by decide)).trans rfl
theorem pzc_32 : pz_C 32 = 32 := (pz_C_eq 32 (by decide)).trans rfl
theorem pzc_33 : pz_C 33 = 32 := (pz_C_eq 33 (by decide)).trans rfl
theorem pzc_34 : pz_C 34 = 32 := (pz_C_eq 34 (by decide)).trans rfl
theorem pzc_35 : pz_C 35 = 122 := (pz_C_eq 35 (by decide)).trans rfl
theorem pzc_36 : pz_C 36 = 32 := (pz_C_eq 36 (by decide)).trans rfl
theorem pzc_37 : pz_C 37 = 32 := (pz_C_eq 37 (by decide)).trans rfl
theorem pzc_38 : pz_C 38 = 32 := (pz_C_eq 38 (by decide)).trans rfl
theorem pzc_39 : pz_C 39 = 32 := (pz_C_eq 39 (by decide)).trans rfl
theorem pzc_40 : pz_C 40 = 105 := (pz_C_eq 40 (by decide)).trans rfl
theorem pzc_41 : pz_C 41 = 32 := (pz_C_eq 41 (by decide)).trans rfl
theorem pzc_42 : pz_C 42 = 32 := (pz_C_eq 42 (by decide)).trans rfl
theorem pzc_43 : pz_C 43 = 32 := (pz_C_eq 43 (by decide)).trans rfl
theorem pzc_44 : pz_C 44 = 32 := (pz_C_eq 44 (by decide)).trans rfl
theorem pzc_45 : pz_C 45 = 112 := (pz_C_eq 45 (by decide)).trans rfl
theorem pzc_46 : pz_C 46 = 108 := (pz_C_eq 46 (by decide)).trans rfl
theorem pzc_47 : pz_C 47 = 117 := (pz_C_eq 47 (by decide)).trans rfl
theorem pzc_48 : pz_C 48 = 115 := (pz_C_eq 48 (by decide)).trans rfl
theorem pzc_49 : pz_C 49 = 32 := (pz_C_eq 49 (by decide)).trans rfl
theorem pzc_50 : pz_C 50 = 109 := (pz_C_eq 50 (by decide)).trans rfl
theorem pzc_51 : pz_C 51 = 105 := (pz_C_eq 51 (by decide)).trans rfl
theorem pzc_52 : pz_C 52 = 110 := (pz_C_eq 52 (by decide)).trans rfl
theorem pzc_53 : pz_C 53 = 117 := (pz_C_eq 53 (by decide)).trans rfl
theorem pzc_54 : pz_C 54 = 115 := (pz_C_eq 54 (by decide)).trans rfl
theorem pzc_55 : pz_C 55 = 99 := (pz_C_eq 55 (by decide)).trans rfl
theorem pzc_56 : pz_C 56 = 108 := (pz_C_eq 56 (by decide)).trans rfl
theorem pzc_57 : pz_C 57 = 101 := (pz_C_eq 57 (by decide)).trans rfl
theorem pzc_58 : pz_C 58 = 97 := (pz_C_eq 58 (by decide)).trans rfl
theorem pzc_59 : pz_C 59 = 114 := (pz_C_eq 59 (by decide)).trans rfl
theorem pzc_60 : pz_C 60 = 112 := (pz_C_eq 60 (by decide)).trans rfl
theorem pzc_61 : pz_C 61 = 32 := (pz_C_eq 61 (by decide)).trans rfl
theorem pzc_62 : pz_C 62 = 32 := (pz_C_eq 62 (by decide)).trans rfl
theorem pzc_63 : pz_C 63 = 32 := (pz_C_eq 63 (by decide)).trans rfl
theorem pzc_64 : pz_C 64 = 32 := (pz_C_eq 64 (by decide)).trans rfl
theorem pzc_65 : pz_C 65 = 115 := (pz_C_eq 65 (by decide)).trans rfl
theorem pzc_66 : pz_C 66 = 32 := (pz_C_eq 66 (by decide)).trans rfl
theorem pzc_67 : pz_C 67 = 32 := (pz_C_eq 67 (by decide)).trans rfl
theorem pzc_68 : pz_C 68 = 32 := (pz_C_eq 68 (by decide)).trans rfl
theorem pzc_69 : pz_C 69 = 32 := (pz_C_eq 69 (by decide)).trans rfl
theorem pzc_70 : pz_C 70 = 107 := (pz_C_eq 70 (by decide)).trans rfl
theorem pzc_71 : pz_C 71 = 97 := (pz_C_eq 71 (by decide)).trans rfl
theorem pzc_72 : pz_C 72 = 32 := (pz_C_eq 72 (by decide)).trans rfl
theorem pzc_73 : pz_C 73 = 32 := (pz_C_eq 73 (by decide)).trans rfl
theorem pzc_74 : pz_C 74 = 32 := (pz_C_eq 74 (by decide)).trans rfl
theorem pzc_75 : pz_C 75 = 107 := (pz_C_eq 75 (by decide)).trans rfl
theorem pzc_76 : pz_C 76 = 98 := (pz_C_eq 76 (by decide)).trans rfl
theorem pzc_77 : pz_C 77 = 32 := (pz_C_eq 77 (by decide)).trans rfl
theorem pzc_78 : pz_C 78 = 32 := (pz_C_eq 78 (by decide)).trans rfl
theorem pzc_79 : pz_C 79 = 32 := (pz_C_eq 79 (by decide)).trans rfl
theorem pzc_80 : pz_C 80 = 98 := (pz_C_eq 80 (by decide)).trans rfl
theorem pzc_81 : pz_C 81 = 32 := (pz_C_eq 81 (by decide)).trans rfl
theorem pzc_82 : pz_C 82 = 32 := (pz_C_eq 82 (by decide)).trans rfl
theorem pzc_83 : pz_C 83 = 32 := (pz_C_eq 83 (by decide)).trans rfl
theorem pzc_84 : pz_C 84 = 32 := (pz_C_eq 84 (by decide)).trans rfl
theorem pzc_85 : pz_C 85 = 113 := (pz_C_eq 85 (by decide)).trans rfl
theorem pzc_86 : pz_C 86 = 32 := (pz_C_eq 86 (by decide)).trans rfl
theorem pzc_87 : pz_C 87 = 32 := (pz_C_eq 87 (by decide)).trans rfl
theorem pzc_88 : pz_C 88 = 32 := (pz_C_eq 88 (by decide)).trans rfl
theorem pzc_89 : pz_C 89 = 32 := (pz_C_eq 89 (by decide)).trans rfl
theorem pzc_90 : pz_C 90 = 109 := (pz_C_eq 90 (by decide)).trans rfl
theorem pzc_91 : pz_C 91 = 32 := (pz_C_eq 91 (by decide)).trans rfl
theorem pzc_92 : pz_C 92 = 32 := (pz_C_eq 92 (by decide)).trans rfl
theorem pzc_93 : pz_C 93 = 32 := (pz_C_eq 93 (by decide)).trans rfl
theorem pzc_94 : pz_C 94 = 32 := (pz_C_eq 94 (by decide)).trans rfl
theorem pzc_95 : pz_C 95 = 104 := (pz_C_eq 95 (by decide)).trans rfl
theorem pzc_96 : pz_C 96 = 97 := (pz_C_eq 96 (by decide)).trans rfl
theorem pzc_97 : pz_C 97 = 108 := (pz_C_eq 97 (by decide)).trans rfl
theorem pzc_98 : pz_C 98 = 116 := (pz_C_eq 98 (by decide)).trans rfl
theorem pzc_99 : pz_C 99 = 32 := (pz_C_eq 99 (by decide)).trans rfl
theorem pzc_100 : pz_C 100 = 114 := (pz_C_eq 100 (by decide)).trans rfl
theorem pzc_101 : pz_C 101 = 99 := (pz_C_eq 101 (by decide)).trans rfl
theorem pzc_102 : pz_C 102 = 32 := (pz_C_eq 102 (by decide)).trans rfl
theorem pzc_103 : pz_C 103 = 32 := (pz_C_eq 103 (by decide)).trans rfl
theorem pzc_104 : pz_C 104 = 32 := (pz_C_eq 104 (by decide)).trans rfl
theorem pzc_105 : pz_C 105 = 114 := (pz_C_eq 105 (by decide)).trans rfl
theorem pzc_106 : pz_C 106 = 110 := (pz_C_eq 106 (by decide)).trans rfl
theorem pzc_107 : pz_C 107 = 32 := (pz_C_eq 107 (by decide)).trans rfl
theorem pzc_108 : pz_C 108 = 32 := (pz_C_eq 108 (by decide)).trans rfl
theorem pzc_109 : pz_C 109 = 32 := (pz_C_eq 109 (by decide)).trans rfl
theorem pzc_110 : pz_C 110 = 114 := (pz_C_eq 110 (by decide)).trans rfl
theorem pzc_111 : pz_C 111 = 116 := (pz_C_eq 111 (by decide)).trans rfl
theorem pzc_112 : pz_C 112 = 32 := (pz_C_eq 112 (by decide)).trans rfl
theorem pzc_113 : pz_C 113 = 32 := (pz_C_eq 113 (by decide)).trans rfl
theorem pzc_114 : pz_C 114 = 32 := (pz_C_eq 114 (by decide)).trans rfl
theorem pz_mk1 {c0 : Int} (b0 : 97 ≤ c0 ∧ c0 ≤ 122) : ∀ w : Nat, w < 23 → ((((1 : Nat) = 5 ∨ pz_C (5 * w + 1) = 32) ∧ pz_C (5 * w + 0) = c0) ↔ c0 = (pz_K w : Int))
  | 0, _ => by
    show (((1 : Nat) = 5 ∨ pz_C 1 = 32) ∧ pz_C 0 = c0) ↔ c0 = (99 : Int)
    rw [pzc_0, pzc_1]
    omega
  | 1, _ => by
    show (((1 : Nat) = 5 ∨ pz_C 6 = 32) ∧ pz_C 5 = c0) ↔ c0 = (97 : Int)
    rw [pzc_5, pzc_6]
    omega
  | 2, _ => by
    show (((1 : Nat) = 5 ∨ pz_C 11 = 32) ∧ pz_C 10 = c0) ↔ c0 = (120 : Int)
    rw [pzc_10, pzc_11]
    omega
  | 3, _ => by
    show (((1 : Nat) = 5 ∨ pz_C 16 = 32) ∧ pz_C 15 = c0) ↔ c0 = (101 : Int)
    rw [pzc_15, pzc_16]
    omega
  | 4, _ => by
    show (((1 : Nat) = 5 ∨ pz_C 21 = 32) ∧ pz_C 20 = c0) ↔ c0 = (117 : Int)
    rw [pzc_20, pzc_21]
    omega
  | 5, _ => by
    show (((1 : Nat) = 5 ∨ pz_C 26 = 32) ∧ pz_C 25 = c0) ↔ c0 = (116 : Int)
    rw [pzc_25, pzc_26]
    omega
  | 6, _ => by
    show (((1 : Nat) = 5 ∨ pz_C 31 = 32) ∧ pz_C 30 = c0) ↔ c0 = (111 : Int)
    rw [pzc_30, pzc_31]
    omega
  | 7, _ => by
    show (((1 : Nat) = 5 ∨ pz_C 36 = 32) ∧ pz_C 35 = c0) ↔ c0 = (122 : Int)
    rw [pzc_35, pzc_36]
    omega
  | 8, _ => by
    show (((1 : Nat) = 5 ∨ pz_C 41 = 32) ∧ pz_C 40 = c0) ↔ c0 = (105 : Int)
    rw [pzc_40, pzc_41]
    omega
  | 9, _ => by
    show (((1 : Nat) = 5 ∨ pz_C 46 = 32) ∧ pz_C 45 = c0) ↔ c0 = (1886156147 : Int)
    rw [pzc_45, pzc_46]
    omega
  | 10, _ => by
    show (((1 : Nat) = 5 ∨ pz_C 51 = 32) ∧ pz_C 50 = c0) ↔ c0 = (469920281971 : Int)
    rw [pzc_50, pzc_51]
    omega
  | 11, _ => by
    show (((1 : Nat) = 5 ∨ pz_C 56 = 32) ∧ pz_C 55 = c0) ↔ c0 = (427020345714 : Int)
    rw [pzc_55, pzc_56]
    omega
  | 12, _ => by
    show (((1 : Nat) = 5 ∨ pz_C 61 = 32) ∧ pz_C 60 = c0) ↔ c0 = (112 : Int)
    rw [pzc_60, pzc_61]
    omega
  | 13, _ => by
    show (((1 : Nat) = 5 ∨ pz_C 66 = 32) ∧ pz_C 65 = c0) ↔ c0 = (115 : Int)
    rw [pzc_65, pzc_66]
    omega
  | 14, _ => by
    show (((1 : Nat) = 5 ∨ pz_C 71 = 32) ∧ pz_C 70 = c0) ↔ c0 = (27489 : Int)
    rw [pzc_70, pzc_71]
    omega
  | 15, _ => by
    show (((1 : Nat) = 5 ∨ pz_C 76 = 32) ∧ pz_C 75 = c0) ↔ c0 = (27490 : Int)
    rw [pzc_75, pzc_76]
    omega
  | 16, _ => by
    show (((1 : Nat) = 5 ∨ pz_C 81 = 32) ∧ pz_C 80 = c0) ↔ c0 = (98 : Int)
    rw [pzc_80, pzc_81]
    omega
  | 17, _ => by
    show (((1 : Nat) = 5 ∨ pz_C 86 = 32) ∧ pz_C 85 = c0) ↔ c0 = (113 : Int)
    rw [pzc_85, pzc_86]
    omega
  | 18, _ => by
    show (((1 : Nat) = 5 ∨ pz_C 91 = 32) ∧ pz_C 90 = c0) ↔ c0 = (109 : Int)
    rw [pzc_90, pzc_91]
    omega
  | 19, _ => by
    show (((1 : Nat) = 5 ∨ pz_C 96 = 32) ∧ pz_C 95 = c0) ↔ c0 = (1751215220 : Int)
    rw [pzc_95, pzc_96]
    omega
  | 20, _ => by
    show (((1 : Nat) = 5 ∨ pz_C 101 = 32) ∧ pz_C 100 = c0) ↔ c0 = (29283 : Int)
    rw [pzc_100, pzc_101]
    omega
  | 21, _ => by
    show (((1 : Nat) = 5 ∨ pz_C 106 = 32) ∧ pz_C 105 = c0) ↔ c0 = (29294 : Int)
    rw [pzc_105, pzc_106]
    omega
  | 22, _ => by
    show (((1 : Nat) = 5 ∨ pz_C 111 = 32) ∧ pz_C 110 = c0) ↔ c0 = (29300 : Int)
    rw [pzc_110, pzc_111]
    omega
  | w + 23, h => absurd h (by omega)
theorem pz_mk2 {c0 c1 : Int} (b0 : 97 ≤ c0 ∧ c0 ≤ 122) (b1 : 97 ≤ c1 ∧ c1 ≤ 122) : ∀ w : Nat, w < 23 → ((((2 : Nat) = 5 ∨ pz_C (5 * w + 2) = 32) ∧ pz_C (5 * w + 0) = c0 ∧ pz_C (5 * w + 1) = c1) ↔ (c0) * 256 + c1 = (pz_K w : Int))
  | 0, _ => by
    show (((2 : Nat) = 5 ∨ pz_C 2 = 32) ∧ pz_C 0 = c0 ∧ pz_C 1 = c1) ↔ (c0) * 256 + c1 = (99 : Int)
    rw [pzc_0, pzc_1, pzc_2]
    omega
  | 1, _ => by
    show (((2 : Nat) = 5 ∨ pz_C 7 = 32) ∧ pz_C 5 = c0 ∧ pz_C 6 = c1) ↔ (c0) * 256 + c1 = (97 : Int)
    rw [pzc_5, pzc_6, pzc_7]
    omega
  | 2, _ => by
    show (((2 : Nat) = 5 ∨ pz_C 12 = 32) ∧ pz_C 10 = c0 ∧ pz_C 11 = c1) ↔ (c0) * 256 + c1 = (120 : Int)
    rw [pzc_10, pzc_11, pzc_12]
    omega
  | 3, _ => by
    show (((2 : Nat) = 5 ∨ pz_C 17 = 32) ∧ pz_C 15 = c0 ∧ pz_C 16 = c1) ↔ (c0) * 256 + c1 = (101 : Int)
    rw [pzc_15, pzc_16, pzc_17]
    omega
  | 4, _ => by
    show (((2 : Nat) = 5 ∨ pz_C 22 = 32) ∧ pz_C 20 = c0 ∧ pz_C 21 = c1) ↔ (c0) * 256 + c1 = (117 : Int)
    rw [pzc_20, pzc_21, pzc_22]
    omega
  | 5, _ => by
    show (((2 : Nat) = 5 ∨ pz_C 27 = 32) ∧ pz_C 25 = c0 ∧ pz_C 26 = c1) ↔ (c0) * 256 + c1 = (116 : Int)
    rw [pzc_25, pzc_26, pzc_27]
    omega
  | 6, _ => by
    show (((2 : Nat) = 5 ∨ pz_C 32 = 32) ∧ pz_C 30 = c0 ∧ pz_C 31 = c1) ↔ (c0) * 256 + c1 = (111 : Int)
    rw [pzc_30, pzc_31, pzc_32]
    omega
  | 7, _ => by
    show (((2 : Nat) = 5 ∨ pz_C 37 = 32) ∧ pz_C 35 = c0 ∧ pz_C 36 = c1) ↔ (c0) * 256 + c1 = (122 : Int)
    rw [pzc_35, pzc_36, pzc_37]
    omega
  | 8, _ => by
    show (((2 : Nat) = 5 ∨ pz_C 42 = 32) ∧ pz_C 40 = c0 ∧ pz_C 41 = c1) ↔ (c0) * 256 + c1 = (105 : Int)
    rw [pzc_40, pzc_41, pzc_42]
    omega
  | 9, _ => by
    show (((2 : Nat) = 5 ∨ pz_C 47 = 32) ∧ pz_C 45 = c0 ∧ pz_C 46 = c1) ↔ (c0) * 256 + c1 = (1886156147 : Int)
    rw [pzc_45, pzc_46, pzc_47]
    omega
  | 10, _ => by
    show (((2 : Nat) = 5 ∨ pz_C 52 = 32) ∧ pz_C 50 = c0 ∧ pz_C 51 = c1) ↔ (c0) * 256 + c1 = (469920281971 : Int)
    rw [pzc_50, pzc_51, pzc_52]
    omega
  | 11, _ => by
    show (((2 : Nat) = 5 ∨ pz_C 57 = 32) ∧ pz_C 55 = c0 ∧ pz_C 56 = c1) ↔ (c0) * 256 + c1 = (427020345714 : Int)
    rw [pzc_55, pzc_56, pzc_57]
    omega
  | 12, _ => by
    show (((2 : Nat) = 5 ∨ pz_C 62 = 32) ∧ pz_C 60 = c0 ∧ pz_C 61 = c1) ↔ (c0) * 256 + c1 = (112 : Int)
    rw [pzc_60, pzc_61, pzc_62]
    omega
  | 13, _ => by
    show (((2 : Nat) = 5 ∨ pz_C 67 = 32) ∧ pz_C 65 = c0 ∧ pz_C 66 = c1) ↔ (c0) * 256 + c1 = (115 : Int)
    rw [pzc_65, pzc_66, pzc_67]
    omega
  | 14, _ => by
    show (((2 : Nat) = 5 ∨ pz_C 72 = 32) ∧ pz_C 70 = c0 ∧ pz_C 71 = c1) ↔ (c0) * 256 + c1 = (27489 : Int)
    rw [pzc_70, pzc_71, pzc_72]
    omega
  | 15, _ => by
    show (((2 : Nat) = 5 ∨ pz_C 77 = 32) ∧ pz_C 75 = c0 ∧ pz_C 76 = c1) ↔ (c0) * 256 + c1 = (27490 : Int)
    rw [pzc_75, pzc_76, pzc_77]
    omega
  | 16, _ => by
    show (((2 : Nat) = 5 ∨ pz_C 82 = 32) ∧ pz_C 80 = c0 ∧ pz_C 81 = c1) ↔ (c0) * 256 + c1 = (98 : Int)
    rw [pzc_80, pzc_81, pzc_82]
    omega
  | 17, _ => by
    show (((2 : Nat) = 5 ∨ pz_C 87 = 32) ∧ pz_C 85 = c0 ∧ pz_C 86 = c1) ↔ (c0) * 256 + c1 = (113 : Int)
    rw [pzc_85, pzc_86, pzc_87]
    omega
  | 18, _ => by
    show (((2 : Nat) = 5 ∨ pz_C 92 = 32) ∧ pz_C 90 = c0 ∧ pz_C 91 = c1) ↔ (c0) * 256 + c1 = (109 : Int)
    rw [pzc_90, pzc_91, pzc_92]
    omega
  | 19, _ => by
    show (((2 : Nat) = 5 ∨ pz_C 97 = 32) ∧ pz_C 95 = c0 ∧ pz_C 96 = c1) ↔ (c0) * 256 + c1 = (1751215220 : Int)
    rw [pzc_95, pzc_96, pzc_97]
    omega
  | 20, _ => by
    show (((2 : Nat) = 5 ∨ pz_C 102 = 32) ∧ pz_C 100 = c0 ∧ pz_C 101 = c1) ↔ (c0) * 256 + c1 = (29283 : Int)
    rw [pzc_100, pzc_101, pzc_102]
    omega
  | 21, _ => by
    show (((2 : Nat) = 5 ∨ pz_C 107 = 32) ∧ pz_C 105 = c0 ∧ pz_C 106 = c1) ↔ (c0) * 256 + c1 = (29294 : Int)
    rw [pzc_105, pzc_106, pzc_107]
    omega
  | 22, _ => by
    show (((2 : Nat) = 5 ∨ pz_C 112 = 32) ∧ pz_C 110 = c0 ∧ pz_C 111 = c1) ↔ (c0) * 256 + c1 = (29300 : Int)
    rw [pzc_110, pzc_111, pzc_112]
    omega
  | w + 23, h => absurd h (by omega)
theorem pz_mk3 {c0 c1 c2 : Int} (b0 : 97 ≤ c0 ∧ c0 ≤ 122) (b1 : 97 ≤ c1 ∧ c1 ≤ 122) (b2 : 97 ≤ c2 ∧ c2 ≤ 122) : ∀ w : Nat, w < 23 → ((((3 : Nat) = 5 ∨ pz_C (5 * w + 3) = 32) ∧ pz_C (5 * w + 0) = c0 ∧ pz_C (5 * w + 1) = c1 ∧ pz_C (5 * w + 2) = c2) ↔ ((c0) * 256 + c1) * 256 + c2 = (pz_K w : Int))
  | 0, _ => by
    show (((3 : Nat) = 5 ∨ pz_C 3 = 32) ∧ pz_C 0 = c0 ∧ pz_C 1 = c1 ∧ pz_C 2 = c2) ↔ ((c0) * 256 + c1) * 256 + c2 = (99 : Int)
    rw [pzc_0, pzc_1, pzc_2, pzc_3]
    omega
  | 1, _ => by
    show (((3 : Nat) = 5 ∨ pz_C 8 = 32) ∧ pz_C 5 = c0 ∧ pz_C 6 = c1 ∧ pz_C 7 = c2) ↔ ((c0) * 256 + c1) * 256 + c2 = (97 : Int)
    rw [pzc_5, pzc_6, pzc_7, pzc_8]
    omega
  | 2, _ => by
    show (((3 : Nat) = 5 ∨ pz_C 13 = 32) ∧ pz_C 10 = c0 ∧ pz_C 11 = c1 ∧ pz_C 12 = c2) ↔ ((c0) * 256 + c1) * 256 + c2 = (120 : Int)
    rw [pzc_10, pzc_11, pzc_12, pzc_13]
    omega
  | 3, _ => by
    show (((3 : Nat) = 5 ∨ pz_C 18 = 32) ∧ pz_C 15 = c0 ∧ pz_C 16 = c1 ∧ pz_C 17 = c2) ↔ ((c0) * 256 + c1) * 256 + c2 = (101 : Int)
    rw [pzc_15, pzc_16, pzc_17, pzc_18]
    omega
  | 4, _ => by
    show (((3 : Nat) = 5 ∨ pz_C 23 = 32) ∧ pz_C 20 = c0 ∧ pz_C 21 = c1 ∧ pz_C 22 = c2) ↔ ((c0) * 256 + c1) * 256 + c2 = (117 : Int)
    rw [pzc_20, pzc_21, pzc_22, pzc_23]
    omega
  | 5, _ => by
    show (((3 : Nat) = 5 ∨ pz_C 28 = 32) ∧ pz_C 25 = c0 ∧ pz_C 26 = c1 ∧ pz_C 27 = c2) ↔ ((c0) * 256 + c1) * 256 + c2 = (116 : Int)
    rw [pzc_25, pzc_26, pzc_27, pzc_28]
    omega
  | 6, _ => by
    show (((3 : Nat) = 5 ∨ pz_C 33 = 32) ∧ pz_C 30 = c0 ∧ pz_C 31 = c1 ∧ pz_C 32 = c2) ↔ ((c0) * 256 + c1) * 256 + c2 = (111 : Int)
    rw [pzc_30, pzc_31, pzc_32, pzc_33]
    omega
  | 7, _ => by
    show (((3 : Nat) = 5 ∨ pz_C 38 = 32) ∧ pz_C 35 = c0 ∧ pz_C 36 = c1 ∧ pz_C 37 = c2) ↔ ((c0) * 256 + c1) * 256 + c2 = (122 : Int)
    rw [pzc_35, pzc_36, pzc_37, pzc_38]
    omega
  | 8, _ => by
    show (((3 : Nat) = 5 ∨ pz_C 43 = 32) ∧ pz_C 40 = c0 ∧ pz_C 41 = c1 ∧ pz_C 42 = c2) ↔ ((c0) * 256 + c1) * 256 + c2 = (105 : Int)
    rw [pzc_40, pzc_41, pzc_42, pzc_43]
    omega
  | 9, _ => by
    show (((3 : Nat) = 5 ∨ pz_C 48 = 32) ∧ pz_C 45 = c0 ∧ pz_C 46 = c1 ∧ pz_C 47 = c2) ↔ ((c0) * 256 + c1) * 256 + c2 = (1886156147 : Int)
    rw [pzc_45, pzc_46, pzc_47, pzc_48]
    omega
  | 10, _ => by
    show (((3 : Nat) = 5 ∨ pz_C 53 = 32) ∧ pz_C 50 = c0 ∧ pz_C 51 = c1 ∧ pz_C 52 = c2) ↔ ((c0) * 256 + c1) * 256 + c2 = (469920281971 : Int)
    rw [pzc_50, pzc_51, pzc_52, pzc_53]
    omega
  | 11, _ => by
    show (((3 : Nat) = 5 ∨ pz_C 58 = 32) ∧ pz_C 55 = c0 ∧ pz_C 56 = c1 ∧ pz_C 57 = c2) ↔ ((c0) * 256 + c1) * 256 + c2 = (427020345714 : Int)
    rw [pzc_55, pzc_56, pzc_57, pzc_58]
    omega
  | 12, _ => by
    show (((3 : Nat) = 5 ∨ pz_C 63 = 32) ∧ pz_C 60 = c0 ∧ pz_C 61 = c1 ∧ pz_C 62 = c2) ↔ ((c0) * 256 + c1) * 256 + c2 = (112 : Int)
    rw [pzc_60, pzc_61, pzc_62, pzc_63]
    omega
  | 13, _ => by
    show (((3 : Nat) = 5 ∨ pz_C 68 = 32) ∧ pz_C 65 = c0 ∧ pz_C 66 = c1 ∧ pz_C 67 = c2) ↔ ((c0) * 256 + c1) * 256 + c2 = (115 : Int)
    rw [pzc_65, pzc_66, pzc_67, pzc_68]
    omega
  | 14, _ => by
    show (((3 : Nat) = 5 ∨ pz_C 73 = 32) ∧ pz_C 70 = c0 ∧ pz_C 71 = c1 ∧ pz_C 72 = c2) ↔ ((c0) * 256 + c1) * 256 + c2 = (27489 : Int)
    rw [pzc_70, pzc_71, pzc_72, pzc_73]
    omega
  | 15, _ => by
    show (((3 : Nat) = 5 ∨ pz_C 78 = 32) ∧ pz_C 75 = c0 ∧ pz_C 76 = c1 ∧ pz_C 77 = c2) ↔ ((c0) * 256 + c1) * 256 + c2 = (27490 : Int)
    rw [pzc_75, pzc_76, pzc_77, pzc_78]
    omega
  | 16, _ => by
    show (((3 : Nat) = 5 ∨ pz_C 83 = 32) ∧ pz_C 80 = c0 ∧ pz_C 81 = c1 ∧ pz_C 82 = c2) ↔ ((c0) * 256 + c1) * 256 + c2 = (98 : Int)
    rw [pzc_80, pzc_81, pzc_82, pzc_83]
    omega
  | 17, _ => by
    show (((3 : Nat) = 5 ∨ pz_C 88 = 32) ∧ pz_C 85 = c0 ∧ pz_C 86 = c1 ∧ pz_C 87 = c2) ↔ ((c0) * 256 + c1) * 256 + c2 = (113 : Int)
    rw [pzc_85, pzc_86, pzc_87, pzc_88]
    omega
  | 18, _ => by
    show (((3 : Nat) = 5 ∨ pz_C 93 = 32) ∧ pz_C 90 = c0 ∧ pz_C 91 = c1 ∧ pz_C 92 = c2) ↔ ((c0) * 256 + c1) * 256 + c2 = (109 : Int)
    rw [pzc_90, pzc_91, pzc_92, pzc_93]
    omega
  | 19, _ => by
    show (((3 : Nat) = 5 ∨ pz_C 98 = 32) ∧ pz_C 95 = c0 ∧ pz_C 96 = c1 ∧ pz_C 97 = c2) ↔ ((c0) * 256 + c1) * 256 + c2 = (1751215220 : Int)
    rw [pzc_95, pzc_96, pzc_97, pzc_98]
    omega
  | 20, _ => by
    show (((3 : Nat) = 5 ∨ pz_C 103 = 32) ∧ pz_C 100 = c0 ∧ pz_C 101 = c1 ∧ pz_C 102 = c2) ↔ ((c0) * 256 + c1) * 256 + c2 = (29283 : Int)
    rw [pzc_100, pzc_101, pzc_102, pzc_103]
    omega
  | 21, _ => by
    show (((3 : Nat) = 5 ∨ pz_C 108 = 32) ∧ pz_C 105 = c0 ∧ pz_C 106 = c1 ∧ pz_C 107 = c2) ↔ ((c0) * 256 + c1) * 256 + c2 = (29294 : Int)
    rw [pzc_105, pzc_106, pzc_107, pzc_108]
    omega
  | 22, _ => by
    show (((3 : Nat) = 5 ∨ pz_C 113 = 32) ∧ pz_C 110 = c0 ∧ pz_C 111 = c1 ∧ pz_C 112 = c2) ↔ ((c0) * 256 + c1) * 256 + c2 = (29300 : Int)
    rw [pzc_110, pzc_111, pzc_112, pzc_113]
    omega
  | w + 23, h => absurd h (by omega)
theorem pz_mk4 {c0 c1 c2 c3 : Int} (b0 : 97 ≤ c0 ∧ c0 ≤ 122) (b1 : 97 ≤ c1 ∧ c1 ≤ 122) (b2 : 97 ≤ c2 ∧ c2 ≤ 122) (b3 : 97 ≤ c3 ∧ c3 ≤ 122) : ∀ w : Nat, w < 23 → ((((4 : Nat) = 5 ∨ pz_C (5 * w + 4) = 32) ∧ pz_C (5 * w + 0) = c0 ∧ pz_C (5 * w + 1) = c1 ∧ pz_C (5 * w + 2) = c2 ∧ pz_C (5 * w + 3) = c3) ↔ (((c0) * 256 + c1) * 256 + c2) * 256 + c3 = (pz_K w : Int))
  | 0, _ => by
    show (((4 : Nat) = 5 ∨ pz_C 4 = 32) ∧ pz_C 0 = c0 ∧ pz_C 1 = c1 ∧ pz_C 2 = c2 ∧ pz_C 3 = c3) ↔ (((c0) * 256 + c1) * 256 + c2) * 256 + c3 = (99 : Int)
    rw [pzc_0, pzc_1, pzc_2, pzc_3, pzc_4]
    omega
  | 1, _ => by
    show (((4 : Nat) = 5 ∨ pz_C 9 = 32) ∧ pz_C 5 = c0 ∧ pz_C 6 = c1 ∧ pz_C 7 = c2 ∧ pz_C 8 = c3) ↔ (((c0) * 256 + c1) * 256 + c2) * 256 + c3 = (97 : Int)
    rw [pzc_5, pzc_6, pzc_7, pzc_8, pzc_9]
    omega
  | 2, _ => by
    show (((4 : Nat) = 5 ∨ pz_C 14 = 32) ∧ pz_C 10 = c0 ∧ pz_C 11 = c1 ∧ pz_C 12 = c2 ∧ pz_C 13 = c3) ↔ (((c0) * 256 + c1) * 256 + c2) * 256 + c3 = (120 : Int)
    rw [pzc_10, pzc_11, pzc_12, pzc_13, pzc_14]
    omega
  | 3, _ => by
    show (((4 : Nat) = 5 ∨ pz_C 19 = 32) ∧ pz_C 15 = c0 ∧ pz_C 16 = c1 ∧ pz_C 17 = c2 ∧ pz_C 18 = c3) ↔ (((c0) * 256 + c1) * 256 + c2) * 256 + c3 = (101 : Int)
    rw [pzc_15, pzc_16, pzc_17, pzc_18, pzc_19]
    omega
  | 4, _ => by
    show (((4 : Nat) = 5 ∨ pz_C 24 = 32) ∧ pz_C 20 = c0 ∧ pz_C 21 = c1 ∧ pz_C 22 = c2 ∧ pz_C 23 = c3) ↔ (((c0) * 256 + c1) * 256 + c2) * 256 + c3 = (117 : Int)
    rw [pzc_20, pzc_21, pzc_22, pzc_23, pzc_24]
    omega
  | 5, _ => by
    show (((4 : Nat) = 5 ∨ pz_C 29 = 32) ∧ pz_C 25 = c0 ∧ pz_C 26 = c1 ∧ pz_C 27 = c2 ∧ pz_C 28 = c3) ↔ (((c0) * 256 + c1) * 256 + c2) * 256 + c3 = (116 : Int)
    rw [pzc_25, pzc_26, pzc_27, pzc_28, pzc_29]
    omega
  | 6, _ => by
    show (((4 : Nat) = 5 ∨ pz_C 34 = 32) ∧ pz_C 30 = c0 ∧ pz_C 31 = c1 ∧ pz_C 32 = c2 ∧ pz_C 33 = c3) ↔ (((c0) * 256 + c1) * 256 + c2) * 256 + c3 = (111 : Int)
    rw [pzc_30, pzc_31, pzc_32, pzc_33, pzc_34]
    omega
  | 7, _ => by
    show (((4 : Nat) = 5 ∨ pz_C 39 = 32) ∧ pz_C 35 = c0 ∧ pz_C 36 = c1 ∧ pz_C 37 = c2 ∧ pz_C 38 = c3) ↔ (((c0) * 256 + c1) * 256 + c2) * 256 + c3 = (122 : Int)
    rw [pzc_35, pzc_36, pzc_37, pzc_38, pzc_39]
    omega
  | 8, _ => by
    show (((4 : Nat) = 5 ∨ pz_C 44 = 32) ∧ pz_C 40 = c0 ∧ pz_C 41 = c1 ∧ pz_C 42 = c2 ∧ pz_C 43 = c3) ↔ (((c0) * 256 + c1) * 256 + c2) * 256 + c3 = (105 : Int)
    rw [pzc_40, pzc_41, pzc_42, pzc_43, pzc_44]
    omega
  | 9, _ => by
    show (((4 : Nat) = 5 ∨ pz_C 49 = 32) ∧ pz_C 45 = c0 ∧ pz_C 46 = c1 ∧ pz_C 47 = c2 ∧ pz_C 48 = c3) ↔ (((c0) * 256 + c1) * 256 + c2) * 256 + c3 = (1886156147 : Int)
    rw [pzc_45, pzc_46, pzc_47, pzc_48, pzc_49]
    omega
  | 10, _ => by
    show (((4 : Nat) = 5 ∨ pz_C 54 = 32) ∧ pz_C 50 = c0 ∧ pz_C 51 = c1 ∧ pz_C 52 = c2 ∧ pz_C 53 = c3) ↔ (((c0) * 256 + c1) * 256 + c2) * 256 + c3 = (469920281971 : Int)
    rw [pzc_50, pzc_51, pzc_52, pzc_53, pzc_54]
    omega
  | 11, _ => by
    show (((4 : Nat) = 5 ∨ pz_C 59 = 32) ∧ pz_C 55 = c0 ∧ pz_C 56 = c1 ∧ pz_C 57 = c2 ∧ pz_C 58 = c3) ↔ (((c0) * 256 + c1) * 256 + c2) * 256 + c3 = (427020345714 : Int)
    rw [pzc_55, pzc_56, pzc_57, pzc_58, pzc_59]
    omega
  | 12, _ => by
    show (((4 : Nat) = 5 ∨ pz_C 64 = 32) ∧ pz_C 60 = c0 ∧ pz_C 61 = c1 ∧ pz_C 62 = c2 ∧ pz_C 63 = c3) ↔ (((c0) * 256 + c1) * 256 + c2) * 256 + c3 = (112 : Int)
    rw [pzc_60, pzc_61, pzc_62, pzc_63, pzc_64]
    omega
  | 13, _ => by
    show (((4 : Nat) = 5 ∨ pz_C 69 = 32) ∧ pz_C 65 = c0 ∧ pz_C 66 = c1 ∧ pz_C 67 = c2 ∧ pz_C 68 = c3) ↔ (((c0) * 256 + c1) * 256 + c2) * 256 + c3 = (115 : Int)
    rw [pzc_65, pzc_66, pzc_67, pzc_68, pzc_69]
    omega
  | 14, _ => by
    show (((4 : Nat) = 5 ∨ pz_C 74 = 32) ∧ pz_C 70 = c0 ∧ pz_C 71 = c1 ∧ pz_C 72 = c2 ∧ pz_C 73 = c3) ↔ (((c0) * 256 + c1) * 256 + c2) * 256 + c3 = (27489 : Int)
    rw [pzc_70, pzc_71, pzc_72, pzc_73, pzc_74]
    omega
  | 15, _ => by
    show (((4 : Nat) = 5 ∨ pz_C 79 = 32) ∧ pz_C 75 = c0 ∧ pz_C 76 = c1 ∧ pz_C 77 = c2 ∧ pz_C 78 = c3) ↔ (((c0) * 256 + c1) * 256 + c2) * 256 + c3 = (27490 : Int)
    rw [pzc_75, pzc_76, pzc_77, pzc_78, pzc_79]
    omega
  | 16, _ => by
    show (((4 : Nat) = 5 ∨ pz_C 84 = 32) ∧ pz_C 80 = c0 ∧ pz_C 81 = c1 ∧ pz_C 82 = c2 ∧ pz_C 83 = c3) ↔ (((c0) * 256 + c1) * 256 + c2) * 256 + c3 = (98 : Int)
    rw [pzc_80, pzc_81, pzc_82, pzc_83, pzc_84]
    omega
  | 17, _ => by
    show (((4 : Nat) = 5 ∨ pz_C 89 = 32) ∧ pz_C 85 = c0 ∧ pz_C 86 = c1 ∧ pz_C 87 = c2 ∧ pz_C 88 = c3) ↔ (((c0) * 256 + c1) * 256 + c2) * 256 + c3 = (113 : Int)
    rw [pzc_85, pzc_86, pzc_87, pzc_88, pzc_89]
    omega
  | 18, _ => by
    show (((4 : Nat) = 5 ∨ pz_C 94 = 32) ∧ pz_C 90 = c0 ∧ pz_C 91 = c1 ∧ pz_C 92 = c2 ∧ pz_C 93 = c3) ↔ (((c0) * 256 + c1) * 256 + c2) * 256 + c3 = (109 : Int)
    rw [pzc_90, pzc_91, pzc_92, pzc_93, pzc_94]
    omega
  | 19, _ => by
    show (((4 : Nat) = 5 ∨ pz_C 99 = 32) ∧ pz_C 95 = c0 ∧ pz_C 96 = c1 ∧ pz_C 97 = c2 ∧ pz_C 98 = c3) ↔ (((c0) * 256 + c1) * 256 + c2) * 256 + c3 = (1751215220 : Int)
    rw [pzc_95, pzc_96, pzc_97, pzc_98, pzc_99]
    omega
  | 20, _ => by
    show (((4 : Nat) = 5 ∨ pz_C 104 = 32) ∧ pz_C 100 = c0 ∧ pz_C 101 = c1 ∧ pz_C 102 = c2 ∧ pz_C 103 = c3) ↔ (((c0) * 256 + c1) * 256 + c2) * 256 + c3 = (29283 : Int)
    rw [pzc_100, pzc_101, pzc_102, pzc_103, pzc_104]
    omega
  | 21, _ => by
    show (((4 : Nat) = 5 ∨ pz_C 109 = 32) ∧ pz_C 105 = c0 ∧ pz_C 106 = c1 ∧ pz_C 107 = c2 ∧ pz_C 108 = c3) ↔ (((c0) * 256 + c1) * 256 + c2) * 256 + c3 = (29294 : Int)
    rw [pzc_105, pzc_106, pzc_107, pzc_108, pzc_109]
    omega
  | 22, _ => by
    show (((4 : Nat) = 5 ∨ pz_C 114 = 32) ∧ pz_C 110 = c0 ∧ pz_C 111 = c1 ∧ pz_C 112 = c2 ∧ pz_C 113 = c3) ↔ (((c0) * 256 + c1) * 256 + c2) * 256 + c3 = (29300 : Int)
    rw [pzc_110, pzc_111, pzc_112, pzc_113, pzc_114]
    omega
  | w + 23, h => absurd h (by omega)
theorem pz_mk5 {c0 c1 c2 c3 c4 : Int} (b0 : 97 ≤ c0 ∧ c0 ≤ 122) (b1 : 97 ≤ c1 ∧ c1 ≤ 122) (b2 : 97 ≤ c2 ∧ c2 ≤ 122) (b3 : 97 ≤ c3 ∧ c3 ≤ 122) (b4 : 97 ≤ c4 ∧ c4 ≤ 122) : ∀ w : Nat, w < 23 → ((((5 : Nat) = 5 ∨ pz_C (5 * w + 5) = 32) ∧ pz_C (5 * w + 0) = c0 ∧ pz_C (5 * w + 1) = c1 ∧ pz_C (5 * w + 2) = c2 ∧ pz_C (5 * w + 3) = c3 ∧ pz_C (5 * w + 4) = c4) ↔ ((((c0) * 256 + c1) * 256 + c2) * 256 + c3) * 256 + c4 = (pz_K w : Int))
  | 0, _ => by
    show (((5 : Nat) = 5 ∨ pz_C 5 = 32) ∧ pz_C 0 = c0 ∧ pz_C 1 = c1 ∧ pz_C 2 = c2 ∧ pz_C 3 = c3 ∧ pz_C 4 = c4) ↔ ((((c0) * 256 + c1) * 256 + c2) * 256 + c3) * 256 + c4 = (99 : Int)
    rw [pzc_0, pzc_1, pzc_2, pzc_3, pzc_4]
    constructor
    · intro ⟨_, h⟩; omega
    · intro h; exact ⟨Or.inl rfl, by omega⟩
  | 1, _ => by
    show (((5 : Nat) = 5 ∨ pz_C 10 = 32) ∧ pz_C 5 = c0 ∧ pz_C 6 = c1 ∧ pz_C 7 = c2 ∧ pz_C 8 = c3 ∧ pz_C 9 = c4) ↔ ((((c0) * 256 + c1) * 256 + c2) * 256 + c3) * 256 + c4 = (97 : Int)
    rw [pzc_5, pzc_6, pzc_7, pzc_8, pzc_9]
    constructor
    · intro ⟨_, h⟩; omega
    · intro h; exact ⟨Or.inl rfl, by omega⟩
  | 2, _ => by
    show (((5 : Nat) = 5 ∨ pz_C 15 = 32) ∧ pz_C 10 = c0 ∧ pz_C 11 = c1 ∧ pz_C 12 = c2 ∧ pz_C 13 = c3 ∧ pz_C 14 = c4) ↔ ((((c0) * 256 + c1) * 256 + c2) * 256 + c3) * 256 + c4 = (120 : Int)
    rw [pzc_10, pzc_11, pzc_12, pzc_13, pzc_14]
    constructor
    · intro ⟨_, h⟩; omega
    · intro h; exact ⟨Or.inl rfl, by omega⟩
  | 3, _ => by
    show (((5 : Nat) = 5 ∨ pz_C 20 = 32) ∧ pz_C 15 = c0 ∧ pz_C 16 = c1 ∧ pz_C 17 = c2 ∧ pz_C 18 = c3 ∧ pz_C 19 = c4) ↔ ((((c0) * 256 + c1) * 256 + c2) * 256 + c3) * 256 + c4 = (101 : Int)
    rw [pzc_15, pzc_16, pzc_17, pzc_18, pzc_19]
    constructor
    · intro ⟨_, h⟩; omega
    · intro h; exact ⟨Or.inl rfl, by omega⟩
  | 4, _ => by
    show (((5 : Nat) = 5 ∨ pz_C 25 = 32) ∧ pz_C 20 = c0 ∧ pz_C 21 = c1 ∧ pz_C 22 = c2 ∧ pz_C 23 = c3 ∧ pz_C 24 = c4) ↔ ((((c0) * 256 + c1) * 256 + c2) * 256 + c3) * 256 + c4 = (117 : Int)
    rw [pzc_20, pzc_21, pzc_22, pzc_23, pzc_24]
    constructor
    · intro ⟨_, h⟩; omega
    · intro h; exact ⟨Or.inl rfl, by omega⟩
  | 5, _ => by
    show (((5 : Nat) = 5 ∨ pz_C 30 = 32) ∧ pz_C 25 = c0 ∧ pz_C 26 = c1 ∧ pz_C 27 = c2 ∧ pz_C 28 = c3 ∧ pz_C 29 = c4) ↔ ((((c0) * 256 + c1) * 256 + c2) * 256 + c3) * 256 + c4 = (116 : Int)
    rw [pzc_25, pzc_26, pzc_27, pzc_28, pzc_29]
    constructor
    · intro ⟨_, h⟩; omega
    · intro h; exact ⟨Or.inl rfl, by omega⟩
  | 6, _ => by
    show (((5 : Nat) = 5 ∨ pz_C 35 = 32) ∧ pz_C 30 = c0 ∧ pz_C 31 = c1 ∧ pz_C 32 = c2 ∧ pz_C 33 = c3 ∧ pz_C 34 = c4) ↔ ((((c0) * 256 + c1) * 256 + c2) * 256 + c3) * 256 + c4 = (111 : Int)
    rw [pzc_30, pzc_31, pzc_32, pzc_33, pzc_34]
    constructor
    · intro ⟨_, h⟩; omega
    · intro h; exact ⟨Or.inl rfl, by omega⟩
  | 7, _ => by
    show (((5 : Nat) = 5 ∨ pz_C 40 = 32) ∧ pz_C 35 = c0 ∧ pz_C 36 = c1 ∧ pz_C 37 = c2 ∧ pz_C 38 = c3 ∧ pz_C 39 = c4) ↔ ((((c0) * 256 + c1) * 256 + c2) * 256 + c3) * 256 + c4 = (122 : Int)
    rw [pzc_35, pzc_36, pzc_37, pzc_38, pzc_39]
    constructor
    · intro ⟨_, h⟩; omega
    · intro h; exact ⟨Or.inl rfl, by omega⟩
  | 8, _ => by
    show (((5 : Nat) = 5 ∨ pz_C 45 = 32) ∧ pz_C 40 = c0 ∧ pz_C 41 = c1 ∧ pz_C 42 = c2 ∧ pz_C 43 = c3 ∧ pz_C 44 = c4) ↔ ((((c0) * 256 + c1) * 256 + c2) * 256 + c3) * 256 + c4 = (105 : Int)
    rw [pzc_40, pzc_41, pzc_42, pzc_43, pzc_44]
    constructor
    · intro ⟨_, h⟩; omega
    · intro h; exact ⟨Or.inl rfl, by omega⟩
  | 9, _ => by
    show (((5 : Nat) = 5 ∨ pz_C 50 = 32) ∧ pz_C 45 = c0 ∧ pz_C 46 = c1 ∧ pz_C 47 = c2 ∧ pz_C 48 = c3 ∧ pz_C 49 = c4) ↔ ((((c0) * 256 + c1) * 256 + c2) * 256 + c3) * 256 + c4 = (1886156147 : Int)
    rw [pzc_45, pzc_46, pzc_47, pzc_48, pzc_49]
    constructor
    · intro ⟨_, h⟩; omega
    · intro h; exact ⟨Or.inl rfl, by omega⟩
  | 10, _ => by
    show (((5 : Nat) = 5 ∨ pz_C 55 = 32) ∧ pz_C 50 = c0 ∧ pz_C 51 = c1 ∧ pz_C 52 = c2 ∧ pz_C 53 = c3 ∧ pz_C 54 = c4) ↔ ((((c0) * 256 + c1) * 256 + c2) * 256 + c3) * 256 + c4 = (469920281971 : Int)
    rw [pzc_50, pzc_51, pzc_52, pzc_53, pzc_54]
    constructor
    · intro ⟨_, h⟩; omega
    · intro h; exact ⟨Or.inl rfl, by omega⟩
  | 11, _ => by
    show (((5 : Nat) = 5 ∨ pz_C 60 = 32) ∧ pz_C 55 = c0 ∧ pz_C 56 = c1 ∧ pz_C 57 = c2 ∧ pz_C 58 = c3 ∧ pz_C 59 = c4) ↔ ((((c0) * 256 + c1) * 256 + c2) * 256 + c3) * 256 + c4 = (427020345714 : Int)
    rw [pzc_55, pzc_56, pzc_57, pzc_58, pzc_59]
    constructor
    · intro ⟨_, h⟩; omega
    · intro h; exact ⟨Or.inl rfl, by omega⟩
  | 12, _ => by
    show (((5 : Nat) = 5 ∨ pz_C 65 = 32) ∧ pz_C 60 = c0 ∧ pz_C 61 = c1 ∧ pz_C 62 = c2 ∧ pz_C 63 = c3 ∧ pz_C 64 = c4) ↔ ((((c0) * 256 + c1) * 256 + c2) * 256 + c3) * 256 + c4 = (112 : Int)
    rw [pzc_60, pzc_61, pzc_62, pzc_63, pzc_64]
    constructor
    · intro ⟨_, h⟩; omega
    · intro h; exact ⟨Or.inl rfl, by omega⟩
  | 13, _ => by
    show (((5 : Nat) = 5 ∨ pz_C 70 = 32) ∧ pz_C 65 = c0 ∧ pz_C 66 = c1 ∧ pz_C 67 = c2 ∧ pz_C 68 = c3 ∧ pz_C 69 = c4) ↔ ((((c0) * 256 + c1) * 256 + c2) * 256 + c3) * 256 + c4 = (115 : Int)
    rw [pzc_65, pzc_66, pzc_67, pzc_68, pzc_69]
    constructor
    · intro ⟨_, h⟩; omega
    · intro h; exact ⟨Or.inl rfl, by omega⟩
  | 14, _ => by
    show (((5 : Nat) = 5 ∨ pz_C 75 = 32) ∧ pz_C 70 = c0 ∧ pz_C 71 = c1 ∧ pz_C 72 = c2 ∧ pz_C 73 = c3 ∧ pz_C 74 = c4) ↔ ((((c0) * 256 + c1) * 256 + c2) * 256 + c3) * 256 + c4 = (27489 : Int)
    rw [pzc_70, pzc_71, pzc_72, pzc_73, pzc_74]
    constructor
    · intro ⟨_, h⟩; omega
    · intro h; exact ⟨Or.inl rfl, by omega⟩
  | 15, _ => by
    show (((5 : Nat) = 5 ∨ pz_C 80 = 32) ∧ pz_C 75 = c0 ∧ pz_C 76 = c1 ∧ pz_C 77 = c2 ∧ pz_C 78 = c3 ∧ pz_C 79 = c4) ↔ ((((c0) * 256 + c1) * 256 + c2) * 256 + c3) * 256 + c4 = (27490 : Int)
    rw [pzc_75, pzc_76, pzc_77, pzc_78, pzc_79]
    constructor
    · intro ⟨_, h⟩; omega
    · intro h; exact ⟨Or.inl rfl, by omega⟩
  | 16, _ => by
    show (((5 : Nat) = 5 ∨ pz_C 85 = 32) ∧ pz_C 80 = c0 ∧ pz_C 81 = c1 ∧ pz_C 82 = c2 ∧ pz_C 83 = c3 ∧ pz_C 84 = c4) ↔ ((((c0) * 256 + c1) * 256 + c2) * 256 + c3) * 256 + c4 = (98 : Int)
    rw [pzc_80, pzc_81, pzc_82, pzc_83, pzc_84]
    constructor
    · intro ⟨_, h⟩; omega
    · intro h; exact ⟨Or.inl rfl, by omega⟩
  | 17, _ => by
    show (((5 : Nat) = 5 ∨ pz_C 90 = 32) ∧ pz_C 85 = c0 ∧ pz_C 86 = c1 ∧ pz_C 87 = c2 ∧ pz_C 88 = c3 ∧ pz_C 89 = c4) ↔ ((((c0) * 256 + c1) * 256 + c2) * 256 + c3) * 256 + c4 = (113 : Int)
    rw [pzc_85, pzc_86, pzc_87, pzc_88, pzc_89]
    constructor
    · intro ⟨_, h⟩; omega
    · intro h; exact ⟨Or.inl rfl, by omega⟩
  | 18, _ => by
    show (((5 : Nat) = 5 ∨ pz_C 95 = 32) ∧ pz_C 90 = c0 ∧ pz_C 91 = c1 ∧ pz_C 92 = c2 ∧ pz_C 93 = c3 ∧ pz_C 94 = c4) ↔ ((((c0) * 256 + c1) * 256 + c2) * 256 + c3) * 256 + c4 = (109 : Int)
    rw [pzc_90, pzc_91, pzc_92, pzc_93, pzc_94]
    constructor
    · intro ⟨_, h⟩; omega
    · intro h; exact ⟨Or.inl rfl, by omega⟩
  | 19, _ => by
    show (((5 : Nat) = 5 ∨ pz_C 100 = 32) ∧ pz_C 95 = c0 ∧ pz_C 96 = c1 ∧ pz_C 97 = c2 ∧ pz_C 98 = c3 ∧ pz_C 99 = c4) ↔ ((((c0) * 256 + c1) * 256 + c2) * 256 + c3) * 256 + c4 = (1751215220 : Int)
    rw [pzc_95, pzc_96, pzc_97, pzc_98, pzc_99]
    constructor
    · intro ⟨_, h⟩; omega
    · intro h; exact ⟨Or.inl rfl, by omega⟩
  | 20, _ => by
    show (((5 : Nat) = 5 ∨ pz_C 105 = 32) ∧ pz_C 100 = c0 ∧ pz_C 101 = c1 ∧ pz_C 102 = c2 ∧ pz_C 103 = c3 ∧ pz_C 104 = c4) ↔ ((((c0) * 256 + c1) * 256 + c2) * 256 + c3) * 256 + c4 = (29283 : Int)
    rw [pzc_100, pzc_101, pzc_102, pzc_103, pzc_104]
    constructor
    · intro ⟨_, h⟩; omega
    · intro h; exact ⟨Or.inl rfl, by omega⟩
  | 21, _ => by
    show (((5 : Nat) = 5 ∨ pz_C 110 = 32) ∧ pz_C 105 = c0 ∧ pz_C 106 = c1 ∧ pz_C 107 = c2 ∧ pz_C 108 = c3 ∧ pz_C 109 = c4) ↔ ((((c0) * 256 + c1) * 256 + c2) * 256 + c3) * 256 + c4 = (29294 : Int)
    rw [pzc_105, pzc_106, pzc_107, pzc_108, pzc_109]
    constructor
    · intro ⟨_, h⟩; omega
    · intro h; exact ⟨Or.inl rfl, by omega⟩
  | 22, _ => by
    show (((5 : Nat) = 5 ∨ pz_C 115 = 32) ∧ pz_C 110 = c0 ∧ pz_C 111 = c1 ∧ pz_C 112 = c2 ∧ pz_C 113 = c3 ∧ pz_C 114 = c4) ↔ ((((c0) * 256 + c1) * 256 + c2) * 256 + c3) * 256 + c4 = (29300 : Int)
    rw [pzc_110, pzc_111, pzc_112, pzc_113, pzc_114]
    constructor
    · intro ⟨_, h⟩; omega
    · intro h; exact ⟨Or.inl rfl, by omega⟩
  | w + 23, h => absurd h (by omega)
theorem pz_or {x : Nat} {c : Int} (hx : x < 1099511627776) (h0 : 0 ≤ c) (h1 : c ≤ 255) : ((Nat.lor (ae_lshl x 8) (ae_i2l (sv_u c)) : Nat) : Int) = (x : Int) * 256 + c := by
  have e1 : sv_u c = c.toNat := sv_u_nn h0 (by omega)
  have e2 : ae_i2l (sv_u c) = c.toNat := by
    rw [e1]; unfold ae_i2l
    have : Nat.ble 2147483648 c.toNat = false := by
      cases h : Nat.ble 2147483648 c.toNat with
      | false => rfl
      | true => have := Nat.le_of_ble_eq_true h; omega
    rw [this]; rfl
  have e3 : ae_lshl x 8 = x <<< 8 := by
    show (x <<< 8) % 18446744073709551616 = x <<< 8
    refine Nat.mod_eq_of_lt ?_
    rw [Nat.shiftLeft_eq]; omega
  rw [e2, e3]
  have e4 : Nat.lor (x <<< 8) c.toNat = x <<< 8 + c.toNat := (Nat.shiftLeft_add_eq_or_of_lt (show c.toNat < 2 ^ 8 by omega) x).symm
  rw [e4, Nat.shiftLeft_eq]
  omega
theorem pz_pk_s {t : Int → Int} {pl : Int} {s : Nat} (hx : pz_pk t pl s < 1099511627776) (h : 97 ≤ t (pl + s) ∧ t (pl + s) ≤ 122) : (pz_pk t pl (s + 1) : Int) = (pz_pk t pl s : Int) * 256 + t (pl + s) := pz_or hx (by omega) (by omega)
theorem pz_MK {t : Int → Int} {pl : Int} {sz w : Nat} (hw : w < 23) (h1 : 1 ≤ sz) (h5 : sz ≤ 5) (hl : ∀ i : Nat, i < sz → 97 ≤ t (pl + i) ∧ t (pl + i) ≤ 122) : (pz_M t pl sz w ↔ pz_pk t pl sz = pz_K w) ∧ pz_pk t pl sz < 1099511627776 := by
  have z0 : (pz_pk t pl 0 : Int) = 0 := rfl
  have a0 := hl 0 (by omega)
  have p1 : (pz_pk t pl 1 : Int) = (pz_pk t pl 0 : Int) * 256 + t (pl + (0 : Nat)) := pz_pk_s (by omega) a0
  have b1 : (pz_pk t pl 1 : Int) ≤ 122 := by omega
  by_cases s1 : sz = 1
  · subst s1
    refine ⟨?_, by omega⟩
    have := pz_mk1 a0 w hw
    unfold pz_M
    constructor
    · intro ⟨y1, y2⟩
      have := this.mp ⟨y1, y2 0 (by omega)⟩
      omega
    · intro y
      obtain ⟨x1, x2⟩ := this.mpr (by omega)
      refine ⟨x1, fun i hi => ?_⟩
      match i, hi with
      | 0, _ => exact x2
      | i + 1, hi => exact absurd hi (by omega)
  have a1 := hl 1 (by omega)
  have p2 : (pz_pk t pl 2 : Int) = (pz_pk t pl 1 : Int) * 256 + t (pl + (1 : Nat)) := pz_pk_s (by omega) a1
  by_cases s2 : sz = 2
  · subst s2
    refine ⟨?_, by omega⟩
    have := pz_mk2 a0 a1 w hw
    unfold pz_M
    constructor
    · intro ⟨y1, y2⟩
      have := this.mp ⟨y1, y2 0 (by omega), y2 1 (by omega)⟩
      omega
    · intro y
      obtain ⟨x1, x2, x3⟩ := this.mpr (by omega)
      refine ⟨x1, fun i hi => ?_⟩
      match i, hi with
      | 0, _ => exact x2
      | 1, _ => exact x3
      | i + 2, hi => exact absurd hi (by omega)
  have a2 := hl 2 (by omega)
  have p3 : (pz_pk t pl 3 : Int) = (pz_pk t pl 2 : Int) * 256 + t (pl + (2 : Nat)) := pz_pk_s (by omega) a2
  by_cases s3 : sz = 3
  · subst s3
    refine ⟨?_, by omega⟩
    have := pz_mk3 a0 a1 a2 w hw
    unfold pz_M
    constructor
    · intro ⟨y1, y2⟩
      have := this.mp ⟨y1, y2 0 (by omega), y2 1 (by omega), y2 2 (by omega)⟩
      omega
    · intro y
      obtain ⟨x1, x2, x3, x4⟩ := this.mpr (by omega)
      refine ⟨x1, fun i hi => ?_⟩
      match i, hi with
      | 0, _ => exact x2
      | 1, _ => exact x3
      | 2, _ => exact x4
      | i + 3, hi => exact absurd hi (by omega)
  have a3 := hl 3 (by omega)
  have p4 : (pz_pk t pl 4 : Int) = (pz_pk t pl 3 : Int) * 256 + t (pl + (3 : Nat)) := pz_pk_s (by omega) a3
  by_cases s4 : sz = 4
  · subst s4
    refine ⟨?_, by omega⟩
    have := pz_mk4 a0 a1 a2 a3 w hw
    unfold pz_M
    constructor
    · intro ⟨y1, y2⟩
      have := this.mp ⟨y1, y2 0 (by omega), y2 1 (by omega), y2 2 (by omega), y2 3 (by omega)⟩
      omega
    · intro y
      obtain ⟨x1, x2, x3, x4, x5⟩ := this.mpr (by omega)
      refine ⟨x1, fun i hi => ?_⟩
      match i, hi with
      | 0, _ => exact x2
      | 1, _ => exact x3
      | 2, _ => exact x4
      | 3, _ => exact x5
      | i + 4, hi => exact absurd hi (by omega)
  have a4 := hl 4 (by omega)
  have p5 : (pz_pk t pl 5 : Int) = (pz_pk t pl 4 : Int) * 256 + t (pl + (4 : Nat)) := pz_pk_s (by omega) a4
  have s5 : sz = 5 := by omega
  subst s5
  refine ⟨?_, by omega⟩
  have := pz_mk5 a0 a1 a2 a3 a4 w hw
  unfold pz_M
  constructor
  · intro ⟨y1, y2⟩
    have := this.mp ⟨y1, y2 0 (by omega), y2 1 (by omega), y2 2 (by omega), y2 3 (by omega), y2 4 (by omega)⟩
    omega
  · intro y
    obtain ⟨x1, x2, x3, x4, x5, x6⟩ := this.mpr (by omega)
    refine ⟨x1, fun i hi => ?_⟩
    match i, hi with
    | 0, _ => exact x2
    | 1, _ => exact x3
    | 2, _ => exact x4
    | 3, _ => exact x5
    | 4, _ => exact x6
    | i + 5, hi => exact absurd hi (by omega)
theorem pz_wf_h {t : Int → Int} {pl : Int} {sz : Nat} : ∀ (k w : Nat), (pz_wf t pl sz k w = -1 ∧ ∀ j, w ≤ j → j < w + k → ¬ pz_M t pl sz j) ∨ (∃ j, w ≤ j ∧ j < w + k ∧ pz_wf t pl sz k w = j ∧ pz_M t pl sz j)
  | 0, w => Or.inl ⟨rfl, fun j h1 h2 => absurd h2 (by omega)⟩
  | k + 1, w => by
    show ((if pz_Mb t pl sz w = true then (w : Int) else pz_wf t pl sz k (w + 1)) = -1 ∧ _) ∨ (∃ j, w ≤ j ∧ j < w + (k + 1) ∧ (if pz_Mb t pl sz w = true then (w : Int) else pz_wf t pl sz k (w + 1)) = j ∧ _)
    by_cases c : pz_Mb t pl sz w = true
    · rw [if_pos c]
      exact Or.inr ⟨w, by omega, by omega, rfl, pz_Mb_iff.mp c⟩
    · rw [if_neg c]
      rcases pz_wf_h (t := t) (pl := pl) (sz := sz) k (w + 1) with ⟨h1, h2⟩ | ⟨j, h1, h2, h3, h4⟩
      · refine Or.inl ⟨h1, fun j y1 y2 y3 => ?_⟩
        by_cases e : j = w
        · rw [e] at y3; exact c (pz_Mb_iff.mpr y3)
        · exact h2 j (by omega) (by omega) y3
      · exact Or.inr ⟨j, by omega, by omega, h3, h4⟩
theorem pz_en_in {a b : Int} {t : Int → Int} {n : Int} : ∀ (k : Nat) (p : Int), ∀ i, p ≤ i → i < pz_enf a b t n k p → a ≤ t i ∧ t i ≤ b
  | 0, p, i, h1, h2 => absurd h2 (by show ¬ i < p; omega)
  | k + 1, p, i, h1, h2 => by
    have h2 : i < (if p < n ∧ a ≤ t p ∧ t p ≤ b then pz_enf a b t n k (p + 1) else p) := h2
    by_cases q : p < n ∧ a ≤ t p ∧ t p ≤ b
    · rw [if_pos q] at h2
      by_cases e : i = p
      · rw [e]; exact q.2
      · exact pz_en_in k (p + 1) i (by omega) h2
    · rw [if_neg q] at h2; omega
theorem pz_wK {t : Int → Int} {n lim p : Int} (h : pz_k t n lim p = 1) (hp : p ≤ n) : pz_pk t (pz_pl t n lim p) (pz_nx t n lim p - pz_pl t n lim p).toNat < 1099511627776 ∧ ((pz_w t n lim p = -1 ∧ ∀ w : Nat, w < 23 → pz_pk t (pz_pl t n lim p) (pz_nx t n lim p - pz_pl t n lim p).toNat ≠ pz_K w) ∨ (∃ w : Nat, w < 23 ∧ pz_w t n lim p = w ∧ pz_pk t (pz_pl t n lim p) (pz_nx t n lim p - pz_pl t n lim p).toNat = pz_K w)) := by
  obtain ⟨k1, k2, k3, k4, k5⟩ := pz_k1 h hp
  have hl : ∀ i : Nat, i < (pz_nx t n lim p - pz_pl t n lim p).toNat → 97 ≤ t (pz_pl t n lim p + i) ∧ t (pz_pl t n lim p + i) ≤ 122 := by
    intro i hi
    rw [k4] at hi
    exact pz_en_in (n := n) (n - pz_sk t n p).toNat (pz_sk t n p) _ (by omega) (by show _ < pz_en 97 122 t n (pz_sk t n p); omega)
  have M : ∀ w, w < 23 → (pz_M t (pz_pl t n lim p) (pz_nx t n lim p - pz_pl t n lim p).toNat w ↔ pz_pk t (pz_pl t n lim p) (pz_nx t n lim p - pz_pl t n lim p).toNat = pz_K w) ∧ pz_pk t (pz_pl t n lim p) (pz_nx t n lim p - pz_pl t n lim p).toNat < 1099511627776 := fun w hw => pz_MK (t := t) (pl := pz_pl t n lim p) (sz := (pz_nx t n lim p - pz_pl t n lim p).toNat) hw (by omega) (by omega) hl
  refine ⟨(M 0 (by omega)).2, ?_⟩
  unfold pz_w
  rcases pz_wf_h (t := t) (pl := pz_pl t n lim p) (sz := (pz_nx t n lim p - pz_pl t n lim p).toNat) 23 0 with ⟨h1, h2⟩ | ⟨j, h1, h2, h3, h4⟩
  · exact Or.inl ⟨h1, fun w hw y => h2 w (by omega) (by omega) ((M w hw).1.mpr y)⟩
  · exact Or.inr ⟨j, by omega, h3, (M j (by omega)).1.mp h4⟩
theorem pz_K_inj : ∀ a b : Nat, a < 23 → b < 23 → pz_K a = pz_K b → a = b := by
  have key : ∀ a, a < 23 → ∀ b, b < 23 → pz_K a = pz_K b → a = b := by decide +kernel
  exact fun a b ha hb => key a ha b hb
theorem rz_lz {Y K : Nat} (hY : Y < 18446744073709551616) (hK : K < 9223372036854775808) : sv_g (ae_lcmp Y K) = 0 ↔ Y = K := by
  unfold ae_lcmp
  have e : Nat.beq (ae_lbs Y) (ae_lbs K) = decide (Y = K) := by
    rw [show Nat.beq (ae_lbs Y) (ae_lbs K) = decide (ae_lbs Y = ae_lbs K) from by
      cases h : Nat.beq (ae_lbs Y) (ae_lbs K) with
      | true => exact (decide_eq_true (Nat.eq_of_beq_eq_true h)).symm
      | false => exact (decide_eq_false (Nat.ne_of_beq_eq_false h)).symm]
    refine decide_eq_decide.mpr ?_
    show (Y + 9223372036854775808) % 18446744073709551616 = (K + 9223372036854775808) % 18446744073709551616 ↔ Y = K
    omega
  rw [e]
  by_cases h : Y = K
  · rw [decide_eq_true h]
    exact ⟨fun _ => h, fun _ => (by decide : sv_g 0 = 0)⟩
  · rw [decide_eq_false h]
    refine ⟨fun z => ?_, fun z => absurd z h⟩
    exfalso
    cases hb : Nat.ble (ae_lbs Y) (ae_lbs K) with
    | true => rw [hb] at z; exact absurd z (by decide)
    | false => rw [hb] at z; exact absurd z (by decide)
theorem rz_ishub {Y : Nat} {m : dc_M} {v : Int} {m' : dc_M} (h : D_203 Y m v m') (hY : Y < 18446744073709551616) : rz_f [20, 21, 22] m m' ∧ ((∃ w, w < 23 ∧ Y = pz_K w ∧ v ≠ 0 ∧ m' 114 20 = pz_N 0 w ∧ m' 114 21 = (if pz_N 1 w = 0 then 1 else pz_N 1 w) ∧ m' 114 22 = (if pz_N 2 w = 0 then 1 else pz_N 2 w)) ∨ ((∀ w, w < 23 → Y ≠ pz_K w) ∧ v = 0)) := by
  have z99 : (sv_g (ae_lcmp Y 99) = 0) = (Y = 99) := propext (rz_lz hY (by decide))
  have z97 : (sv_g (ae_lcmp Y 97) = 0) = (Y = 97) := propext (rz_lz hY (by decide))
  have z120 : (sv_g (ae_lcmp Y 120) = 0) = (Y = 120) := propext (rz_lz hY (by decide))
  have z101 : (sv_g (ae_lcmp Y 101) = 0) = (Y = 101) := propext (rz_lz hY (by decide))
  have z117 : (sv_g (ae_lcmp Y 117) = 0) = (Y = 117) := propext (rz_lz hY (by decide))
  have z116 : (sv_g (ae_lcmp Y 116) = 0) = (Y = 116) := propext (rz_lz hY (by decide))
  have z111 : (sv_g (ae_lcmp Y 111) = 0) = (Y = 111) := propext (rz_lz hY (by decide))
  have z122 : (sv_g (ae_lcmp Y 122) = 0) = (Y = 122) := propext (rz_lz hY (by decide))
  have z105 : (sv_g (ae_lcmp Y 105) = 0) = (Y = 105) := propext (rz_lz hY (by decide))
  have z1886156147 : (sv_g (ae_lcmp Y 1886156147) = 0) = (Y = 1886156147) := propext (rz_lz hY (by decide))
  have z469920281971 : (sv_g (ae_lcmp Y 469920281971) = 0) = (Y = 469920281971) := propext (rz_lz hY (by decide))
  have z427020345714 : (sv_g (ae_lcmp Y 427020345714) = 0) = (Y = 427020345714) := propext (rz_lz hY (by decide))
  have z112 : (sv_g (ae_lcmp Y 112) = 0) = (Y = 112) := propext (rz_lz hY (by decide))
  have z115 : (sv_g (ae_lcmp Y 115) = 0) = (Y = 115) := propext (rz_lz hY (by decide))
  have z27489 : (sv_g (ae_lcmp Y 27489) = 0) = (Y = 27489) := propext (rz_lz hY (by decide))
  have z27490 : (sv_g (ae_lcmp Y 27490) = 0) = (Y = 27490) := propext (rz_lz hY (by decide))
  have z98 : (sv_g (ae_lcmp Y 98) = 0) = (Y = 98) := propext (rz_lz hY (by decide))
  have z113 : (sv_g (ae_lcmp Y 113) = 0) = (Y = 113) := propext (rz_lz hY (by decide))
  have z109 : (sv_g (ae_lcmp Y 109) = 0) = (Y = 109) := propext (rz_lz hY (by decide))
  have z1751215220 : (sv_g (ae_lcmp Y 1751215220) = 0) = (Y = 1751215220) := propext (rz_lz hY (by decide))
  have z29283 : (sv_g (ae_lcmp Y 29283) = 0) = (Y = 29283) := propext (rz_lz hY (by decide))
  have z29294 : (sv_g (ae_lcmp Y 29294) = 0) = (Y = 29294) := propext (rz_lz hY (by decide))
  have z29300 : (sv_g (ae_lcmp Y 29300) = 0) = (Y = 29300) := propext (rz_lz hY (by decide))
  unfold D_203 at h
  simp only [ne_eq, z99, z97, z120, z101, z117, z116, z111, z122, z105, z1886156147, z469920281971, z427020345714, z112, z115, z27489, z27490, z98, z113, z109, z1751215220, z29283, z29294, z29300] at h
  by_cases y0 : Y = 99
  · simp [y0] at h
    obtain ⟨ev, em⟩ := h
    subst em
    refine ⟨?_, Or.inl ⟨0, by decide, y0, by rw [ev]; decide, ?_, ?_, ?_⟩⟩
    · repeat (first | exact rz_f.rf | refine rz_f.tr ?_ (rz_f.up (by decide)))
    · simp only [dc_up_s, dc_up_i (show (20 : Int) ≠ 21 by decide), dc_up_i (show (20 : Int) ≠ 22 by decide)]; exact (show _ = pz_N 0 0 by decide +kernel)
    · simp only [dc_up_s, dc_up_i (show (21 : Int) ≠ 20 by decide), dc_up_i (show (21 : Int) ≠ 22 by decide)]; exact (show _ = (if pz_N 1 0 = 0 then 1 else pz_N 1 0) by decide +kernel)
    · simp only [dc_up_s, dc_up_i (show (22 : Int) ≠ 20 by decide), dc_up_i (show (22 : Int) ≠ 21 by decide)]; exact (show _ = (if pz_N 2 0 = 0 then 1 else pz_N 2 0) by decide +kernel)
  by_cases y1 : Y = 97
  · simp [y1] at h
    obtain ⟨ev, em⟩ := h
    subst em
    refine ⟨?_, Or.inl ⟨1, by decide, y1, by rw [ev]; decide, ?_, ?_, ?_⟩⟩
    · repeat (first | exact rz_f.rf | refine rz_f.tr ?_ (rz_f.up (by decide)))
    · simp only [dc_up_s, dc_up_i (show (20 : Int) ≠ 21 by decide), dc_up_i (show (20 : Int) ≠ 22 by decide)]; exact (show _ = pz_N 0 1 by decide +kernel)
    · simp only [dc_up_s, dc_up_i (show (21 : Int) ≠ 20 by decide), dc_up_i (show (21 : Int) ≠ 22 by decide)]; exact (show _ = (if pz_N 1 1 = 0 then 1 else pz_N 1 1) by decide +kernel)
    · simp only [dc_up_s, dc_up_i (show (22 : Int) ≠ 20 by decide), dc_up_i (show (22 : Int) ≠ 21 by decide)]; exact (show _ = (if pz_N 2 1 = 0 then 1 else pz_N 2 1) by decide +kernel)
  by_cases y2 : Y = 120
  · simp [y2] at h
    obtain ⟨ev, em⟩ := h
    subst em
    refine ⟨?_, Or.inl ⟨2, by decide, y2, by rw [ev]; decide, ?_, ?_, ?_⟩⟩
    · repeat (first | exact rz_f.rf | refine rz_f.tr ?_ (rz_f.up (by decide)))
    · simp only [dc_up_s, dc_up_i (show (20 : Int) ≠ 21 by decide), dc_up_i (show (20 : Int) ≠ 22 by decide)]; exact (show _ = pz_N 0 2 by decide +kernel)
    · simp only [dc_up_s, dc_up_i (show (21 : Int) ≠ 20 by decide), dc_up_i (show (21 : Int) ≠ 22 by decide)]; exact (show _ = (if pz_N 1 2 = 0 then 1 else pz_N 1 2) by decide +kernel)
    · simp only [dc_up_s, dc_up_i (show (22 : Int) ≠ 20 by decide), dc_up_i (show (22 : Int) ≠ 21 by decide)]; exact (show _ = (if pz_N 2 2 = 0 then 1 else pz_N 2 2) by decide +kernel)
  by_cases y3 : Y = 101
  · simp [y3] at h
    obtain ⟨ev, em⟩ := h
    subst em
    refine ⟨?_, Or.inl ⟨3, by decide, y3, by rw [ev]; decide, ?_, ?_, ?_⟩⟩
    · repeat (first | exact rz_f.rf | refine rz_f.tr ?_ (rz_f.up (by decide)))
    · simp only [dc_up_s, dc_up_i (show (20 : Int) ≠ 21 by decide), dc_up_i (show (20 : Int) ≠ 22 by decide)]; exact (show _ = pz_N 0 3 by decide +kernel)
    · simp only [dc_up_s, dc_up_i (show (21 : Int) ≠ 20 by decide), dc_up_i (show (21 : Int) ≠ 22 by decide)]; exact (show _ = (if pz_N 1 3 = 0 then 1 else pz_N 1 3) by decide +kernel)
    · simp only [dc_up_s, dc_up_i (show (22 : Int) ≠ 20 by decide), dc_up_i (show (22 : Int) ≠ 21 by decide)]; exact (show _ = (if pz_N 2 3 = 0 then 1 else pz_N 2 3) by decide +kernel)
  by_cases y4 : Y = 117
  · simp [y4] at h
    obtain ⟨ev, em⟩ := h
    subst em
    refine ⟨?_, Or.inl ⟨4, by decide, y4, by rw [ev]; decide, ?_, ?_, ?_⟩⟩
    · repeat (first | exact rz_f.rf | refine rz_f.tr ?_ (rz_f.up (by decide)))
    · simp only [dc_up_s, dc_up_i (show (20 : Int) ≠ 21 by decide), dc_up_i (show (20 : Int) ≠ 22 by decide)]; exact (show _ = pz_N 0 4 by decide +kernel)
    · simp only [dc_up_s, dc_up_i (show (21 : Int) ≠ 20 by decide), dc_up_i (show (21 : Int) ≠ 22 by decide)]; exact (show _ = (if pz_N 1 4 = 0 then 1 else pz_N 1 4) by decide +kernel)
    · simp only [dc_up_s, dc_up_i (show (22 : Int) ≠ 20 by decide), dc_up_i (show (22 : Int) ≠ 21 by decide)]; exact (show _ = (if pz_N 2 4 = 0 then 1 else pz_N 2 4) by decide +kernel)
  by_cases y5 : Y = 116
  · simp [y5] at h
    obtain ⟨ev, em⟩ := h
    subst em
    refine ⟨?_, Or.inl ⟨5, by decide, y5, by rw [ev]; decide, ?_, ?_, ?_⟩⟩
    · repeat (first | exact rz_f.rf | refine rz_f.tr ?_ (rz_f.up (by decide)))
    · simp only [dc_up_s, dc_up_i (show (20 : Int) ≠ 21 by decide), dc_up_i (show (20 : Int) ≠ 22 by decide)]; exact (show _ = pz_N 0 5 by decide +kernel)
    · simp only [dc_up_s, dc_up_i (show (21 : Int) ≠ 20 by decide), dc_up_i (show (21 : Int) ≠ 22 by decide)]; exact (show _ = (if pz_N 1 5 = 0 then 1 else pz_N 1 5) by decide +kernel)
    · simp only [dc_up_s, dc_up_i (show (22 : Int) ≠ 20 by decide), dc_up_i (show (22 : Int) ≠ 21 by decide)]; exact (show _ = (if pz_N 2 5 = 0 then 1 else pz_N 2 5) by decide +kernel)
  by_cases y6 : Y = 111
  · simp [y6] at h
    obtain ⟨ev, em⟩ := h
    subst em
    refine ⟨?_, Or.inl ⟨6, by decide, y6, by rw [ev]; decide, ?_, ?_, ?_⟩⟩
    · repeat (first | exact rz_f.rf | refine rz_f.tr ?_ (rz_f.up (by decide)))
    · simp only [dc_up_s, dc_up_i (show (20 : Int) ≠ 21 by decide), dc_up_i (show (20 : Int) ≠ 22 by decide)]; exact (show _ = pz_N 0 6 by decide +kernel)
    · simp only [dc_up_s, dc_up_i (show (21 : Int) ≠ 20 by decide), dc_up_i (show (21 : Int) ≠ 22 by decide)]; exact (show _ = (if pz_N 1 6 = 0 then 1 else pz_N 1 6) by decide +kernel)
    · simp only [dc_up_s, dc_up_i (show (22 : Int) ≠ 20 by decide), dc_up_i (show (22 : Int) ≠ 21 by decide)]; exact (show _ = (if pz_N 2 6 = 0 then 1 else pz_N 2 6) by decide +kernel)
  by_cases y7 : Y = 122
  · simp [y7] at h
    obtain ⟨ev, em⟩ := h
    subst em
    refine ⟨?_, Or.inl ⟨7, by decide, y7, by rw [ev]; decide, ?_, ?_, ?_⟩⟩
    · repeat (first | exact rz_f.rf | refine rz_f.tr ?_ (rz_f.up (by decide)))
    · simp only [dc_up_s, dc_up_i (show (20 : Int) ≠ 21 by decide), dc_up_i (show (20 : Int) ≠ 22 by decide)]; exact (show _ = pz_N 0 7 by decide +kernel)
    · simp only [dc_up_s, dc_up_i (show (21 : Int) ≠ 20 by decide), dc_up_i (show (21 : Int) ≠ 22 by decide)]; exact (show _ = (if pz_N 1 7 = 0 then 1 else pz_N 1 7) by decide +kernel)
    · simp only [dc_up_s, dc_up_i (show (22 : Int) ≠ 20 by decide), dc_up_i (show (22 : Int) ≠ 21 by decide)]; exact (show _ = (if pz_N 2 7 = 0 then 1 else pz_N 2 7) by decide +kernel)
  by_cases y8 : Y = 105
  · simp [y8] at h
    obtain ⟨ev, em⟩ := h
    subst em
    refine ⟨?_, Or.inl ⟨8, by decide, y8, by rw [ev]; decide, ?_, ?_, ?_⟩⟩
    · repeat (first | exact rz_f.rf | refine rz_f.tr ?_ (rz_f.up (by decide)))
    · simp only [dc_up_s, dc_up_i (show (20 : Int) ≠ 21 by decide), dc_up_i (show (20 : Int) ≠ 22 by decide)]; exact (show _ = pz_N 0 8 by decide +kernel)
    · simp only [dc_up_s, dc_up_i (show (21 : Int) ≠ 20 by decide), dc_up_i (show (21 : Int) ≠ 22 by decide)]; exact (show _ = (if pz_N 1 8 = 0 then 1 else pz_N 1 8) by decide +kernel)
    · simp only [dc_up_s, dc_up_i (show (22 : Int) ≠ 20 by decide), dc_up_i (show (22 : Int) ≠ 21 by decide)]; exact (show _ = (if pz_N 2 8 = 0 then 1 else pz_N 2 8) by decide +kernel)
  by_cases y9 : Y = 1886156147
  · simp [y9] at h
    obtain ⟨ev, em⟩ := h
    subst em
    refine ⟨?_, Or.inl ⟨9, by decide, y9, by rw [ev]; decide, ?_, ?_, ?_⟩⟩
    · repeat (first | exact rz_f.rf | refine rz_f.tr ?_ (rz_f.up (by decide)))
    · simp only [dc_up_s, dc_up_i (show (20 : Int) ≠ 21 by decide), dc_up_i (show (20 : Int) ≠ 22 by decide)]; exact (show _ = pz_N 0 9 by decide +kernel)
    · simp only [dc_up_s, dc_up_i (show (21 : Int) ≠ 20 by decide), dc_up_i (show (21 : Int) ≠ 22 by decide)]; exact (show _ = (if pz_N 1 9 = 0 then 1 else pz_N 1 9) by decide +kernel)
    · simp only [dc_up_s, dc_up_i (show (22 : Int) ≠ 20 by decide), dc_up_i (show (22 : Int) ≠ 21 by decide)]; exact (show _ = (if pz_N 2 9 = 0 then 1 else pz_N 2 9) by decide +kernel)
  by_cases y10 : Y = 469920281971
  · simp [y10] at h
    obtain ⟨ev, em⟩ := h
    subst em
    refine ⟨?_, Or.inl ⟨10, by decide, y10, by rw [ev]; decide, ?_, ?_, ?_⟩⟩
    · repeat (first | exact rz_f.rf | refine rz_f.tr ?_ (rz_f.up (by decide)))
    · simp only [dc_up_s, dc_up_i (show (20 : Int) ≠ 21 by decide), dc_up_i (show (20 : Int) ≠ 22 by decide)]; exact (show _ = pz_N 0 10 by decide +kernel)
    · simp only [dc_up_s, dc_up_i (show (21 : Int) ≠ 20 by decide), dc_up_i (show (21 : Int) ≠ 22 by decide)]; exact (show _ = (if pz_N 1 10 = 0 then 1 else pz_N 1 10) by decide +kernel)
    · simp only [dc_up_s, dc_up_i (show (22 : Int) ≠ 20 by decide), dc_up_i (show (22 : Int) ≠ 21 by decide)]; exact (show _ = (if pz_N 2 10 = 0 then 1 else pz_N 2 10) by decide +kernel)
  by_cases y11 : Y = 427020345714
  · simp [y11] at h
    obtain ⟨ev, em⟩ := h
    subst em
    refine ⟨?_, Or.inl ⟨11, by decide, y11, by rw [ev]; decide, ?_, ?_, ?_⟩⟩
    · repeat (first | exact rz_f.rf | refine rz_f.tr ?_ (rz_f.up (by decide)))
    · simp only [dc_up_s, dc_up_i (show (20 : Int) ≠ 21 by decide), dc_up_i (show (20 : Int) ≠ 22 by decide)]; exact (show _ = pz_N 0 11 by decide +kernel)
    · simp only [dc_up_s, dc_up_i (show (21 : Int) ≠ 20 by decide), dc_up_i (show (21 : Int) ≠ 22 by decide)]; exact (show _ = (if pz_N 1 11 = 0 then 1 else pz_N 1 11) by decide +kernel)
    · simp only [dc_up_s, dc_up_i (show (22 : Int) ≠ 20 by decide), dc_up_i (show (22 : Int) ≠ 21 by decide)]; exact (show _ = (if pz_N 2 11 = 0 then 1 else pz_N 2 11) by decide +kernel)
  by_cases y12 : Y = 112
  · simp [y12] at h
    obtain ⟨ev, em⟩ := h
    subst em
    refine ⟨?_, Or.inl ⟨12, by decide, y12, by rw [ev]; decide, ?_, ?_, ?_⟩⟩
    · repeat (first | exact rz_f.rf | refine rz_f.tr ?_ (rz_f.up (by decide)))
    · simp only [dc_up_s, dc_up_i (show (20 : Int) ≠ 21 by decide), dc_up_i (show (20 : Int) ≠ 22 by decide)]; exact (show _ = pz_N 0 12 by decide +kernel)
    · simp only [dc_up_s, dc_up_i (show (21 : Int) ≠ 20 by decide), dc_up_i (show (21 : Int) ≠ 22 by decide)]; exact (show _ = (if pz_N 1 12 = 0 then 1 else pz_N 1 12) by decide +kernel)
    · simp only [dc_up_s, dc_up_i (show (22 : Int) ≠ 20 by decide), dc_up_i (show (22 : Int) ≠ 21 by decide)]; exact (show _ = (if pz_N 2 12 = 0 then 1 else pz_N 2 12) by decide +kernel)
  by_cases y13 : Y = 115
  · simp [y13] at h
    obtain ⟨ev, em⟩ := h
    subst em
    refine ⟨?_, Or.inl ⟨13, by decide, y13, by rw [ev]; decide, ?_, ?_, ?_⟩⟩
    · repeat (first | exact rz_f.rf | refine rz_f.tr ?_ (rz_f.up (by decide)))
    · simp only [dc_up_s, dc_up_i (show (20 : Int) ≠ 21 by decide), dc_up_i (show (20 : Int) ≠ 22 by decide)]; exact (show _ = pz_N 0 13 by decide +kernel)
    · simp only [dc_up_s, dc_up_i (show (21 : Int) ≠ 20 by decide), dc_up_i (show (21 : Int) ≠ 22 by decide)]; exact (show _ = (if pz_N 1 13 = 0 then 1 else pz_N 1 13) by decide +kernel)
    · simp only [dc_up_s, dc_up_i (show (22 : Int) ≠ 20 by decide), dc_up_i (show (22 : Int) ≠ 21 by decide)]; exact (show _ = (if pz_N 2 13 = 0 then 1 else pz_N 2 13) by decide +kernel)
  by_cases y14 : Y = 27489
  · simp [y14] at h
    obtain ⟨ev, em⟩ := h
    subst em
    refine ⟨?_, Or.inl ⟨14, by decide, y14, by rw [ev]; decide, ?_, ?_, ?_⟩⟩
    · repeat (first | exact rz_f.rf | refine rz_f.tr ?_ (rz_f.up (by decide)))
    · simp only [dc_up_s, dc_up_i (show (20 : Int) ≠ 21 by decide), dc_up_i (show (20 : Int) ≠ 22 by decide)]; exact (show _ = pz_N 0 14 by decide +kernel)
    · simp only [dc_up_s, dc_up_i (show (21 : Int) ≠ 20 by decide), dc_up_i (show (21 : Int) ≠ 22 by decide)]; exact (show _ = (if pz_N 1 14 = 0 then 1 else pz_N 1 14) by decide +kernel)
    · simp only [dc_up_s, dc_up_i (show (22 : Int) ≠ 20 by decide), dc_up_i (show (22 : Int) ≠ 21 by decide)]; exact (show _ = (if pz_N 2 14 = 0 then 1 else pz_N 2 14) by decide +kernel)
  by_cases y15 : Y = 27490
  · simp [y15] at h
    obtain ⟨ev, em⟩ := h
    subst em
    refine ⟨?_, Or.inl ⟨15, by decide, y15, by rw [ev]; decide, ?_, ?_, ?_⟩⟩
    · repeat (first | exact rz_f.rf | refine rz_f.tr ?_ (rz_f.up (by decide)))
    · simp only [dc_up_s, dc_up_i (show (20 : Int) ≠ 21 by decide), dc_up_i (show (20 : Int) ≠ 22 by decide)]; exact (show _ = pz_N 0 15 by decide +kernel)
    · simp only [dc_up_s, dc_up_i (show (21 : Int) ≠ 20 by decide), dc_up_i (show (21 : Int) ≠ 22 by decide)]; exact (show _ = (if pz_N 1 15 = 0 then 1 else pz_N 1 15) by decide +kernel)
    · simp only [dc_up_s, dc_up_i (show (22 : Int) ≠ 20 by decide), dc_up_i (show (22 : Int) ≠ 21 by decide)]; exact (show _ = (if pz_N 2 15 = 0 then 1 else pz_N 2 15) by decide +kernel)
  by_cases y16 : Y = 98
  · simp [y16] at h
    obtain ⟨ev, em⟩ := h
    subst em
    refine ⟨?_, Or.inl ⟨16, by decide, y16, by rw [ev]; decide, ?_, ?_, ?_⟩⟩
    · repeat (first | exact rz_f.rf | refine rz_f.tr ?_ (rz_f.up (by decide)))
    · simp only [dc_up_s, dc_up_i (show (20 : Int) ≠ 21 by decide), dc_up_i (show (20 : Int) ≠ 22 by decide)]; exact (show _ = pz_N 0 16 by decide +kernel)
    · simp only [dc_up_s, dc_up_i (show (21 : Int) ≠ 20 by decide), dc_up_i (show (21 : Int) ≠ 22 by decide)]; exact (show _ = (if pz_N 1 16 = 0 then 1 else pz_N 1 16) by decide +kernel)
    · simp only [dc_up_s, dc_up_i (show (22 : Int) ≠ 20 by decide), dc_up_i (show (22 : Int) ≠ 21 by decide)]; exact (show _ = (if pz_N 2 16 = 0 then 1 else pz_N 2 16) by decide +kernel)
  by_cases y17 : Y = 113
  · simp [y17] at h
    obtain ⟨ev, em⟩ := h
    subst em
    refine ⟨?_, Or.inl ⟨17, by decide, y17, by rw [ev]; decide, ?_, ?_, ?_⟩⟩
    · repeat (first | exact rz_f.rf | refine rz_f.tr ?_ (rz_f.up (by decide)))
    · simp only [dc_up_s, dc_up_i (show (20 : Int) ≠ 21 by decide), dc_up_i (show (20 : Int) ≠ 22 by decide)]; exact (show _ = pz_N 0 17 by decide +kernel)
    · simp only [dc_up_s, dc_up_i (show (21 : Int) ≠ 20 by decide), dc_up_i (show (21 : Int) ≠ 22 by decide)]; exact (show _ = (if pz_N 1 17 = 0 then 1 else pz_N 1 17) by decide +kernel)
    · simp only [dc_up_s, dc_up_i (show (22 : Int) ≠ 20 by decide), dc_up_i (show (22 : Int) ≠ 21 by decide)]; exact (show _ = (if pz_N 2 17 = 0 then 1 else pz_N 2 17) by decide +kernel)
  by_cases y18 : Y = 109
  · simp [y18] at h
    obtain ⟨ev, em⟩ := h
    subst em
    refine ⟨?_, Or.inl ⟨18, by decide, y18, by rw [ev]; decide, ?_, ?_, ?_⟩⟩
    · repeat (first | exact rz_f.rf | refine rz_f.tr ?_ (rz_f.up (by decide)))
    · simp only [dc_up_s, dc_up_i (show (20 : Int) ≠ 21 by decide), dc_up_i (show (20 : Int) ≠ 22 by decide)]; exact (show _ = pz_N 0 18 by decide +kernel)
    · simp only [dc_up_s, dc_up_i (show (21 : Int) ≠ 20 by decide), dc_up_i (show (21 : Int) ≠ 22 by decide)]; exact (show _ = (if pz_N 1 18 = 0 then 1 else pz_N 1 18) by decide +kernel)
    · simp only [dc_up_s, dc_up_i (show (22 : Int) ≠ 20 by decide), dc_up_i (show (22 : Int) ≠ 21 by decide)]; exact (show _ = (if pz_N 2 18 = 0 then 1 else pz_N 2 18) by decide +kernel)
  by_cases y19 : Y = 1751215220
  · simp [y19] at h
    obtain ⟨ev, em⟩ := h
    subst em
    refine ⟨?_, Or.inl ⟨19, by decide, y19, by rw [ev]; decide, ?_, ?_, ?_⟩⟩
    · repeat (first | exact rz_f.rf | refine rz_f.tr ?_ (rz_f.up (by decide)))
    · simp only [dc_up_s, dc_up_i (show (20 : Int) ≠ 21 by decide), dc_up_i (show (20 : Int) ≠ 22 by decide)]; exact (show _ = pz_N 0 19 by decide +kernel)
    · simp only [dc_up_s, dc_up_i (show (21 : Int) ≠ 20 by decide), dc_up_i (show (21 : Int) ≠ 22 by decide)]; exact (show _ = (if pz_N 1 19 = 0 then 1 else pz_N 1 19) by decide +kernel)
    · simp only [dc_up_s, dc_up_i (show (22 : Int) ≠ 20 by decide), dc_up_i (show (22 : Int) ≠ 21 by decide)]; exact (show _ = (if pz_N 2 19 = 0 then 1 else pz_N 2 19) by decide +kernel)
  by_cases y20 : Y = 29283
  · simp [y20] at h
    obtain ⟨ev, em⟩ := h
    subst em
    refine ⟨?_, Or.inl ⟨20, by decide, y20, by rw [ev]; decide, ?_, ?_, ?_⟩⟩
    · repeat (first | exact rz_f.rf | refine rz_f.tr ?_ (rz_f.up (by decide)))
    · simp only [dc_up_s, dc_up_i (show (20 : Int) ≠ 21 by decide), dc_up_i (show (20 : Int) ≠ 22 by decide)]; exact (show _ = pz_N 0 20 by decide +kernel)
    · simp only [dc_up_s, dc_up_i (show (21 : Int) ≠ 20 by decide), dc_up_i (show (21 : Int) ≠ 22 by decide)]; exact (show _ = (if pz_N 1 20 = 0 then 1 else pz_N 1 20) by decide +kernel)
    · simp only [dc_up_s, dc_up_i (show (22 : Int) ≠ 20 by decide), dc_up_i (show (22 : Int) ≠ 21 by decide)]; exact (show _ = (if pz_N 2 20 = 0 then 1 else pz_N 2 20) by decide +kernel)
  by_cases y21 : Y = 29294
  · simp [y21] at h
    obtain ⟨ev, em⟩ := h
    subst em
    refine ⟨?_, Or.inl ⟨21, by decide, y21, by rw [ev]; decide, ?_, ?_, ?_⟩⟩
    · repeat (first | exact rz_f.rf | refine rz_f.tr ?_ (rz_f.up (by decide)))
    · simp only [dc_up_s, dc_up_i (show (20 : Int) ≠ 21 by decide), dc_up_i (show (20 : Int) ≠ 22 by decide)]; exact (show _ = pz_N 0 21 by decide +kernel)
    · simp only [dc_up_s, dc_up_i (show (21 : Int) ≠ 20 by decide), dc_up_i (show (21 : Int) ≠ 22 by decide)]; exact (show _ = (if pz_N 1 21 = 0 then 1 else pz_N 1 21) by decide +kernel)
    · simp only [dc_up_s, dc_up_i (show (22 : Int) ≠ 20 by decide), dc_up_i (show (22 : Int) ≠ 21 by decide)]; exact (show _ = (if pz_N 2 21 = 0 then 1 else pz_N 2 21) by decide +kernel)
  by_cases y22 : Y = 29300
  · simp [y22] at h
    obtain ⟨ev, em⟩ := h
    subst em
    refine ⟨?_, Or.inl ⟨22, by decide, y22, by rw [ev]; decide, ?_, ?_, ?_⟩⟩
    · repeat (first | exact rz_f.rf | refine rz_f.tr ?_ (rz_f.up (by decide)))
    · simp only [dc_up_s, dc_up_i (show (20 : Int) ≠ 21 by decide), dc_up_i (show (20 : Int) ≠ 22 by decide)]; exact (show _ = pz_N 0 22 by decide +kernel)
    · simp only [dc_up_s, dc_up_i (show (21 : Int) ≠ 20 by decide), dc_up_i (show (21 : Int) ≠ 22 by decide)]; exact (show _ = (if pz_N 1 22 = 0 then 1 else pz_N 1 22) by decide +kernel)
    · simp only [dc_up_s, dc_up_i (show (22 : Int) ≠ 20 by decide), dc_up_i (show (22 : Int) ≠ 21 by decide)]; exact (show _ = (if pz_N 2 22 = 0 then 1 else pz_N 2 22) by decide +kernel)
  simp [y0, y1, y2, y3, y4, y5, y6, y7, y8, y9, y10, y11, y12, y13, y14, y15, y16, y17, y18, y19, y20, y21, y22] at h
  obtain ⟨ev, em⟩ := h
  subst em
  refine ⟨?_, Or.inr ⟨?_, ev⟩⟩
  · repeat (first | exact rz_f.rf | refine rz_f.tr ?_ (rz_f.up (by decide)))
  · intro w hw
    match w, hw with
    | 0, _ => exact y0
    | 1, _ => exact y1
    | 2, _ => exact y2
    | 3, _ => exact y3
    | 4, _ => exact y4
    | 5, _ => exact y5
    | 6, _ => exact y6
    | 7, _ => exact y7
    | 8, _ => exact y8
    | 9, _ => exact y9
    | 10, _ => exact y10
    | 11, _ => exact y11
    | 12, _ => exact y12
    | 13, _ => exact y13
    | 14, _ => exact y14
    | 15, _ => exact y15
    | 16, _ => exact y16
    | 17, _ => exact y17
    | 18, _ => exact y18
    | 19, _ => exact y19
    | 20, _ => exact y20
    | 21, _ => exact y21
    | 22, _ => exact y22
    | w + 23, h => exact absurd h (by omega)
