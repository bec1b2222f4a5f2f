/-! THE BOARD'S TEXT, hubs, wires, the whole: the class -/
def pz_bd {α β : Type} (r : pz_E α) (f : α → pz_E β) : pz_E β := match r with
  | .inl x => .inl x
  | .inr a => f a
theorem pz_on_bd {α β : Type} {r : pz_E α} {f : α → pz_E β} {P : Int × Int → Prop} {Q : β → Prop} (h1 : ∀ x, r = .inl x → P x) (h2 : ∀ a, r = .inr a → pz_on (f a) P Q) : pz_on (pz_bd r f) P Q := by
  cases r with
  | inl x => exact h1 x rfl
  | inr a => exact h2 a rfl
theorem pz_on_l {α : Type} {r : pz_E α} {P : Int × Int → Prop} {Q : α → Prop} {x : Int × Int} (h : pz_on r P Q) (e : r = .inl x) : P x := by rw [e] at h; exact h
theorem pz_on_r {α : Type} {r : pz_E α} {P : Int × Int → Prop} {Q : α → Prop} {a : α} (h : pz_on r P Q) (e : r = .inr a) : Q a := by rw [e] at h; exact h
def pz_N (j w : Nat) : Int := sv_g ((ae_xr9 j).getD w 0)
theorem pz_N_b : ∀ w : Nat, w < 23 → (0 ≤ pz_N 0 w ∧ pz_N 0 w ≤ 216) ∧ (0 ≤ pz_N 1 w ∧ pz_N 1 w ≤ 20) ∧ (0 ≤ pz_N 2 w ∧ pz_N 2 w ≤ 6) := by decide +kernel
def pz_hn3 (t : Int → Int) (n lim : Int) (w : Nat) (a p : Int) : pz_E (Int × Int) := pz_bd (pz_num t n lim p 1 (pz_N 2 w)) fun q => .inr (pz_N 0 w + (a - 1) * pz_N 2 w + q.1 - 1, q.2)
def pz_hn2 (t : Int → Int) (n lim : Int) (w : Nat) (a p : Int) : pz_E (Int × Int) := if pz_N 2 w = 0 then .inr (pz_N 0 w + a - 1, p) else pz_bd (pz_sgn t n lim p 46) fun p2 => pz_hn3 t n lim w a p2
/-- the numbers behind a hub's word -/
def pz_hn (t : Int → Int) (n lim : Int) (w : Nat) (p : Int) : pz_E (Int × Int) := if pz_N 1 w = 0 then .inr (pz_N 0 w, p) else pz_bd (pz_num t n lim p 1 (pz_N 1 w)) fun q => pz_hn2 t n lim w q.1 q.2
theorem cz_E.rf {m m' : dc_M} {f : Int × Int} (h : cz_E m m' f) : cz_E m m' f := h
theorem cz_hn {w : Nat} {m : dc_M} {v : Int} {m' : dc_M} {t : Int → Int} {n lim p : Int} (hw : w < 23) (h : D_12 (w : Int) m v m') (S : cz_S m t n lim p) : pz_on (pz_hn t n lim w p) (fun f => v = -1 ∧ cz_E m m' f) (fun q => v = q.1 ∧ (0 ≤ q.1 ∧ q.1 ≤ 400) ∧ cz_F m m' ∧ cz_S m' t n lim q.2) := by
  obtain ⟨b0, b1, b2⟩ := pz_N_b w hw
  obtain ⟨-, -, h⟩ := h
  have et : ((w : Int)).toNat = w := Int.toNat_natCast w
  rw [et] at h
  have g0 : sv_g ((ae_xr9 0).getD w 0) = pz_N 0 w := rfl
  have g1 : sv_g ((ae_xr9 1).getD w 0) = pz_N 1 w := rfl
  have g2 : sv_g ((ae_xr9 2).getD w 0) = pz_N 2 w := rfl
  rw [g0, g1, g2] at h
  unfold pz_hn
  rcases h with ⟨c1, -, v1, m1, hd, h⟩ | ⟨c1, ev, em⟩
  · rw [if_neg c1]
    have q := cz_tnum hd S
    refine pz_on_bd (fun f e => ?_) (fun a e => ?_)
    · obtain ⟨q1, q2⟩ := pz_on_l q e
      rcases h with ⟨c2, -⟩ | ⟨-, ev, em⟩
      · exact absurd q1 c2
      · rw [em]; exact ⟨ev, q2⟩
    · obtain ⟨q1, q2, q3, q4⟩ := pz_on_r q e
      obtain ⟨a, p1⟩ := a
      have q1 : v1 = a := q1
      have q2 : 1 ≤ a ∧ a ≤ pz_N 1 w := q2
      show pz_on (pz_hn2 t n lim w a p1) _ _
      have q4 : cz_S m1 t n lim p1 := q4
      unfold pz_hn2
      rcases h with ⟨c2, -, h⟩ | ⟨c2, -⟩
      · rcases h with ⟨c3, v2, m2, hd2, h⟩ | ⟨c3, ev, em⟩
        · rw [if_neg c3]
          have r := cz_tsgn hd2 q4
          refine pz_on_bd (fun f e => ?_) (fun p2 e => ?_)
          · obtain ⟨r1, r2⟩ := pz_on_l r e
            rcases h with ⟨c4, -⟩ | ⟨-, ev, em⟩
            · exact absurd r1 c4
            · rw [em]; exact ⟨ev, cz_E.go q3 r2⟩
          · obtain ⟨r1, r2, r3⟩ := pz_on_r r e
            rcases h with ⟨c4, -, v3, m3, hd3, h⟩ | ⟨c4, -⟩
            · have s := cz_tnum hd3 r3
              unfold pz_hn3
              refine pz_on_bd (fun f e => ?_) (fun b e => ?_)
              · obtain ⟨s1, s2⟩ := pz_on_l s e
                rcases h with ⟨c5, -⟩ | ⟨-, ev, em⟩
                · exact absurd s1 c5
                · rw [em]; exact ⟨ev, cz_E.go (q3.tr r2) s2⟩
              · obtain ⟨s1, s2, s3, s4⟩ := pz_on_r s e
                obtain ⟨b, p3⟩ := b
                have s1 : v3 = b := s1
                have s2 : 1 ≤ b ∧ b ≤ pz_N 2 w := s2
                rcases h with ⟨c5, -, ev, em⟩ | ⟨c5, -⟩
                · have k0 : 0 ≤ (a - 1) * pz_N 2 w := Int.mul_nonneg (by omega) (by omega)
                  have k1 : (a - 1) * pz_N 2 w ≤ 19 * 6 := Int.mul_le_mul (by omega) (by omega) (by omega) (by omega)
                  rw [q1, s1] at ev
                  rw [dc_w_eq (z := a - 1) (by unfold sv_I; omega), dc_w_eq (z := (a - 1) * pz_N 2 w) (by unfold sv_I; omega), dc_w_eq (z := pz_N 0 w + (a - 1) * pz_N 2 w) (by unfold sv_I; omega), dc_w_eq (z := pz_N 0 w + (a - 1) * pz_N 2 w + b) (by unfold sv_I; omega), dc_w_eq (by unfold sv_I; omega)] at ev
                  rw [em]
                  exact ⟨ev, ⟨by show 0 ≤ pz_N 0 w + (a - 1) * pz_N 2 w + b - 1; omega, by show pz_N 0 w + (a - 1) * pz_N 2 w + b - 1 ≤ 400; omega⟩, (q3.tr r2).tr s3, s4⟩
                · exfalso; omega
            · exfalso; omega
        · have c3 : pz_N 2 w = 0 := by omega
          rw [if_pos c3]
          rw [q1] at ev
          rw [dc_w_eq (z := pz_N 0 w + a) (by unfold sv_I; omega), dc_w_eq (by unfold sv_I; omega)] at ev
          rw [em]
          exact ⟨ev, ⟨by show 0 ≤ pz_N 0 w + a - 1; omega, by show pz_N 0 w + a - 1 ≤ 400; omega⟩, q3, q4⟩
      · exfalso; omega
  · have c1 : pz_N 1 w = 0 := by omega
    rw [if_pos c1]
    rw [em]
    exact ⟨ev, ⟨b0.1, by show pz_N 0 w ≤ 400; omega⟩, cz_F.rf, S⟩
/-! wires -/
def pz_us (x : Int) : List (Int × Int) → Int
  | [] => 0
  | a :: W => (if a.1 = x ∨ a.2 = x then 1 else 0) + pz_us x W
/-- the board at k holds the wires W -/
def cz_W (m : dc_M) (k : Nat) (W : List (Int × Int)) : Prop := m k 2 = (W.length : Int) ∧ W.length ≤ 60 ∧ ∀ i : Nat, i < W.length → m (k + 1) (i : Int) = (W.getD i (0, 0)).1 ∧ m (k + 2) (i : Int) = (W.getD i (0, 0)).2
theorem cz_W.go {m m' : dc_M} {k : Nat} {W : List (Int × Int)} (h : cz_W m k W) (hk : 3 ≤ k) (f : ∀ k i, k ≠ 1 → m' k i = m k i) : cz_W m' k W := ⟨(f k 2 (by omega)).trans h.1, h.2.1, fun i hi => ⟨(f (k + 1) i (by omega)).trans (h.2.2 i hi).1, (f (k + 2) i (by omega)).trans (h.2.2 i hi).2⟩⟩
theorem pz_drop {W : List (Int × Int)} {i : Nat} (hi : i < W.length) : W.drop i = W.getD i (0, 0) :: W.drop (i + 1) := by
  rw [List.drop_eq_getElem_cons hi, List.getD_eq_getElem?_getD, List.getElem?_eq_getElem hi]; rfl
theorem cz_us : ∀ (c : Nat) (l2 l3 : Int) (m : dc_M) (v : Int) (m' : dc_M) (k : Nat) (x : Int) (W : List (Int × Int)) (i : Nat), LM_3 k x c 4 l2 l3 m v m' → cz_W m k W → l3 = i → i ≤ W.length → 0 ≤ l2 → l2 ≤ l3 → m' = m ∧ v = l2 + pz_us x (W.drop i) := by
  intro c
  induction c with
  | zero => intro l2 l3 m v m' k x W i h; exact h.elim
  | succ c ih =>
    intro l2 l3 m v m' k x W i h hW e3 hi h0 h1
    have h60 := hW.2.1
    replace h := lm_3_4.mp h
    rcases h with ⟨c1, ev, em⟩ | ⟨c1, -, h⟩
    · rw [hW.1] at c1
      rw [List.drop_eq_nil_of_le (by omega)]
      exact ⟨em, by show v = l2 + 0; omega⟩
    · rw [hW.1] at c1
      have hl : i < W.length := by omega
      have w2 : dc_w (l2 + 1) = l2 + 1 := dc_w_eq (by unfold sv_I; omega)
      have w3 : dc_w (l3 + 1) = l3 + 1 := dc_w_eq (by unfold sv_I; omega)
      obtain ⟨g1, g2⟩ := hW.2.2 i hl
      rw [w2, w3, e3, g1, g2] at h
      rw [pz_drop hl]
      show m' = m ∧ v = l2 + ((if (W.getD i (0, 0)).1 = x ∨ (W.getD i (0, 0)).2 = x then 1 else 0) + pz_us x (W.drop (i + 1)))
      rcases h with ⟨c2, h⟩ | ⟨c2, -, h⟩
      · rw [if_pos (Or.inl c2)]
        obtain ⟨q1, q2⟩ := ih _ _ m v m' k x W (i + 1) h hW (by omega) (by omega) (by omega) (by omega)
        exact ⟨q1, by omega⟩
      · rcases h with ⟨c3, h⟩ | ⟨c3, h⟩
        · rw [if_neg (by omega)]
          obtain ⟨q1, q2⟩ := ih _ _ m v m' k x W (i + 1) h hW (by omega) (by omega) (by omega) (by omega)
          exact ⟨q1, by omega⟩
        · rw [if_pos (Or.inr (by omega))]
          obtain ⟨q1, q2⟩ := ih _ _ m v m' k x W (i + 1) h hW (by omega) (by omega) (by omega) (by omega)
          exact ⟨q1, by omega⟩
/-- no wire more may have this hub -/
abbrev pz_full (x : Int) (W : List (Int × Int)) : Prop := (if x < 96 ∨ 181 ≤ x then 8 else 1) ≤ pz_us x W
theorem cz_more {k : Nat} {x : Int} {m : dc_M} {v : Int} {m' : dc_M} {W : List (Int × Int)} (h : D_4 k x m v m') (hW : cz_W m k W) : m' = m ∧ ((v ≠ 0 ∧ ¬ pz_full x W) ∨ (v = 0 ∧ pz_full x W)) := by
  have us : ∀ v1 m1, D_3 k x m v1 m1 → m1 = m ∧ v1 = pz_us x W := fun v1 m1 ⟨c, hd⟩ => by
    obtain ⟨q1, q2⟩ := cz_us c 0 0 m v1 m1 k x W 0 hd hW rfl (by omega) (by omega) (by omega)
    exact ⟨q1, by rw [q2, List.drop_zero]; omega⟩
  unfold pz_full
  rcases h with ⟨c1, v1, m1, hd, h⟩ | ⟨c1, h⟩
  · obtain ⟨e1, e2⟩ := us v1 m1 hd
    rw [if_pos (Or.inl c1)]
    rcases h with ⟨c2, ev, em⟩ | ⟨c2, ev, em⟩
    · exact ⟨em.trans e1, Or.inr ⟨ev, by omega⟩⟩
    · exact ⟨em.trans e1, Or.inl ⟨by omega, by omega⟩⟩
  · rcases h with ⟨c2, v1, m1, hd, h⟩ | ⟨c2, v1, m1, hd, h⟩
    · obtain ⟨e1, e2⟩ := us v1 m1 hd
      rw [if_pos (Or.inr (by omega))]
      rcases h with ⟨c3, ev, em⟩ | ⟨c3, ev, em⟩
      · exact ⟨em.trans e1, Or.inr ⟨ev, by omega⟩⟩
      · exact ⟨em.trans e1, Or.inl ⟨by omega, by omega⟩⟩
    · obtain ⟨e1, e2⟩ := us v1 m1 hd
      rw [if_neg (by omega)]
      rcases h with ⟨c3, ev, em⟩ | ⟨c3, ev, em⟩
      · exact ⟨em.trans e1, Or.inr ⟨ev, by omega⟩⟩
      · exact ⟨em.trans e1, Or.inl ⟨by omega, by omega⟩⟩
/-- one hub at p; a is the wire's first hub, or -1 -/
def pz_hub (t : Int → Int) (n lim : Int) (W : List (Int × Int)) (a p : Int) : pz_E (Int × Int) := if pz_k t n lim p = 1 ∧ pz_w t n lim p ≠ -1 then (if a = -1 ∧ 60 ≤ (W.length : Int) then .inl (4, pz_pl t n lim p) else pz_bd (pz_hn t n lim (pz_w t n lim p).toNat (pz_nx t n lim p)) fun q => if q.1 = a ∨ pz_full q.1 W then .inl (3, pz_pl t n lim p) else .inr q) else .inl (1, pz_pl t n lim p)
theorem pz_hub_60 {t : Int → Int} {n lim : Int} {W : List (Int × Int)} {p : Int} {q : Int × Int} (h : pz_hub t n lim W (-1) p = .inr q) : W.length < 60 := by
  unfold pz_hub at h
  split at h
  · split at h
    · cases h
    · next c => omega
  · cases h
theorem cz_hubx {k : Nat} {x pl : Int} {w : Nat} {m : dc_M} {v : Int} {m' : dc_M} {t : Int → Int} {n lim p : Int} {W : List (Int × Int)} (h : ∃ v_68 m_73, D_117 m v_68 m_73 ∧ (∃ v_87 m_92, D_12 (w : Int) m_73 v_87 m_92 ∧ ((((v_87 : Int) = (-1) ∧ (v = v_87 ∧ m' = m_92)) ∨ (¬ ((v_87 : Int) = (-1)) ∧ ((((v_87 : Int) = x ∧ (∃ v_144 m_149, D_123 3 pl m_92 v_144 m_149 ∧ (v = (-1) ∧ m' = m_149))) ∨ (¬ ((v_87 : Int) = x) ∧ (∃ v_170 m_175, D_4 k v_87 m_92 v_170 m_175 ∧ ((((v_170 : Int) ≠ 0 ∧ (v = v_87 ∧ m' = m_175)) ∨ (¬ ((v_170 : Int) ≠ 0) ∧ (∃ v_200 m_205, D_123 3 pl m_175 v_200 m_205 ∧ (v = (-1) ∧ m' = m_205)))))))))))))) (hw : w < 23) (S : cz_S m t n lim p) (hW : cz_W m k W) (hk : 3 ≤ k) : pz_on (pz_bd (pz_hn t n lim w (pz_nx t n lim p)) fun q => if q.1 = x ∨ pz_full q.1 W then .inl (3, pl) else .inr q) (fun f => v = -1 ∧ cz_E m m' f) (fun q => v = q.1 ∧ (0 ≤ q.1 ∧ q.1 ≤ 400) ∧ cz_F m m' ∧ cz_S m' t n lim q.2) := by
  obtain ⟨v1, m1, hd, v2, m2, hd2, h⟩ := h
  obtain ⟨f1, S1⟩ := cz_S_adv hd S
  have q := cz_hn hw hd2 S1
  refine pz_on_bd (fun f e => ?_) (fun a e => ?_)
  · obtain ⟨q1, q2⟩ := pz_on_l q e
    rcases h with ⟨c1, ev, em⟩ | ⟨c1, -⟩
    · rw [em]; exact ⟨ev.trans q1, cz_E.go f1 q2⟩
    · exact absurd q1 c1
  · obtain ⟨q1, q2, q3, q4⟩ := pz_on_r q e
    rcases h with ⟨c1, -⟩ | ⟨c1, h⟩
    · exfalso; omega
    · rw [q1] at h
      rcases h with ⟨c2, v3, m3, hd3, ev, em⟩ | ⟨c2, v3, m3, hd3, h⟩
      · rw [if_pos (Or.inl c2), em]
        exact ⟨ev, cz_E.go (f1.tr q3) (cz_mark hd3).2⟩
      · obtain ⟨e1, e2⟩ := cz_more hd3 (hW.go hk (f1.tr q3).1)
        subst e1
        rcases h with ⟨c3, ev, em⟩ | ⟨c3, v4, m4, hd4, ev, em⟩
        · rw [if_neg (by
            intro z
            rcases z with z | z
            · exact c2 z
            · rcases e2 with ⟨-, y⟩ | ⟨y, -⟩
              · exact y z
              · exact c3 y), em]
          exact ⟨ev, q2, f1.tr q3, q4⟩
        · rw [if_pos (Or.inr (by
            rcases e2 with ⟨y, -⟩ | ⟨-, y⟩
            · exact absurd y c3
            · exact y)), em]
          exact ⟨ev, cz_E.go (f1.tr q3) (cz_mark hd4).2⟩
theorem cz_hub {k : Nat} {x : Int} {m : dc_M} {v : Int} {m' : dc_M} {t : Int → Int} {n lim p : Int} {W : List (Int × Int)} (h : D_10 k x m v m') (S : cz_S m t n lim p) (hW : cz_W m k W) (hk : 3 ≤ k) : pz_on (pz_hub t n lim W x p) (fun f => v = -1 ∧ cz_E m m' f) (fun q => v = q.1 ∧ (0 ≤ q.1 ∧ q.1 ≤ 400) ∧ cz_F m m' ∧ cz_S m' t n lim q.2) := by
  obtain ⟨v1, m1, hd, h⟩ := h
  obtain ⟨e1, e2⟩ := cz_wd hd S
  subst e1
  have pl := S.2.1.2.1
  unfold pz_hub
  rw [pl] at h
  have hr : pz_w t n lim p = -1 ∨ (0 ≤ pz_w t n lim p ∧ pz_w t n lim p < 23) := by
    rcases pz_wf_r (t := t) (pl := pz_pl t n lim p) (sz := (pz_nx t n lim p - pz_pl t n lim p).toNat) 23 0 with z | z
    · exact Or.inl z
    · exact Or.inr ⟨by unfold pz_w; omega, by unfold pz_w; omega⟩
  rcases h with ⟨c1, h⟩ | ⟨c1, v2, m2, hd2, ev, em⟩
  · have c0 : pz_k t n lim p = 1 ∧ pz_w t n lim p ≠ -1 := by
      by_cases z : pz_k t n lim p = 1
      · rw [if_pos z] at e2; exact ⟨z, by omega⟩
      · rw [if_neg z] at e2; exact absurd e2 c1
    rw [if_pos c0]
    rw [if_pos c0.1] at e2
    have ew : v1 = (((pz_w t n lim p).toNat : Nat) : Int) := by omega
    rw [ew] at h
    rcases h with ⟨c2, h⟩ | ⟨c2, h⟩
    · rw [if_neg (fun z => c2 z.1)]
      exact cz_hubx h (by omega) S hW hk
    · rw [hW.1] at h
      rcases h with ⟨c3, h⟩ | ⟨c3, v2, m2, hd2, ev, em⟩
      · rw [if_neg (by omega)]
        exact cz_hubx h (by omega) S hW hk
      · rw [if_pos ⟨by omega, by omega⟩, em]
        exact ⟨ev, (cz_mark hd2).2⟩
  · have c0 : ¬ (pz_k t n lim p = 1 ∧ pz_w t n lim p ≠ -1) := fun z => by rw [if_pos z.1] at e2; exact c1 (by rw [e2]; exact z.2)
    rw [if_neg c0, em]
    exact ⟨ev, (cz_mark hd2).2⟩
/-- what reading a board's text leaves alone -/
def cz_G (k : Nat) (m m' : dc_M) : Prop := (∀ j i, j ≠ 1 → j ≠ k → j ≠ k + 1 → j ≠ k + 2 → m' j i = m j i) ∧ m' 1 1 = m 1 1
theorem cz_G.rf {k : Nat} {m : dc_M} : cz_G k m m := ⟨fun _ _ _ _ _ _ => rfl, rfl⟩
theorem cz_G.tr {k : Nat} {a b c : dc_M} (h : cz_G k a b) (g : cz_G k b c) : cz_G k a c := ⟨fun j i h1 h2 h3 h4 => (g.1 j i h1 h2 h3 h4).trans (h.1 j i h1 h2 h3 h4), g.2.trans h.2⟩
theorem cz_F.g {k : Nat} {a b : dc_M} (h : cz_F a b) : cz_G k a b := ⟨fun j i h1 _ _ _ => h.1 j i h1, h.2.1⟩
theorem cz_E.g {k : Nat} {a b : dc_M} {f : Int × Int} (h : cz_E a b f) : cz_G k a b := ⟨fun j i h1 _ _ _ => h.1 j i h1, h.2.1⟩
theorem pz_gd_l {W : List (Int × Int)} {a : Int × Int} {i : Nat} (h : i < W.length) : (W ++ [a]).getD i (0, 0) = W.getD i (0, 0) := by
  rw [List.getD_eq_getElem?_getD, List.getD_eq_getElem?_getD, List.getElem?_append_left h]
theorem pz_gd_r {W : List (Int × Int)} {a : Int × Int} : (W ++ [a]).getD W.length (0, 0) = a := by
  rw [List.getD_eq_getElem?_getD, List.getElem?_append_right (Nat.le_refl _), Nat.sub_self]; rfl
theorem cz_add {k : Nat} {a b : Int} {m : dc_M} {v : Int} {m' : dc_M} {W : List (Int × Int)} (h : D_2 k a b m v m') (hW : cz_W m k W) (h60 : W.length < 60) : v = 1 ∧ cz_W m' k (W ++ [(a, b)]) ∧ ∀ j i, j ≠ k → j ≠ k + 1 → j ≠ k + 2 → m' j i = m j i := by
  rcases h with ⟨c1, -, m1, e1, -, m2, e2, m3, e3, ev, em⟩ | ⟨c1, -⟩
  · subst em
    have a1 : m1 k 2 = W.length := by rw [e1, dc_up_k (by omega), hW.1]
    rw [a1] at e2
    rw [hW.1] at e1
    have a2 : m2 k 2 = W.length := by rw [e2, dc_up_k (by omega), a1]
    rw [a2, dc_w_eq (by unfold sv_I; omega)] at e3
    refine ⟨ev, ⟨by rw [e3, dc_up_s, List.length_append]; rfl, by rw [List.length_append]; show W.length + 1 ≤ 60; omega, fun i hi => ?_⟩, fun j i h1 h2 h3 => by rw [e3, dc_up_k h1, e2, dc_up_k h3, e1, dc_up_k h2]⟩
    have hi : i < W.length + 1 := by rw [List.length_append] at hi; exact hi
    have f1 : m' (k + 1) (i : Int) = m1 (k + 1) i := by rw [e3, dc_up_k (by omega), e2, dc_up_k (by omega)]
    have f2 : m' (k + 2) (i : Int) = m2 (k + 2) i := by rw [e3, dc_up_k (by omega)]
    by_cases z : i < W.length
    · obtain ⟨g1, g2⟩ := hW.2.2 i z
      rw [pz_gd_l z, f1, f2, e2, dc_up_i (by omega), e1, dc_up_i (by omega), dc_up_k (by omega)]
      exact ⟨g1, g2⟩
    · have z : i = W.length := by omega
      subst z
      rw [pz_gd_r, f1, f2, e2, dc_up_s, e1, dc_up_s]
      exact ⟨rfl, rfl⟩
  · rw [hW.1] at c1; exfalso; omega
/-- one wire at p -/
def pz_wire (t : Int → Int) (n lim : Int) (W : List (Int × Int)) (p : Int) : pz_E ((Int × Int) × Int) := pz_bd (pz_hub t n lim W (-1) p) fun q => pz_bd (pz_sgn t n lim q.2 45) fun p1 => pz_bd (pz_hub t n lim W q.1 p1) fun r => pz_bd (pz_sgn t n lim r.2 59) fun p2 => .inr ((q.1, r.1), p2)
theorem cz_wire {k : Nat} {m : dc_M} {v : Int} {m' : dc_M} {t : Int → Int} {n lim p : Int} {W : List (Int × Int)} (h : D_9 k m v m') (S : cz_S m t n lim p) (hW : cz_W m k W) (hk : 3 ≤ k) : pz_on (pz_wire t n lim W p) (fun f => v = 0 ∧ cz_E m m' f) (fun q => v = 1 ∧ cz_G k m m' ∧ m' 1 8 = m 1 8 ∧ m' 1 9 = m 1 9 ∧ cz_S m' t n lim q.2 ∧ cz_W m' k (W ++ [q.1])) := by
  obtain ⟨v1, m1, hd, h⟩ := h
  have q := cz_hub hd S hW hk
  unfold pz_wire
  refine pz_on_bd (fun f e => ?_) (fun a e => ?_)
  · obtain ⟨q1, q2⟩ := pz_on_l q e
    rcases h with ⟨c1, ev, em⟩ | ⟨c1, -⟩
    · rw [em]; exact ⟨ev, q2⟩
    · exact absurd q1 c1
  · obtain ⟨q1, q2, q3, q4⟩ := pz_on_r q e
    have h60 := pz_hub_60 e
    rcases h with ⟨c1, -⟩ | ⟨c1, v2, m2, hd2, h⟩
    · exfalso; omega
    · have r := cz_tsgn hd2 q4
      refine pz_on_bd (fun f e => ?_) (fun p1 e => ?_)
      · obtain ⟨r1, r2⟩ := pz_on_l r e
        rcases h with ⟨c2, -⟩ | ⟨c2, ev, em⟩
        · exact absurd r1 c2
        · rw [em]; exact ⟨ev, cz_E.go q3 r2⟩
      · obtain ⟨r1, r2, r3⟩ := pz_on_r r e
        rcases h with ⟨c2, v3, m3, hd3, h⟩ | ⟨c2, -⟩
        · have F2 := q3.tr r2
          rw [q1] at hd3
          have s := cz_hub hd3 r3 (hW.go hk F2.1) hk
          refine pz_on_bd (fun f e => ?_) (fun b e => ?_)
          · obtain ⟨s1, s2⟩ := pz_on_l s e
            rcases h with ⟨c3, ev, em⟩ | ⟨c3, -⟩
            · rw [em]; exact ⟨ev, cz_E.go F2 s2⟩
            · exact absurd s1 c3
          · obtain ⟨s1, s2, s3, s4⟩ := pz_on_r s e
            rcases h with ⟨c3, -⟩ | ⟨c3, v4, m4, hd4, h⟩
            · exfalso; omega
            · have F3 := F2.tr s3
              have u := cz_tsgn hd4 s4
              refine pz_on_bd (fun f e => ?_) (fun p2 e => ?_)
              · obtain ⟨u1, u2⟩ := pz_on_l u e
                rcases h with ⟨c4, ev, em⟩ | ⟨c4, -⟩
                · rw [em]; exact ⟨ev, cz_E.go F3 u2⟩
                · exact absurd u1 c4
              · obtain ⟨u1, u2, u3⟩ := pz_on_r u e
                rcases h with ⟨c4, -⟩ | ⟨c4, v5, m5, hd5, h⟩
                · exfalso; omega
                · have F4 := F3.tr u2
                  rw [q1, s1] at hd5
                  obtain ⟨y1, y2, y3⟩ := cz_add hd5 (hW.go hk F4.1) h60
                  rcases h with ⟨c5, -⟩ | ⟨c5, ev, em⟩
                  · exfalso; omega
                  · subst em
                    have x1 : ∀ i, m' 1 i = m4 1 i := fun i => y3 1 i (by omega) (by omega) (by omega)
                    obtain ⟨⟨B1, B2, B3, B4⟩, T, P⟩ := u3
                    refine ⟨ev, F4.g.tr ⟨fun j i _ h2 h3 h4 => y3 j i h2 h3 h4, x1 1⟩, (x1 8).trans F4.2.2.2.1, (x1 9).trans F4.2.2.2.2, ⟨⟨(funext fun i => y3 2 i (by omega) (by omega) (by omega)).trans B1, (x1 1).trans B2, (x1 2).trans B3, B4⟩, ?_, P⟩, y2⟩
                    unfold cz_T at T ⊢
                    rw [x1, x1, x1, x1, x1]
                    exact T
        · exfalso; omega
/-- lines of a board's text -/
def pz_rd (t : Int → Int) (n : Int) : Nat → List (Int × Int) → Int → pz_E (List (Int × Int))
  | 0, _, _ => .inl (0, 0)
  | N + 1, W, p => if pz_k t n 700 p = 0 then (if n ≤ 700 then .inr W else .inl (1, pz_pl t n 700 p)) else pz_bd (pz_wire t n 700 W p) fun q => pz_rd t n N (W ++ [q.1]) q.2
theorem cz_rd {k : Nat} (hk : 3 ≤ k) {t : Int → Int} {n : Int} : ∀ (c : Nat) (l : Int) (m : dc_M) (v : Int) (m' : dc_M) (W : List (Int × Int)) (p : Int) (N : Nat), LM_8 k c 14 l m v m' → l = W.length → N + W.length = 61 → cz_S m t n 700 p → cz_W m k W → pz_on (pz_rd t n N W p) (fun f => v = 0 ∧ cz_G k m m' ∧ m' 1 8 = f.1 ∧ m' 1 9 = f.2) (fun W' => v = 1 ∧ cz_G k m m' ∧ m' 1 8 = m 1 8 ∧ m' 1 9 = m 1 9 ∧ cz_W m' k W') := by
  intro c
  induction c with
  | zero => intro l m v m' W p N h; exact h.elim
  | succ c ih =>
    intro l m v m' W p N h hl hN S hW
    have h60 := hW.2.1
    obtain ⟨N, rfl⟩ : ∃ M, N = M + 1 := ⟨N - 1, by omega⟩
    unfold pz_rd
    have T := S.2.1
    have B := S.1
    replace h := lm_8_14.mp h
    rcases h with ⟨c1, -⟩ | ⟨c1, h⟩
    · exfalso; omega
    · rw [T.1] at h
      rcases h with ⟨c2, v1, m1, hd, h⟩ | ⟨c2, v1, m1, hd, ev, em⟩
      · rw [if_neg c2]
        have q := cz_wire hd S hW hk
        refine pz_on_bd (fun f e => ?_) (fun a e => ?_)
        · obtain ⟨q1, q2⟩ := pz_on_l q e
          rcases h with ⟨c3, -⟩ | ⟨c3, ev, em⟩
          · exact absurd q1 c3
          · rw [em]; exact ⟨ev, q2.g, q2.2.2.1, q2.2.2.2⟩
        · obtain ⟨q1, q2, q8, q9, q3, q4⟩ := pz_on_r q e
          rcases h with ⟨c3, h⟩ | ⟨c3, -⟩
          · rw [dc_w_eq (by unfold sv_I; omega)] at h
            have r := ih (l + 1) m1 v m' (W ++ [a.1]) a.2 N h (by rw [List.length_append]; show l + 1 = ((W.length + 1 : Nat) : Int); omega) (by rw [List.length_append]; show N + (W.length + 1) = 61; omega) q3 q4
            show pz_on (pz_rd t n N (W ++ [a.1]) a.2) _ _
            cases e2 : pz_rd t n N (W ++ [a.1]) a.2 with
            | inl f =>
              obtain ⟨r1, r2, r3⟩ := pz_on_l r e2
              exact ⟨r1, q2.tr r2, r3⟩
            | inr W' =>
              obtain ⟨r1, r2, r3, r4, r5⟩ := pz_on_r r e2
              exact ⟨r1, q2.tr r2, r3.trans q8, r4.trans q9, r5⟩
          · exfalso; omega
      · have c2 : pz_k t n 700 p = 0 := by omega
        rw [if_pos c2]
        subst ev em
        rcases hd with ⟨c3, ev, em⟩ | ⟨c3, v2, m2, hd, h⟩
        · rw [B.2.1, B.2.2.1] at c3
          rw [if_pos c3, em]
          exact ⟨ev, cz_G.rf, rfl, rfl, hW⟩
        · rw [B.2.1, B.2.2.1] at c3
          rw [if_neg c3]
          rw [T.2.1] at hd
          obtain ⟨y1, y2⟩ := cz_mark hd
          rcases h with ⟨c4, ev, em⟩ | ⟨c4, -⟩
          · rw [em]; exact ⟨ev, y2.g, y2.2.2.1, y2.2.2.2⟩
          · exact absurd y1 c4
/-- a board's text, read -/
def pz_all (t : Int → Int) (n : Int) : pz_E (List (Int × Int)) := pz_rd t n 61 [] 0
/-- what board() answers -/
def pz_ans (r : pz_E (List (Int × Int))) : Int := match r with
  | .inl f => -1 - f.2
  | .inr W => W.length
theorem cz_text {k : Nat} (hk : 3 ≤ k) {m : dc_M} {v : Int} {m' : dc_M} (h : D_8 k m v m') (hn : 0 ≤ m 1 1 ∧ m 1 1 ≤ 740) : pz_on (pz_all (m 2) (m 1 1)) (fun f => v = 0 ∧ cz_G k m m' ∧ m' 1 8 = f.1 ∧ m' 1 9 = f.2) (fun W' => v = 1 ∧ cz_G k m m' ∧ m' 1 8 = 0 ∧ m' 1 9 = 0 ∧ cz_W m' k W') := by
  obtain ⟨m0, e0, v1, m1, ⟨a1, x1, a2, x2, a3, x3, a4, x4, v2, m2, hd, -, em⟩, c, h⟩ := h
  subst em
  have fk : ∀ j i, j ≠ 1 → a4 j i = m0 j i := fun j i hj => by rw [x4, dc_up_k hj, x3, dc_up_k hj, x2, dc_up_k hj, x1, dc_up_k hj]
  have f0 : ∀ j i, j ≠ k → m0 j i = m j i := fun j i hj => by rw [e0, dc_up_k hj]
  have g1 : a4 1 1 = m 1 1 := by rw [x4, dc_up_i (by decide), x3, dc_up_i (by decide), x2, dc_up_i (by decide), x1, dc_up_i (by decide), f0 1 1 (by omega)]
  have g2 : a4 1 2 = 700 := by rw [x4, dc_up_i (by decide), x3, dc_up_i (by decide), x2, dc_up_i (by decide), x1, dc_up_s]
  have g3 : a4 1 3 = 0 := by rw [x4, dc_up_i (by decide), x3, dc_up_i (by decide), x2, dc_up_s]
  have g8 : a4 1 8 = 0 := by rw [x4, dc_up_i (by decide), x3, dc_up_s]
  have g9 : a4 1 9 = 0 := by rw [x4, dc_up_s]
  have gt : a4 2 = m 2 := funext fun i => by rw [fk 2 i (by decide), f0 2 i (by omega)]
  have gk : a4 k 2 = 0 := by rw [fk k 2 (by omega), e0, dc_up_s]
  obtain ⟨q1, q2⟩ := cz_adv (t := m 2) (n := m 1 1) (lim := 700) hd ⟨gt, g1, g2, hn⟩ (by rw [g3]; omega) (by rw [g3]; omega)
  rw [g3] at q2
  have S : cz_S m1 (m 2) (m 1 1) 700 0 := ⟨cz_B.go ⟨gt, g1, g2, hn⟩ q1, q2, by omega, by omega⟩
  have hW : cz_W m1 k [] := ⟨by rw [q1.1 k 2 (by omega), gk]; rfl, by show 0 ≤ 60; omega, fun i hi => by cases hi⟩
  have r := cz_rd hk c 0 m1 v m' [] 0 61 h rfl rfl S hW
  have G : cz_G k m m1 := ⟨fun j i h1 h2 h3 h4 => by rw [q1.1 j i h1, fk j i h1, f0 j i h2], q1.2.1.trans g1⟩
  unfold pz_all
  cases e2 : pz_rd (m 2) (m 1 1) 61 [] 0 with
  | inl f =>
    obtain ⟨r1, r2, r3⟩ := pz_on_l r e2
    exact ⟨r1, G.tr r2, r3⟩
  | inr W' =>
    obtain ⟨r1, r2, r3, r4, r5⟩ := pz_on_r r e2
    exact ⟨r1, G.tr r2, r3.trans (q1.2.2.2.1.trans g8), r4.trans (q1.2.2.2.2.trans g9), r5⟩
theorem pz_pl_r {t : Int → Int} {n lim p : Int} (h0 : 0 ≤ p) (h1 : p ≤ n) (hl : 0 ≤ lim) : 0 ≤ pz_pl t n lim p ∧ pz_pl t n lim p ≤ n := by
  have := pz_sk_r (t := t) h1
  unfold pz_pl
  split
  · split <;> omega
  · omega
/-- where a fault may lie -/
def pz_fb (n : Int) (f : Int × Int) : Prop := (0 ≤ f.2 ∧ f.2 ≤ n)
theorem pz_sgn_b {t : Int → Int} {n lim p c : Int} (h0 : 0 ≤ p) (h1 : p ≤ n) (hl : 0 ≤ lim) : pz_on (pz_sgn t n lim p c) (pz_fb n) (fun q => 0 ≤ q ∧ q ≤ n) := by
  have r := pz_nx_r (t := t) (lim := lim) h1
  unfold pz_sgn
  split
  · exact ⟨by omega, r.2⟩
  · exact pz_pl_r h0 h1 hl
theorem pz_num_b {t : Int → Int} {n lim p a b : Int} (h0 : 0 ≤ p) (h1 : p ≤ n) (hl : 0 ≤ lim) : pz_on (pz_num t n lim p a b) (pz_fb n) (fun q => 0 ≤ q.2 ∧ q.2 ≤ n) := by
  have r := pz_nx_r (t := t) (lim := lim) h1
  unfold pz_num
  split
  · split
    · exact ⟨by show 0 ≤ pz_nx t n lim p; omega, r.2⟩
    · exact pz_pl_r h0 h1 hl
  · exact pz_pl_r h0 h1 hl
theorem pz_hn_b {t : Int → Int} {n lim p : Int} {w : Nat} (h0 : 0 ≤ p) (h1 : p ≤ n) (hl : 0 ≤ lim) : pz_on (pz_hn t n lim w p) (pz_fb n) (fun q => 0 ≤ q.2 ∧ q.2 ≤ n) := by
  unfold pz_hn
  split
  · exact ⟨h0, h1⟩
  · refine pz_on_bd (fun f e => pz_on_l (pz_num_b h0 h1 hl) e) (fun a e => ?_)
    obtain ⟨a0, a1⟩ := pz_on_r (pz_num_b h0 h1 hl) e
    unfold pz_hn2
    split
    · exact ⟨a0, a1⟩
    · refine pz_on_bd (fun f e => pz_on_l (pz_sgn_b a0 a1 hl) e) (fun b e => ?_)
      obtain ⟨b0, b1⟩ := pz_on_r (pz_sgn_b a0 a1 hl) e
      unfold pz_hn3
      refine pz_on_bd (fun f e => pz_on_l (pz_num_b b0 b1 hl) e) (fun c e => ?_)
      have z := pz_on_r (pz_num_b b0 b1 hl) e
      exact z
theorem pz_hub_b {t : Int → Int} {n lim p a : Int} {W : List (Int × Int)} (h0 : 0 ≤ p) (h1 : p ≤ n) (hl : 0 ≤ lim) : pz_on (pz_hub t n lim W a p) (pz_fb n) (fun q => 0 ≤ q.2 ∧ q.2 ≤ n) := by
  have pl := pz_pl_r (t := t) h0 h1 hl
  have nx := pz_nx_r (t := t) (lim := lim) h1
  have n0 : 0 ≤ pz_nx t n lim p := by omega
  unfold pz_hub
  split
  · split
    · exact pl
    · refine pz_on_bd (fun f e => pz_on_l (pz_hn_b n0 nx.2 hl) e) (fun c e => ?_)
      have := pz_on_r (pz_hn_b n0 nx.2 hl) e
      split
      · exact pl
      · exact this
  · exact pl
theorem pz_wire_b {t : Int → Int} {n lim p : Int} {W : List (Int × Int)} (h0 : 0 ≤ p) (h1 : p ≤ n) (hl : 0 ≤ lim) : pz_on (pz_wire t n lim W p) (pz_fb n) (fun q => 0 ≤ q.2 ∧ q.2 ≤ n) := by
  unfold pz_wire
  refine pz_on_bd (fun f e => pz_on_l (pz_hub_b h0 h1 hl) e) (fun a e => ?_)
  obtain ⟨a0, a1⟩ := pz_on_r (pz_hub_b h0 h1 hl) e
  refine pz_on_bd (fun f e => pz_on_l (pz_sgn_b a0 a1 hl) e) (fun b e => ?_)
  obtain ⟨b0, b1⟩ := pz_on_r (pz_sgn_b a0 a1 hl) e
  refine pz_on_bd (fun f e => pz_on_l (pz_hub_b b0 b1 hl) e) (fun c e => ?_)
  obtain ⟨c0, c1⟩ := pz_on_r (pz_hub_b b0 b1 hl) e
  refine pz_on_bd (fun f e => pz_on_l (pz_sgn_b c0 c1 hl) e) (fun d e => ?_)
  have z := pz_on_r (pz_sgn_b c0 c1 hl) e
  exact z
theorem pz_rd_b {t : Int → Int} {n : Int} (hn : 0 ≤ n) : ∀ (N : Nat) (W : List (Int × Int)) (p : Int), 0 ≤ p → p ≤ n → pz_on (pz_rd t n N W p) (pz_fb n) (fun _ => True)
  | 0, W, p, h0, h1 => ⟨Int.le_refl 0, hn⟩
  | N + 1, W, p, h0, h1 => by
    unfold pz_rd
    split
    · split
      · trivial
      · exact pz_pl_r h0 h1 (by decide)
    · refine pz_on_bd (fun f e => pz_on_l (pz_wire_b h0 h1 (by decide)) e) (fun a e => ?_)
      obtain ⟨a0, a1⟩ := pz_on_r (pz_wire_b h0 h1 (by decide)) e
      exact pz_rd_b hn N _ _ a0 a1
/-- the class's board() -/
theorem cz_board {m : dc_M} {v : Int} {m' : dc_M} (h : D_150 m v m') (hk : 3 ≤ (m 0 9).toNat) (hn : 0 ≤ m 1 1 ∧ m 1 1 ≤ 740) : v = pz_ans (pz_all (m 2) (m 1 1)) := by
  obtain ⟨v1, m1, hd, m2, e2, h⟩ := h
  have q := cz_text hk hd hn
  have b := pz_rd_b (t := m 2) hn.1 61 [] 0 (by omega) hn.1
  cases e : pz_all (m 2) (m 1 1) with
  | inl f =>
    obtain ⟨q1, q2, q3, q4⟩ := pz_on_l q e
    have b : pz_fb (m 1 1) f := pz_on_l b e
    unfold pz_fb at b
    rcases h with ⟨c1, -⟩ | ⟨c1, ev, em⟩
    · exact absurd q1 c1
    · rw [ev, e2, dc_up_i (by decide), q4, dc_w_eq (by unfold sv_I; omega)]
      rfl
  | inr W =>
    obtain ⟨q1, q2, q3, q4, q5⟩ := pz_on_r q e
    rcases h with ⟨c1, m3, e3, m4, e4, ev, em⟩ | ⟨c1, -⟩
    · have g9 : m2 0 9 = m 0 9 := by rw [e2, dc_up_k (by decide), q2.1 0 9 (by decide) (by omega) (by omega) (by omega)]
      have g8 : m4 0 8 = (((m 0 9).toNat : Nat) : Int) := by rw [e4, dc_up_s, g9]
      rw [ev, g8, Int.toNat_natCast, e4, dc_up_k (by omega), e3, dc_up_k (by omega), e2, dc_up_k (by omega), q5.1]
      rfl
    · exfalso; omega
