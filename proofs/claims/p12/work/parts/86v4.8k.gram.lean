/-! THE BOARD'S TEXT: what it says, and that the class reads it so -/
abbrev pz_E (α : Type) : Type := (Int × Int) ⊕ α
def pz_on {α : Type} (r : pz_E α) (P : Int × Int → Prop) (Q : α → Prop) : Prop := match r with
  | .inl f => P f
  | .inr a => Q a
def pz_sgn (t : Int → Int) (n lim p c : Int) : pz_E Int := if pz_k t n lim p = 3 ∧ pz_v t n lim p = c then .inr (pz_nx t n lim p) else .inl (1, pz_pl t n lim p)
def pz_num (t : Int → Int) (n lim p a b : Int) : pz_E (Int × Int) := if pz_k t n lim p = 2 then (if a ≤ pz_v t n lim p ∧ pz_v t n lim p ≤ b then .inr (pz_v t n lim p, pz_nx t n lim p) else .inl (2, pz_pl t n lim p)) else .inl (1, pz_pl t n lim p)
/-- a fault has been told -/
def cz_E (m m' : dc_M) (f : Int × Int) : Prop := (∀ k i, k ≠ 1 → m' k i = m k i) ∧ m' 1 1 = m 1 1 ∧ m' 1 8 = f.1 ∧ m' 1 9 = f.2
theorem cz_E.go {a b c : dc_M} {f : Int × Int} (h : cz_F a b) (g : cz_E b c f) : cz_E a c f := ⟨fun k i hk => (g.1 k i hk).trans (h.1 k i hk), g.2.1.trans h.2.1, g.2.2⟩
theorem cz_mark {x y : Int} {m : dc_M} {v : Int} {m' : dc_M} (h : D_123 x y m v m') : v = 0 ∧ cz_E m m' (x, y) := by
  obtain ⟨m1, e1, m2, e2, ev, e3⟩ := h
  subst e3
  refine ⟨ev, fun k i hk => by rw [e2, dc_up_k hk, e1, dc_up_k hk], by rw [e2, dc_up_i (by decide), e1, dc_up_i (by decide)], by rw [e2, dc_up_i (by decide), e1, dc_up_s], by rw [e2, dc_up_s]⟩
/-- the token at p stands, and reading may go on from there -/
def cz_S (m : dc_M) (t : Int → Int) (n lim p : Int) : Prop := cz_B m t n lim ∧ cz_T m t n lim p ∧ 0 ≤ p ∧ p ≤ n
theorem cz_S_adv {m : dc_M} {v : Int} {m' : dc_M} {t : Int → Int} {n lim p : Int} (h : D_117 m v m') (S : cz_S m t n lim p) : cz_F m m' ∧ cz_S m' t n lim (pz_nx t n lim p) := by
  obtain ⟨B, T, p0, p1⟩ := S
  have r := pz_nx_r (t := t) (lim := lim) p1
  have e3 := T.2.2.1
  obtain ⟨q1, q2⟩ := cz_adv h B (by rw [e3]; omega) (by rw [e3]; omega)
  rw [e3] at q2
  exact ⟨q1, B.go q1, q2, by omega, by omega⟩
theorem cz_tsgn {c : Int} {m : dc_M} {v : Int} {m' : dc_M} {t : Int → Int} {n lim p : Int} (h : D_125 c m v m') (S : cz_S m t n lim p) : pz_on (pz_sgn t n lim p c) (fun f => v = 0 ∧ cz_E m m' f) (fun p' => v = 1 ∧ cz_F m m' ∧ cz_S m' t n lim p') := by
  have T := S.2.1
  unfold pz_sgn
  rcases h with ⟨c1, v1, m1, hd, ev, em⟩ | ⟨c1, h⟩
  · subst ev em
    rw [T.1] at c1
    rw [if_neg (fun z => c1 z.1)]
    rw [T.2.1] at hd
    exact cz_mark hd
  · rw [T.1] at c1
    have k3 : pz_k t n lim p = 3 := by omega
    have e7 := T.2.2.2.2 (Or.inr k3)
    rcases h with ⟨c2, v1, m1, hd, ev, em⟩ | ⟨c2, v1, m1, hd, ev, em⟩
    · subst ev em
      rw [e7] at c2
      rw [if_pos ⟨k3, c2⟩]
      obtain ⟨q1, q2⟩ := cz_S_adv hd S
      exact ⟨rfl, q1, q2⟩
    · subst ev em
      rw [e7] at c2
      rw [if_neg (fun z => c2 z.2)]
      rw [T.2.1] at hd
      exact cz_mark hd
theorem cz_tnum {a b : Int} {m : dc_M} {v : Int} {m' : dc_M} {t : Int → Int} {n lim p : Int} (h : D_126 a b m v m') (S : cz_S m t n lim p) : pz_on (pz_num t n lim p a b) (fun f => v = 0 ∧ cz_E m m' f) (fun q => v = q.1 ∧ (a ≤ q.1 ∧ q.1 ≤ b) ∧ cz_F m m' ∧ cz_S m' t n lim q.2) := by
  have T := S.2.1
  unfold pz_num
  rcases h with ⟨c1, h⟩ | ⟨c1, v1, m1, hd, ev, em⟩
  · rw [T.1] at c1
    have e7 := T.2.2.2.2 (Or.inl c1)
    rw [e7, T.2.1] at h
    rw [if_pos c1]
    rcases h with ⟨c2, v1, m1, hd, ev, em⟩ | ⟨c2, h⟩
    · subst ev em
      rw [if_neg (by omega)]
      exact ⟨rfl, (cz_mark hd).2⟩
    · rcases h with ⟨c3, v1, m1, hd, ev, em⟩ | ⟨c3, v1, m1, hd, ev, em⟩
      · subst ev em
        rw [if_pos ⟨by omega, by omega⟩]
        obtain ⟨q1, q2⟩ := cz_S_adv hd S
        exact ⟨rfl, ⟨by show a ≤ pz_v t n lim p; omega, by show pz_v t n lim p ≤ b; omega⟩, q1, q2⟩
      · subst ev em
        rw [if_neg (by omega)]
        exact ⟨rfl, (cz_mark hd).2⟩
  · rw [T.1] at c1
    rw [if_neg c1]
    subst ev em
    rw [T.2.1] at hd
    exact ⟨rfl, (cz_mark hd).2⟩
/-! words -/
def pz_C (i : Nat) : Int := sv_g ((ae_xr9 3).getD i 0)
/-- does word w stand at pl, sz signs long -/
def pz_M (t : Int → Int) (pl : Int) (sz w : Nat) : Prop := (sz = 5 ∨ pz_C (5 * w + sz) = 32) ∧ ∀ i, i < sz → pz_C (5 * w + i) = t (pl + i)
def pz_Mb (t : Int → Int) (pl : Int) (sz w : Nat) : Bool := and (or (decide (sz = 5)) (decide (pz_C (5 * w + sz) = 32))) ((List.range sz).all (fun i => decide (pz_C (5 * w + i) = t (pl + i))))
theorem pz_Mb_iff {t : Int → Int} {pl : Int} {sz w : Nat} : pz_Mb t pl sz w = true ↔ pz_M t pl sz w := by
  unfold pz_Mb pz_M
  rw [Bool.and_eq_true, Bool.or_eq_true, List.all_eq_true]
  constructor
  · intro ⟨h1, h2⟩
    refine ⟨?_, fun i hi => of_decide_eq_true (h2 i (List.mem_range.mpr hi))⟩
    rcases h1 with h | h
    · exact Or.inl (of_decide_eq_true h)
    · exact Or.inr (of_decide_eq_true h)
  · intro ⟨h1, h2⟩
    refine ⟨?_, fun i hi => decide_eq_true (h2 i (List.mem_range.mp hi))⟩
    rcases h1 with h | h
    · exact Or.inl (decide_eq_true h)
    · exact Or.inr (decide_eq_true h)
/-- the first word from w on that stands there, of the next k -/
def pz_wf (t : Int → Int) (pl : Int) (sz : Nat) : Nat → Nat → Int
  | 0, _ => -1
  | k + 1, w => if pz_Mb t pl sz w = true then (w : Int) else pz_wf t pl sz k (w + 1)
theorem pz_wf_r {t : Int → Int} {pl : Int} {sz : Nat} : ∀ (k w : Nat), pz_wf t pl sz k w = -1 ∨ ((w : Int) ≤ pz_wf t pl sz k w ∧ pz_wf t pl sz k w < w + k)
  | 0, w => Or.inl rfl
  | k + 1, w => by
    show (if pz_Mb t pl sz w = true then (w : Int) else pz_wf t pl sz k (w + 1)) = -1 ∨ ((w : Int) ≤ (if pz_Mb t pl sz w = true then (w : Int) else pz_wf t pl sz k (w + 1)) ∧ (if pz_Mb t pl sz w = true then (w : Int) else pz_wf t pl sz k (w + 1)) < w + (k + 1 : Nat))
    split
    · exact Or.inr ⟨by omega, by omega⟩
    · rcases pz_wf_r (t := t) (pl := pl) (sz := sz) k (w + 1) with h | h
      · exact Or.inl h
      · exact Or.inr ⟨by omega, by omega⟩
/-- the word that the token at p is, or -1 -/
def pz_w (t : Int → Int) (n lim p : Int) : Int := pz_wf t (pz_pl t n lim p) (pz_nx t n lim p - pz_pl t n lim p).toNat 23 0
theorem cz_stands : ∀ (c : Nat) (x1 l3 : Int) (m : dc_M) (v : Int) (m' : dc_M) (sz w : Nat), LM_122 259 x1 c 2 l3 m v m' → x1 = 5 * w → w < 23 → m 1 6 = sz → sz ≤ 5 → 0 ≤ l3 → l3 ≤ sz → (0 ≤ m 1 5 ∧ m 1 5 ≤ 740) → (∀ i : Nat, (i : Int) < l3 → pz_C (5 * w + i) = m 2 (m 1 5 + i)) → m' = m ∧ ((v = 1 ∧ ∀ i, i < sz → pz_C (5 * w + i) = m 2 (m 1 5 + i)) ∨ (v = 0 ∧ ¬ ∀ i, i < sz → pz_C (5 * w + i) = m 2 (m 1 5 + i))) := by
  intro c
  induction c with
  | zero => intro x1 l3 m v m' sz w h; exact h.elim
  | succ c ih =>
    intro x1 l3 m v m' sz w h hx hw hs hs5 h0 hl hp hi
    have hlen : ((dc_xs 259).length : Int) = 115 := by decide +kernel
    have exs : dc_xs 259 = ae_xr9 3 := rfl
    replace h := lm_122_2.mp h
    rcases h with ⟨c1, ev, em⟩ | ⟨c1, h⟩
    · refine ⟨em, Or.inl ⟨ev, fun i hi2 => hi i (by rw [hs] at c1; omega)⟩⟩
    · rw [hs] at c1
      have w1 : dc_w (x1 + l3) = x1 + l3 := dc_w_eq (by unfold sv_I; omega)
      have w2 : dc_w (m 1 5 + l3) = m 1 5 + l3 := dc_w_eq (by unfold sv_I; omega)
      have w3 : dc_w (l3 + 1) = l3 + 1 := dc_w_eq (by unfold sv_I; omega)
      rw [w1, w2, w3, hlen, exs] at h
      have ec : sv_g ((ae_xr9 3).getD (x1 + l3).toNat 0) = pz_C (5 * w + l3.toNat) := by
        unfold pz_C
        rw [show (x1 + l3).toNat = 5 * w + l3.toNat by omega]
      rw [ec] at h
      have et : ((l3.toNat : Nat) : Int) = l3 := by omega
      rcases h with ⟨c2, ev, em⟩ | ⟨c2, -, -, h⟩
      · omega
      · rcases h with ⟨c3, h⟩ | ⟨c3, ev, em⟩
        · refine ih x1 (l3 + 1) m v m' sz w h hx hw hs hs5 (by omega) (by omega) hp (fun i hi2 => ?_)
          by_cases e : (i : Int) = l3
          · have e2 : i = l3.toNat := by omega
            rw [e, e2]; exact c3
          · exact hi i (by omega)
        · refine ⟨em, Or.inr ⟨ev, fun z => c3 ?_⟩⟩
          have := z l3.toNat (by omega)
          rw [et] at this
          exact this
theorem cz_wordl : ∀ (c : Nat) (l1 : Int) (m : dc_M) (v : Int) (m' : dc_M) (sz w : Nat), LM_11 c 12 l1 m v m' → l1 = w → w ≤ 23 → m 1 6 = sz → 1 ≤ sz → sz ≤ 5 → (0 ≤ m 1 5 ∧ m 1 5 ≤ 740) → m' = m ∧ v = pz_wf (m 2) (m 1 5) sz (23 - w) w := by
  intro c
  induction c with
  | zero => intro l1 m v m' sz w h; exact h.elim
  | succ c ih =>
    intro l1 m v m' sz w h hl hw hs h1 h5 hp
    replace h := lm_11_12.mp h
    rcases h with ⟨c1, ev, em⟩ | ⟨c1, h⟩
    · have : 23 - w = 0 := by omega
      rw [this]
      exact ⟨em, ev⟩
    · have w5 : dc_w (l1 * 5) = l1 * 5 := dc_w_eq (by unfold sv_I; omega)
      have w1 : dc_w (l1 + 1) = l1 + 1 := dc_w_eq (by unfold sv_I; omega)
      rw [w5, w1, hs] at h
      have wz : dc_w (l1 * 5 + sz) = l1 * 5 + sz := dc_w_eq (by unfold sv_I; omega)
      rw [wz] at h
      have ew : 23 - w = (23 - (w + 1)) + 1 := by omega
      have next : LM_11 c 12 (l1 + 1) m v m' → ¬ pz_M (m 2) (m 1 5) sz w → m' = m ∧ v = pz_wf (m 2) (m 1 5) sz (23 - w) w := by
        intro hn hM
        obtain ⟨q1, q2⟩ := ih (l1 + 1) m v m' sz (w + 1) hn (by omega) (by omega) hs h1 h5 hp
        refine ⟨q1, ?_⟩
        rw [ew]
        show v = (if pz_Mb (m 2) (m 1 5) sz w = true then (w : Int) else pz_wf (m 2) (m 1 5) sz (23 - (w + 1)) (w + 1))
        rw [if_neg (fun z => hM (pz_Mb_iff.mp z))]
        exact q2
      have found : v = l1 → m' = m → pz_M (m 2) (m 1 5) sz w → m' = m ∧ v = pz_wf (m 2) (m 1 5) sz (23 - w) w := by
        intro ev em hM
        refine ⟨em, ?_⟩
        rw [ew]
        show v = (if pz_Mb (m 2) (m 1 5) sz w = true then (w : Int) else pz_wf (m 2) (m 1 5) sz (23 - (w + 1)) (w + 1))
        rw [if_pos (pz_Mb_iff.mpr hM), ev, hl]
      have stand : ∀ (v1 : Int) (m1 : dc_M), D_122 259 (l1 * 5) m v1 m1 → m1 = m ∧ ((v1 = 1 ∧ ∀ i, i < sz → pz_C (5 * w + i) = m 2 (m 1 5 + i)) ∨ (v1 = 0 ∧ ¬ ∀ i, i < sz → pz_C (5 * w + i) = m 2 (m 1 5 + i))) := by
        intro v1 m1 ⟨c9, hd⟩
        exact cz_stands c9 (l1 * 5) 0 m v1 m1 sz w hd (by omega) (by omega) hs h5 (by omega) (by omega) hp (fun i hi => by omega)
      have hC : sv_g ((ae_xr9 3).getD (l1 * 5 + sz).toNat 0) = pz_C (5 * w + sz) := by
        unfold pz_C
        rw [show (l1 * 5 + (sz : Int)).toNat = 5 * w + sz by omega]
      rw [hC] at h
      rcases h with ⟨c2, v1, m1, hd, h⟩ | ⟨c2, -, h⟩
      · obtain ⟨e1, hd2⟩ := stand v1 m1 hd
        subst e1
        rcases h with ⟨c3, h⟩ | ⟨c3, ev, em⟩
        · refine next h (fun hM => ?_)
          rcases hd2 with ⟨z, -⟩ | ⟨-, z⟩
          · omega
          · exact z hM.2
        · refine found ev em ⟨Or.inl (by omega), ?_⟩
          rcases hd2 with ⟨-, z⟩ | ⟨z, -⟩
          · exact z
          · omega
      · rcases h with ⟨c3, h⟩ | ⟨c3, v1, m1, hd, h⟩
        · refine next h (fun hM => ?_)
          rcases hM.1 with z | z
          · omega
          · exact c3 z
        · obtain ⟨e1, hd2⟩ := stand v1 m1 hd
          subst e1
          rcases h with ⟨c4, h⟩ | ⟨c4, ev, em⟩
          · refine next h (fun hM => ?_)
            rcases hd2 with ⟨z, -⟩ | ⟨-, z⟩
            · omega
            · exact z hM.2
          · refine found ev em ⟨Or.inr (by omega), ?_⟩
            rcases hd2 with ⟨-, z⟩ | ⟨z, -⟩
            · exact z
            · omega
theorem pz_k1 {t : Int → Int} {n lim p : Int} (h : pz_k t n lim p = 1) (hp : p ≤ n) : pz_pl t n lim p = pz_sk t n p ∧ 1 ≤ pz_nx t n lim p - pz_pl t n lim p ∧ pz_nx t n lim p - pz_pl t n lim p ≤ 5 ∧ pz_nx t n lim p = pz_en 97 122 t n (pz_sk t n p) ∧ pz_sk t n p < n := by
  unfold pz_k at h
  unfold pz_pl pz_nx
  split at h
  · omega
  · next c =>
    rw [if_neg c, if_neg c]
    split at h
    · next c2 =>
      rw [if_pos c2]
      have e1 := pz_en_y (a := 97) (b := 122) (t := t) (p := pz_sk t n p) (n := n) (by omega) c2
      have e2 := pz_en_r (a := 97) (b := 122) (t := t) (p := pz_sk t n p + 1) (n := n) (by omega)
      split at h
      · next c3 => exact ⟨rfl, by omega, by omega, rfl, by omega⟩
      · omega
    · split at h
      · split at h <;> omega
      · split at h <;> omega
/-- the class's word -/
theorem cz_wd {m : dc_M} {v : Int} {m' : dc_M} {t : Int → Int} {n lim p : Int} (h : D_11 m v m') (S : cz_S m t n lim p) : m' = m ∧ v = (if pz_k t n lim p = 1 then pz_w t n lim p else -1) := by
  obtain ⟨B, T, p0, p1⟩ := S
  rcases h with ⟨c1, c, h⟩ | ⟨c1, ev, em⟩
  · rw [T.1] at c1
    rw [if_pos c1]
    obtain ⟨k1, k2, k3, k4, k5⟩ := pz_k1 c1 p1
    have hsk := pz_sk_r (t := t) p1
    have e6 := T.2.2.2.1 c1
    obtain ⟨q1, q2⟩ := cz_wordl c 0 m v m' (pz_nx t n lim p - pz_pl t n lim p).toNat 0 h rfl (by omega) (by rw [e6]; omega) (by omega) (by omega) (by rw [T.2.1, k1]; have := B.2.2.2; omega)
    refine ⟨q1, ?_⟩
    rw [q2, B.1, T.2.1]
    rfl
  · rw [T.1] at c1
    rw [if_neg c1]
    exact ⟨em, ev⟩
