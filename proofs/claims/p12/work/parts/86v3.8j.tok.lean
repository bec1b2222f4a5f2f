/-! TOKENS: what they are, and that the class reads them so -/
def pz_skf (t : Int → Int) (n : Int) : Nat → Int → Int
  | 0, p => p
  | k + 1, p => if p < n ∧ (t p = 32 ∨ t p = 10) then pz_skf t n k (p + 1) else p
/-- the first place from p on that is neither blank nor a line's end -/
def pz_sk (t : Int → Int) (n p : Int) : Int := pz_skf t n (n - p).toNat p
theorem pz_sk_y {t : Int → Int} {n p : Int} (h1 : p < n) (h2 : t p = 32 ∨ t p = 10) : pz_sk t n p = pz_sk t n (p + 1) := by
  unfold pz_sk
  rw [show (n - p).toNat = (n - (p + 1)).toNat + 1 by omega]
  show (if p < n ∧ (t p = 32 ∨ t p = 10) then pz_skf t n (n - (p + 1)).toNat (p + 1) else p) = _
  rw [if_pos ⟨h1, h2⟩]
theorem pz_sk_n {t : Int → Int} {n p : Int} (h : ¬ (p < n ∧ (t p = 32 ∨ t p = 10))) : pz_sk t n p = p := by
  unfold pz_sk
  cases (n - p).toNat with
  | zero => rfl
  | succ k =>
    show (if p < n ∧ (t p = 32 ∨ t p = 10) then pz_skf t n k (p + 1) else p) = p
    rw [if_neg h]
theorem pz_skf_r {t : Int → Int} {n : Int} : ∀ (k : Nat) (p : Int), p ≤ n → p ≤ pz_skf t n k p ∧ pz_skf t n k p ≤ n
  | 0, p, h => ⟨Int.le_refl p, h⟩
  | k + 1, p, h => by
    show p ≤ (if p < n ∧ (t p = 32 ∨ t p = 10) then pz_skf t n k (p + 1) else p) ∧ (if p < n ∧ (t p = 32 ∨ t p = 10) then pz_skf t n k (p + 1) else p) ≤ n
    by_cases q : p < n ∧ (t p = 32 ∨ t p = 10)
    · rw [if_pos q]
      have := pz_skf_r (t := t) (n := n) k (p + 1) (by omega)
      omega
    · rw [if_neg q]; omega
theorem pz_sk_r {t : Int → Int} {n p : Int} (h : p ≤ n) : p ≤ pz_sk t n p ∧ pz_sk t n p ≤ n := pz_skf_r _ p h
def pz_enf (a b : Int) (t : Int → Int) (n : Int) : Nat → Int → Int
  | 0, p => p
  | k + 1, p => if p < n ∧ a ≤ t p ∧ t p ≤ b then pz_enf a b t n k (p + 1) else p
/-- the end of the run of signs from a to b that begins at p -/
def pz_en (a b : Int) (t : Int → Int) (n p : Int) : Int := pz_enf a b t n (n - p).toNat p
theorem pz_en_y {a b : Int} {t : Int → Int} {n p : Int} (h1 : p < n) (h2 : a ≤ t p ∧ t p ≤ b) : pz_en a b t n p = pz_en a b t n (p + 1) := by
  unfold pz_en
  rw [show (n - p).toNat = (n - (p + 1)).toNat + 1 by omega]
  show (if p < n ∧ a ≤ t p ∧ t p ≤ b then pz_enf a b t n (n - (p + 1)).toNat (p + 1) else p) = _
  rw [if_pos ⟨h1, h2⟩]
theorem pz_en_n {a b : Int} {t : Int → Int} {n p : Int} (h : ¬ (p < n ∧ a ≤ t p ∧ t p ≤ b)) : pz_en a b t n p = p := by
  unfold pz_en
  cases (n - p).toNat with
  | zero => rfl
  | succ k =>
    show (if p < n ∧ a ≤ t p ∧ t p ≤ b then pz_enf a b t n k (p + 1) else p) = p
    rw [if_neg h]
theorem pz_enf_r {a b : Int} {t : Int → Int} {n : Int} : ∀ (k : Nat) (p : Int), p ≤ n → p ≤ pz_enf a b t n k p ∧ pz_enf a b t n k p ≤ n
  | 0, p, h => ⟨Int.le_refl p, h⟩
  | k + 1, p, h => by
    show p ≤ (if p < n ∧ a ≤ t p ∧ t p ≤ b then pz_enf a b t n k (p + 1) else p) ∧ (if p < n ∧ a ≤ t p ∧ t p ≤ b then pz_enf a b t n k (p + 1) else p) ≤ n
    by_cases q : p < n ∧ a ≤ t p ∧ t p ≤ b
    · rw [if_pos q]
      have := pz_enf_r (a := a) (b := b) (t := t) (n := n) k (p + 1) (by omega)
      omega
    · rw [if_neg q]; omega
theorem pz_en_r {a b : Int} {t : Int → Int} {n p : Int} (h : p ≤ n) : p ≤ pz_en a b t n p ∧ pz_en a b t n p ≤ n := pz_enf_r _ p h
/-- a token: its kind, where it begins, where the next may begin, what it says -/
def pz_k (t : Int → Int) (n lim p : Int) : Int := if n ≤ pz_sk t n p ∨ lim ≤ pz_sk t n p then 0 else if 97 ≤ t (pz_sk t n p) ∧ t (pz_sk t n p) ≤ 122 then (if pz_en 97 122 t n (pz_sk t n p) - pz_sk t n p ≤ 5 then 1 else 4) else if 48 ≤ t (pz_sk t n p) ∧ t (pz_sk t n p) ≤ 57 then (if pz_en 48 57 t n (pz_sk t n p) - pz_sk t n p ≤ 2 then 2 else 4) else if t (pz_sk t n p) = 45 ∨ t (pz_sk t n p) = 59 ∨ t (pz_sk t n p) = 46 then 3 else 4
def pz_pl (t : Int → Int) (n lim p : Int) : Int := if n ≤ pz_sk t n p ∨ lim ≤ pz_sk t n p then (if lim < n then lim else n) else pz_sk t n p
def pz_nx (t : Int → Int) (n lim p : Int) : Int := if n ≤ pz_sk t n p ∨ lim ≤ pz_sk t n p then pz_sk t n p else if 97 ≤ t (pz_sk t n p) ∧ t (pz_sk t n p) ≤ 122 then pz_en 97 122 t n (pz_sk t n p) else if 48 ≤ t (pz_sk t n p) ∧ t (pz_sk t n p) ≤ 57 then pz_en 48 57 t n (pz_sk t n p) else pz_sk t n p + 1
def pz_v (t : Int → Int) (n lim p : Int) : Int := if 48 ≤ t (pz_sk t n p) ∧ t (pz_sk t n p) ≤ 57 then (if pz_en 48 57 t n (pz_sk t n p) - pz_sk t n p = 1 then t (pz_sk t n p) - 48 else 10 * (t (pz_sk t n p) - 48) + (t (pz_sk t n p + 1) - 48)) else t (pz_sk t n p)
theorem pz_nx_r {t : Int → Int} {n lim p : Int} (h : p ≤ n) : p ≤ pz_nx t n lim p ∧ pz_nx t n lim p ≤ n := by
  obtain ⟨q1, q2⟩ := pz_sk_r (t := t) h
  unfold pz_nx
  have e1 := pz_en_r (a := 97) (b := 122) (t := t) q2
  have e2 := pz_en_r (a := 48) (b := 57) (t := t) q2
  split
  · exact ⟨q1, q2⟩
  · next c =>
    split
    · omega
    · split <;> omega
/-! the class -/
/-- what a reader of one token leaves: K where it is no longer than L, else none -/
def cz_X (m m' : dc_M) (e K L : Int) : Prop := (∀ k i, k ≠ 1 → m' k i = m k i) ∧ m' 1 1 = m 1 1 ∧ m' 1 2 = m 1 2 ∧ m' 1 5 = m 1 5 ∧ m' 1 8 = m 1 8 ∧ m' 1 9 = m 1 9 ∧ m' 1 3 = e ∧ m' 1 6 = e - m 1 5 ∧ m' 1 4 = (if e - m 1 5 ≤ L then K else 4)
theorem cz_up1 {m : dc_M} {j v : Int} {k : Nat} {i : Int} (h : k ≠ 1) : dc_up m 1 j v k i = m k i := dc_up_k h
theorem cz_x {m : dc_M} {v : Int} {m' : dc_M} {K L : Int} (hx : ∃ m1, m1 = dc_up m 1 6 (dc_w ((m 1 3) - (m 1 5))) ∧ ((((m1 1 6) : Int) > L ∧ (∃ m2, m2 = dc_up m1 1 4 4 ∧ (v = 0 ∧ m' = m2))) ∨ (¬ (((m1 1 6) : Int) > L) ∧ (∃ m2, m2 = dc_up m1 1 4 K ∧ (v = 0 ∧ m' = m2))))) (h1 : 0 ≤ m 1 5 ∧ m 1 5 ≤ m 1 3 ∧ m 1 3 ≤ 740) : cz_X m m' (m 1 3) K L ∧ m' 1 7 = m 1 7 := by
  obtain ⟨m1, e1, hx⟩ := hx
  have w : dc_w (m 1 3 - m 1 5) = m 1 3 - m 1 5 := dc_w_eq (by unfold sv_I; omega)
  rw [w] at e1
  have a6 : m1 1 6 = m 1 3 - m 1 5 := by rw [e1, dc_up_s]
  have aj : ∀ j : Int, j ≠ 6 → m1 1 j = m 1 j := fun j hj => by rw [e1, dc_up_i hj]
  have ak : ∀ k i, k ≠ 1 → m1 k i = m k i := fun k i hk => by rw [e1, dc_up_k hk]
  rcases hx with ⟨c, m2, e2, -, e3⟩ | ⟨c, m2, e2, -, e3⟩
  · subst e3
    have bj : ∀ j : Int, j ≠ 4 → m' 1 j = m1 1 j := fun j hj => by rw [e2, dc_up_i hj]
    refine ⟨⟨fun k i hk => by rw [e2, dc_up_k hk, ak k i hk], ?_, ?_, ?_, ?_, ?_, ?_, ?_, ?_⟩, ?_⟩
    all_goals first | (rw [bj _ (by decide), aj _ (by decide)]) | (rw [bj _ (by decide), a6]) | skip
    rw [e2, dc_up_s, if_neg (by rw [a6] at c; omega)]
  · subst e3
    have bj : ∀ j : Int, j ≠ 4 → m' 1 j = m1 1 j := fun j hj => by rw [e2, dc_up_i hj]
    refine ⟨⟨fun k i hk => by rw [e2, dc_up_k hk, ak k i hk], ?_, ?_, ?_, ?_, ?_, ?_, ?_, ?_⟩, ?_⟩
    all_goals first | (rw [bj _ (by decide), aj _ (by decide)]) | (rw [bj _ (by decide), a6]) | skip
    rw [e2, dc_up_s, if_pos (by rw [a6] at c; omega)]
theorem cz_word : ∀ (c : Nat) (m : dc_M) (v : Int) (m' : dc_M), LM_118 c 0 m v m' → (0 ≤ m 1 5 ∧ m 1 5 ≤ m 1 3 ∧ m 1 3 ≤ m 1 1 ∧ m 1 1 ≤ 740) → cz_X m m' (pz_en 97 122 (m 2) (m 1 1) (m 1 3)) 1 5 := by
  intro c
  induction c with
  | zero => intro m v m' h; exact h.elim
  | succ c ih =>
    intro m v m' h hb
    rcases lm_118_0.mp h with ⟨c1, h⟩ | ⟨c1, -, h⟩
    · rw [pz_en_n (by omega)]
      exact (cz_x h ⟨by omega, by omega, by omega⟩).1
    · rcases h with ⟨c2, h⟩ | ⟨c2, -, h⟩
      · rw [pz_en_n (by omega)]
        exact (cz_x h ⟨by omega, by omega, by omega⟩).1
      · rcases h with ⟨c3, h⟩ | ⟨c3, -, m1, e1, m2, e2, h⟩
        · rw [pz_en_n (by omega)]
          exact (cz_x h ⟨by omega, by omega, by omega⟩).1
        · have a3 : m1 1 3 = m 1 3 := by rw [e1, dc_up_i (by decide)]
          have w : dc_w (m1 1 3 + 1) = m 1 3 + 1 := by rw [a3]; exact dc_w_eq (by unfold sv_I; omega)
          rw [w] at e2
          have f3 : m2 1 3 = m 1 3 + 1 := by rw [e2, dc_up_s]
          have fj : ∀ j : Int, j ≠ 3 → j ≠ 7 → m2 1 j = m 1 j := fun j h3 h7 => by rw [e2, dc_up_i h3, e1, dc_up_i h7]
          have fk : ∀ k i, k ≠ 1 → m2 k i = m k i := fun k i hk => by rw [e2, dc_up_k hk, e1, dc_up_k hk]
          have ft : m2 2 = m 2 := funext fun i => fk 2 i (by decide)
          have q := ih m2 v m' h (by rw [f3, fj 5 (by decide) (by decide), fj 1 (by decide) (by decide)]; omega)
          rw [ft, f3, fj 1 (by decide) (by decide)] at q
          obtain ⟨q0, q1, q2, q5, q8, q9, q3, q6, q4⟩ := q
          rw [fj 5 (by decide) (by decide)] at q5 q6 q4
          rw [pz_en_y (by omega) ⟨by omega, by omega⟩]
          exact ⟨fun k i hk => (q0 k i hk).trans (fk k i hk), q1.trans (fj 1 (by decide) (by decide)), q2.trans (fj 2 (by decide) (by decide)), q5, q8.trans (fj 8 (by decide) (by decide)), q9.trans (fj 9 (by decide) (by decide)), q3, q6, q4⟩
theorem cz_num : ∀ (c : Nat) (m : dc_M) (v : Int) (m' : dc_M), LM_119 c 0 m v m' → (0 ≤ m 1 5 ∧ m 1 5 ≤ m 1 3 ∧ m 1 3 ≤ m 1 1 ∧ m 1 1 ≤ 740) → (m 1 3 = m 1 5 → m 1 7 = 0) → (m 1 3 = m 1 5 + 1 → m 1 7 = m 2 (m 1 5) - 48 ∧ 48 ≤ m 2 (m 1 5) ∧ m 2 (m 1 5) ≤ 57) → (m 1 3 = m 1 5 + 2 → m 1 7 = 10 * (m 2 (m 1 5) - 48) + (m 2 (m 1 5 + 1) - 48)) → cz_X m m' (pz_en 48 57 (m 2) (m 1 1) (m 1 3)) 2 2 ∧ (pz_en 48 57 (m 2) (m 1 1) (m 1 3) = m 1 5 + 1 → m' 1 7 = m 2 (m 1 5) - 48) ∧ (pz_en 48 57 (m 2) (m 1 1) (m 1 3) = m 1 5 + 2 → m' 1 7 = 10 * (m 2 (m 1 5) - 48) + (m 2 (m 1 5 + 1) - 48)) := by
  intro c
  induction c with
  | zero => intro m v m' h; exact h.elim
  | succ c ih =>
    intro m v m' h hb v0 v1 v2
    rcases lm_119_0.mp h with ⟨c1, h⟩ | ⟨c1, -, h⟩
    · rw [pz_en_n (by omega)]
      obtain ⟨q, q7⟩ := cz_x h ⟨by omega, by omega, by omega⟩
      exact ⟨q, fun z => by rw [q7]; exact (v1 z).1, fun z => by rw [q7]; exact v2 z⟩
    · rcases h with ⟨c2, h⟩ | ⟨c2, -, h⟩
      · rw [pz_en_n (by omega)]
        obtain ⟨q, q7⟩ := cz_x h ⟨by omega, by omega, by omega⟩
        exact ⟨q, fun z => by rw [q7]; exact (v1 z).1, fun z => by rw [q7]; exact v2 z⟩
      · rcases h with ⟨c3, h⟩ | ⟨c3, -, m1, e1, m2, e2, h⟩
        · rw [pz_en_n (by omega)]
          obtain ⟨q, q7⟩ := cz_x h ⟨by omega, by omega, by omega⟩
          exact ⟨q, fun z => by rw [q7]; exact (v1 z).1, fun z => by rw [q7]; exact v2 z⟩
        · have a3 : m1 1 3 = m 1 3 := by rw [e1, dc_up_i (by decide)]
          have w : dc_w (m1 1 3 + 1) = m 1 3 + 1 := by rw [a3]; exact dc_w_eq (by unfold sv_I; omega)
          rw [w] at e2
          have f3 : m2 1 3 = m 1 3 + 1 := by rw [e2, dc_up_s]
          have f7 : m2 1 7 = dc_w (dc_w (dc_w (m 1 7 * 10) + m 2 (m 1 3)) - 48) := by rw [e2, dc_up_i (by decide), e1, dc_up_s]
          have fj : ∀ j : Int, j ≠ 3 → j ≠ 7 → m2 1 j = m 1 j := fun j h3 h7 => by rw [e2, dc_up_i h3, e1, dc_up_i h7]
          have fk : ∀ k i, k ≠ 1 → m2 k i = m k i := fun k i hk => by rw [e2, dc_up_k hk, e1, dc_up_k hk]
          have ft : m2 2 = m 2 := funext fun i => fk 2 i (by decide)
          have w7 : ∀ x : Int, m 1 7 = x → 0 ≤ x → x ≤ 9 → m2 1 7 = x * 10 + m 2 (m 1 3) - 48 := fun x hx a b => by
            rw [f7, hx, dc_w_eq (z := x * 10) (by unfold sv_I; omega), dc_w_eq (z := x * 10 + m 2 (m 1 3)) (by unfold sv_I; omega), dc_w_eq (by unfold sv_I; omega)]
          have q := ih m2 v m' h (by rw [f3, fj 5 (by decide) (by decide), fj 1 (by decide) (by decide)]; omega) (by rw [f3, fj 5 (by decide) (by decide)]; intro z; omega) (by
            rw [f3, fj 5 (by decide) (by decide), ft]
            intro z
            have z : m 1 3 = m 1 5 := by omega
            have := w7 0 (v0 z) (by omega) (by omega)
            rw [z] at this c2 c3
            exact ⟨by omega, by omega, by omega⟩) (by
            rw [f3, fj 5 (by decide) (by decide), ft]
            intro z
            have z : m 1 3 = m 1 5 + 1 := by omega
            obtain ⟨y1, y2, y3⟩ := v1 z
            have := w7 _ y1 (by omega) (by omega)
            rw [z] at this
            omega)
          rw [ft, f3, fj 1 (by decide) (by decide), fj 5 (by decide) (by decide)] at q
          obtain ⟨⟨q0, q1, q2, q5, q8, q9, q3, q6, q4⟩, y1, y2⟩ := q
          rw [fj 5 (by decide) (by decide)] at q5 q6 q4
          rw [pz_en_y (by omega) ⟨by omega, by omega⟩]
          exact ⟨⟨fun k i hk => (q0 k i hk).trans (fk k i hk), q1.trans (fj 1 (by decide) (by decide)), q2.trans (fj 2 (by decide) (by decide)), q5, q8.trans (fj 8 (by decide) (by decide)), q9.trans (fj 9 (by decide) (by decide)), q3, q6, q4⟩, y1, y2⟩
/-- the reader's place, limits and bytes -/
def cz_B (m : dc_M) (t : Int → Int) (n lim : Int) : Prop := m 2 = t ∧ m 1 1 = n ∧ m 1 2 = lim ∧ 0 ≤ n ∧ n ≤ 740
/-- the token at p is the one read last -/
def cz_T (m : dc_M) (t : Int → Int) (n lim p : Int) : Prop := m 1 4 = pz_k t n lim p ∧ m 1 5 = pz_pl t n lim p ∧ m 1 3 = pz_nx t n lim p ∧ (pz_k t n lim p = 1 → m 1 6 = pz_nx t n lim p - pz_pl t n lim p) ∧ ((pz_k t n lim p = 2 ∨ pz_k t n lim p = 3) → m 1 7 = pz_v t n lim p)
/-- what reading on leaves alone -/
def cz_F (m m' : dc_M) : Prop := (∀ k i, k ≠ 1 → m' k i = m k i) ∧ m' 1 1 = m 1 1 ∧ m' 1 2 = m 1 2 ∧ m' 1 8 = m 1 8 ∧ m' 1 9 = m 1 9
theorem cz_F.rf {m : dc_M} : cz_F m m := ⟨fun _ _ _ => rfl, rfl, rfl, rfl, rfl⟩
theorem cz_F.tr {a b c : dc_M} (h : cz_F a b) (g : cz_F b c) : cz_F a c := ⟨fun k i hk => (g.1 k i hk).trans (h.1 k i hk), g.2.1.trans h.2.1, g.2.2.1.trans h.2.2.1, g.2.2.2.1.trans h.2.2.2.1, g.2.2.2.2.trans h.2.2.2.2⟩
theorem cz_B.go {m m' : dc_M} {t : Int → Int} {n lim : Int} (h : cz_B m t n lim) (f : cz_F m m') : cz_B m' t n lim := ⟨(funext fun i => f.1 2 i (by decide)).trans h.1, f.2.1.trans h.2.1, f.2.2.1.trans h.2.2.1, h.2.2.2⟩
theorem cz_sh {A B C b b' E R : Prop} (h : (A ∧ E) ∨ (¬ A ∧ (b ∧ ((B ∧ R) ∨ (¬ B ∧ (b' ∧ ((C ∧ E) ∨ (¬ C ∧ R)))))))) : (E ∧ (A ∨ (¬ A ∧ ¬ B ∧ C))) ∨ (R ∧ ¬ A ∧ (B ∨ ¬ C)) := by
  rcases h with ⟨h1, h2⟩ | ⟨h1, -, h⟩
  · exact Or.inl ⟨h2, Or.inl h1⟩
  · rcases h with ⟨h2, h3⟩ | ⟨h2, -, h⟩
    · exact Or.inr ⟨h3, h1, Or.inl h2⟩
    · rcases h with ⟨h3, h4⟩ | ⟨h3, h4⟩
      · exact Or.inl ⟨h4, Or.inr ⟨h1, h2, h3⟩⟩
      · exact Or.inr ⟨h4, h1, Or.inr h3⟩
theorem cz_sh2 {a b c d S N W q1 q2 q3 q4 q5 q6 : Prop} (h : q1 ∧ ((a ∧ (q2 ∧ ((b ∧ S) ∨ (¬ b ∧ (q3 ∧ ((c ∧ S) ∨ (¬ c ∧ N))))))) ∨ (¬ a ∧ (q4 ∧ ((d ∧ (q5 ∧ ((b ∧ S) ∨ (¬ b ∧ (q6 ∧ ((c ∧ S) ∨ (¬ c ∧ N))))))) ∨ (¬ d ∧ W)))))) : (W ∧ ¬ a ∧ ¬ d) ∨ (N ∧ (a ∨ d) ∧ ¬ b ∧ ¬ c) ∨ (S ∧ (a ∨ d) ∧ (b ∨ c)) := by
  obtain ⟨-, h⟩ := h
  rcases h with ⟨ha, -, h⟩ | ⟨ha, -, h⟩
  · rcases h with ⟨hb, hs⟩ | ⟨hb, -, h⟩
    · exact Or.inr (Or.inr ⟨hs, Or.inl ha, Or.inl hb⟩)
    · rcases h with ⟨hc, hs⟩ | ⟨hc, hn⟩
      · exact Or.inr (Or.inr ⟨hs, Or.inl ha, Or.inr hc⟩)
      · exact Or.inr (Or.inl ⟨hn, Or.inl ha, hb, hc⟩)
  · rcases h with ⟨hd, -, h⟩ | ⟨hd, hw⟩
    · rcases h with ⟨hb, hs⟩ | ⟨hb, -, h⟩
      · exact Or.inr (Or.inr ⟨hs, Or.inr hd, Or.inl hb⟩)
      · rcases h with ⟨hc, hs⟩ | ⟨hc, hn⟩
        · exact Or.inr (Or.inr ⟨hs, Or.inr hd, Or.inr hc⟩)
        · exact Or.inr (Or.inl ⟨hn, Or.inr hd, hb, hc⟩)
    · exact Or.inl ⟨hw, ha, hd⟩
theorem cz_sign {m : dc_M} {v : Int} {m' : dc_M} (h : D_120 m v m') : (∀ k i, k ≠ 1 → m' k i = m k i) ∧ m' 1 1 = m 1 1 ∧ m' 1 2 = m 1 2 ∧ m' 1 5 = m 1 5 ∧ m' 1 8 = m 1 8 ∧ m' 1 9 = m 1 9 ∧ m' 1 3 = m 1 3 + 1 ∧ m' 1 4 = (if m 2 (m 1 3) = 45 ∨ m 2 (m 1 3) = 59 ∨ m 2 (m 1 3) = 46 then 3 else 4) ∧ m' 1 7 = m 2 (m 1 3) := by
  obtain ⟨hb, m1, e1, m2, e2, m3, e3, h⟩ := h
  have a3 : m1 1 3 = m 1 3 := by rw [e1, dc_up_i (by decide)]
  have w : dc_w (m1 1 3 + 1) = m 1 3 + 1 := by rw [a3]; exact dc_w_eq (by unfold sv_I; omega)
  rw [w] at e2
  have f3 : m3 1 3 = m 1 3 + 1 := by rw [e3, dc_up_i (by decide), e2, dc_up_s]
  have f7 : m3 1 7 = m 2 (m 1 3) := by rw [e3, dc_up_i (by decide), e2, dc_up_i (by decide), e1, dc_up_s]
  have fj : ∀ j : Int, j ≠ 3 → j ≠ 7 → j ≠ 6 → m3 1 j = m 1 j := fun j h3 h7 h6 => by rw [e3, dc_up_i h6, e2, dc_up_i h3, e1, dc_up_i h7]
  have fk : ∀ k i, k ≠ 1 → m3 k i = m k i := fun k i hk => by rw [e3, dc_up_k hk, e2, dc_up_k hk, e1, dc_up_k hk]
  have key : ∀ (K : Int) (m4 : dc_M), m4 = dc_up m3 1 4 K → m' = m4 → (if m 2 (m 1 3) = 45 ∨ m 2 (m 1 3) = 59 ∨ m 2 (m 1 3) = 46 then 3 else 4) = K → (∀ k i, k ≠ 1 → m' k i = m k i) ∧ m' 1 1 = m 1 1 ∧ m' 1 2 = m 1 2 ∧ m' 1 5 = m 1 5 ∧ m' 1 8 = m 1 8 ∧ m' 1 9 = m 1 9 ∧ m' 1 3 = m 1 3 + 1 ∧ m' 1 4 = (if m 2 (m 1 3) = 45 ∨ m 2 (m 1 3) = 59 ∨ m 2 (m 1 3) = 46 then 3 else 4) ∧ m' 1 7 = m 2 (m 1 3) := by
    intro K m4 e4 e5 eK
    subst e5
    have bj : ∀ j : Int, j ≠ 4 → m' 1 j = m3 1 j := fun j hj => by rw [e4, dc_up_i hj]
    refine ⟨fun k i hk => by rw [e4, dc_up_k hk, fk k i hk], ?_, ?_, ?_, ?_, ?_, ?_, ?_, ?_⟩
    · rw [bj _ (by decide), fj _ (by decide) (by decide) (by decide)]
    · rw [bj _ (by decide), fj _ (by decide) (by decide) (by decide)]
    · rw [bj _ (by decide), fj _ (by decide) (by decide) (by decide)]
    · rw [bj _ (by decide), fj _ (by decide) (by decide) (by decide)]
    · rw [bj _ (by decide), fj _ (by decide) (by decide) (by decide)]
    · rw [bj _ (by decide), f3]
    · rw [eK, e4, dc_up_s]
    · rw [bj _ (by decide), f7]
  rw [f7] at h
  rcases h with ⟨c1, m4, e4, -, e5⟩ | ⟨c1, h⟩
  · exact key 3 m4 e4 e5 (if_pos (Or.inl c1))
  · rcases h with ⟨c2, m4, e4, -, e5⟩ | ⟨c2, h⟩
    · exact key 3 m4 e4 e5 (if_pos (Or.inr (Or.inl c2)))
    · rcases h with ⟨c3, m4, e4, -, e5⟩ | ⟨c3, m4, e4, -, e5⟩
      · exact key 4 m4 e4 e5 (if_neg (fun z => by omega))
      · exact key 3 m4 e4 e5 (if_pos (Or.inr (Or.inr (by omega))))
theorem cz_advl : ∀ (c : Nat) (m : dc_M) (v : Int) (m' : dc_M) (t : Int → Int) (n lim : Int), LM_117 c 0 m v m' → cz_B m t n lim → 0 ≤ m 1 3 → m 1 3 ≤ n → cz_F m m' ∧ cz_T m' t n lim (m 1 3) := by
  intro c
  induction c with
  | zero => intro m v m' t n lim h; exact h.elim
  | succ c ih =>
    intro m v m' t n lim h hB h0 hn
    have hB0 := hB
    obtain ⟨bt, bn, bl, b0, b7⟩ := hB
    rcases cz_sh (lm_117_0.mp h) with ⟨hx, hc⟩ | ⟨hr, hc⟩
    · rw [bn, bt] at hc
      have esk : pz_sk t n (m 1 3) = m 1 3 := pz_sk_n (by omega)
      obtain ⟨m1, e1, m2, e2, hx⟩ := hx
      have fj : ∀ j : Int, j ≠ 6 → j ≠ 7 → m2 1 j = m 1 j := fun j h6 h7 => by rw [e2, dc_up_i h6, e1, dc_up_i h7]
      have f7 : m2 1 7 = 0 := by rw [e2, dc_up_i (by decide), e1, dc_up_s]
      have fk : ∀ k i, k ≠ 1 → m2 k i = m k i := fun k i hk => by rw [e2, dc_up_k hk, e1, dc_up_k hk]
      have g1 : m2 1 1 = n := (fj 1 (by decide) (by decide)).trans bn
      have g2 : m2 1 2 = lim := (fj 2 (by decide) (by decide)).trans bl
      have g3 : m2 1 3 = m 1 3 := fj 3 (by decide) (by decide)
      have g8 : m2 1 8 = m 1 8 := fj 8 (by decide) (by decide)
      have g9 : m2 1 9 = m 1 9 := fj 9 (by decide) (by decide)
      have fin : n ≤ m 1 3 ∨ lim ≤ m 1 3 → (∃ m3, m3 = dc_up m2 1 4 0 ∧ (∃ m4, m4 = dc_up m3 1 5 (if (m3 1 2) < (m3 1 1) then (m3 1 2) else (m3 1 1)) ∧ (v = 0 ∧ m' = m4))) → cz_F m m' ∧ cz_T m' t n lim (m 1 3) := by
        intro hq ⟨m3, e3, m4, e4, _, e5⟩
        subst e5
        have i1 : m3 1 1 = n := by rw [e3, dc_up_i (by decide), g1]
        have i2 : m3 1 2 = lim := by rw [e3, dc_up_i (by decide), g2]
        rw [i1, i2] at e4
        have kj : ∀ j : Int, j ≠ 5 → j ≠ 4 → m' 1 j = m2 1 j := fun j h5 h4 => by rw [e4, dc_up_i h5, e3, dc_up_i h4]
        have k4 : pz_k t n lim (m 1 3) = 0 := by unfold pz_k; rw [esk, if_pos hq]
        refine ⟨⟨fun k i hk => by rw [e4, dc_up_k hk, e3, dc_up_k hk, fk k i hk], ?_, ?_, ?_, ?_⟩, ?_, ?_, ?_, ?_, ?_⟩
        · rw [kj 1 (by decide) (by decide), g1, bn]
        · rw [kj 2 (by decide) (by decide), g2, bl]
        · rw [kj 8 (by decide) (by decide), g8]
        · rw [kj 9 (by decide) (by decide), g9]
        · rw [k4, e4, dc_up_i (by decide), e3, dc_up_s]
        · unfold pz_pl
          rw [esk, if_pos hq, e4, dc_up_s]
        · unfold pz_nx
          rw [esk, if_pos hq, kj 3 (by decide) (by decide), g3]
        · intro z; rw [k4] at z; omega
        · intro z; rw [k4] at z; omega
      rcases hx with ⟨c1, hx⟩ | ⟨c1, hx⟩
      · rw [g3, g1] at c1
        exact fin (Or.inl c1) hx
      · rw [g3, g1] at c1
        rcases hx with ⟨c2, m3, e3, hx⟩ | ⟨c2, hx⟩
        · rw [g3, g2] at c2
          rw [g3] at e3
          have kj : ∀ j : Int, j ≠ 5 → m3 1 j = m2 1 j := fun j h5 => by rw [e3, dc_up_i h5]
          have kk : ∀ k i, k ≠ 1 → m3 k i = m k i := fun k i hk => by rw [e3, dc_up_k hk, fk k i hk]
          have k5 : m3 1 5 = m 1 3 := by rw [e3, dc_up_s]
          have k3 : m3 1 3 = m 1 3 := by rw [kj 3 (by decide), g3]
          have k1 : m3 1 1 = n := by rw [kj 1 (by decide), g1]
          have k2 : m3 1 2 = lim := by rw [kj 2 (by decide), g2]
          have k8 : m3 1 8 = m 1 8 := by rw [kj 8 (by decide), g8]
          have k9 : m3 1 9 = m 1 9 := by rw [kj 9 (by decide), g9]
          have k7 : m3 1 7 = 0 := by rw [kj 7 (by decide), f7]
          have kt : m3 2 = t := (funext fun i => kk 2 i (by decide)).trans bt
          have hne : ¬ (n ≤ m 1 3 ∨ lim ≤ m 1 3) := by omega
          have hpl : pz_pl t n lim (m 1 3) = m 1 3 := by unfold pz_pl; rw [esk, if_neg hne]
          rcases cz_sh2 hx with ⟨⟨v1, m4, ⟨c9, hd⟩, -, e5⟩, d1, d2⟩ | ⟨⟨v1, m4, ⟨c9, hd⟩, -, e5⟩, d1, d2, d3⟩ | ⟨⟨v1, m4, hd, -, e5⟩, d1, d2⟩
          · subst e5
            rw [kt, k3] at d1 d2
            obtain ⟨q0, q1, q2, q5, q8, q9, q3, q6, q4⟩ := cz_word c9 m3 v1 m' hd (by rw [k5, k3, k1]; omega)
            rw [kt, k1, k3] at q3 q6 q4
            rw [k5] at q5 q6 q4
            have hl : 97 ≤ t (m 1 3) ∧ t (m 1 3) ≤ 122 := ⟨by omega, by omega⟩
            have hnx : pz_nx t n lim (m 1 3) = pz_en 97 122 t n (m 1 3) := by unfold pz_nx; rw [esk, if_neg hne, if_pos hl]
            refine ⟨⟨fun k i hk => (q0 k i hk).trans (kk k i hk), q1.trans (k1.trans bn.symm), q2.trans (k2.trans bl.symm), q8.trans k8, q9.trans k9⟩, ?_, q5.trans hpl.symm, q3.trans hnx.symm, fun _ => by rw [hnx, hpl, q6], ?_⟩
            · unfold pz_k
              rw [esk, if_neg hne, if_pos hl, q4]
            · intro z
              exfalso
              unfold pz_k at z
              rw [esk, if_neg hne, if_pos hl] at z
              split at z <;> omega
          · subst e5
            rw [kt, k3] at d1 d2 d3
            obtain ⟨⟨q0, q1, q2, q5, q8, q9, q3, q6, q4⟩, y1, y2⟩ := cz_num c9 m3 v1 m' hd (by rw [k5, k3, k1]; omega) (fun _ => k7) (by rw [k5, k3]; intro z; omega) (by rw [k5, k3]; intro z; omega)
            rw [kt, k1, k3] at q3 q6 q4 y1 y2
            rw [k5] at q5 q6 q4 y1 y2
            have hl : ¬ (97 ≤ t (m 1 3) ∧ t (m 1 3) ≤ 122) := by omega
            have hd2 : 48 ≤ t (m 1 3) ∧ t (m 1 3) ≤ 57 := ⟨by omega, by omega⟩
            have hnx : pz_nx t n lim (m 1 3) = pz_en 48 57 t n (m 1 3) := by unfold pz_nx; rw [esk, if_neg hne, if_neg hl, if_pos hd2]
            have hk : pz_k t n lim (m 1 3) = (if pz_en 48 57 t n (m 1 3) - m 1 3 ≤ 2 then 2 else 4) := by unfold pz_k; rw [esk, if_neg hne, if_neg hl, if_pos hd2]
            refine ⟨⟨fun k i hk => (q0 k i hk).trans (kk k i hk), q1.trans (k1.trans bn.symm), q2.trans (k2.trans bl.symm), q8.trans k8, q9.trans k9⟩, by rw [hk, q4], q5.trans hpl.symm, q3.trans hnx.symm, fun z => ?_, fun z => ?_⟩
            · exfalso
              rw [hk] at z
              split at z <;> omega
            · have e1 := pz_en_r (a := 48) (b := 57) (t := t) (p := m 1 3 + 1) (n := n) (by omega)
              have e2 := pz_en_y (a := 48) (b := 57) (t := t) (p := m 1 3) (n := n) (by omega) hd2
              have hle : pz_en 48 57 t n (m 1 3) - m 1 3 ≤ 2 := by
                rw [hk] at z
                by_cases hq : pz_en 48 57 t n (m 1 3) - m 1 3 ≤ 2
                · exact hq
                · rw [if_neg hq] at z; omega
              unfold pz_v
              rw [esk, if_pos hd2]
              by_cases hq : pz_en 48 57 t n (m 1 3) - m 1 3 = 1
              · rw [if_pos hq]; exact y1 (by omega)
              · rw [if_neg hq]; exact y2 (by omega)
          · subst e5
            rw [kt, k3] at d1 d2
            obtain ⟨q0, q1, q2, q5, q8, q9, q3, q4, q7⟩ := cz_sign hd
            rw [kt, k3] at q4 q7
            rw [k3] at q3
            rw [k5] at q5
            have hl : ¬ (97 ≤ t (m 1 3) ∧ t (m 1 3) ≤ 122) := by omega
            have hd2 : ¬ (48 ≤ t (m 1 3) ∧ t (m 1 3) ≤ 57) := by omega
            have hnx : pz_nx t n lim (m 1 3) = m 1 3 + 1 := by unfold pz_nx; rw [esk, if_neg hne, if_neg hl, if_neg hd2]
            have hk : pz_k t n lim (m 1 3) = (if t (m 1 3) = 45 ∨ t (m 1 3) = 59 ∨ t (m 1 3) = 46 then 3 else 4) := by unfold pz_k; rw [esk, if_neg hne, if_neg hl, if_neg hd2]
            refine ⟨⟨fun k i hk => (q0 k i hk).trans (kk k i hk), q1.trans (k1.trans bn.symm), q2.trans (k2.trans bl.symm), q8.trans k8, q9.trans k9⟩, by rw [hk, q4], q5.trans hpl.symm, q3.trans hnx.symm, fun z => ?_, fun z => ?_⟩
            · exfalso
              rw [hk] at z
              split at z <;> omega
            · unfold pz_v
              rw [esk, if_neg hd2, q7]
        · rw [g3, g2] at c2
          exact fin (Or.inr (by omega)) hx
    · obtain ⟨m1, e1, hr⟩ := hr
      rw [bn, bt] at hc
      have w : dc_w (m 1 3 + 1) = m 1 3 + 1 := dc_w_eq (by unfold sv_I; omega)
      rw [w] at e1
      have f3 : m1 1 3 = m 1 3 + 1 := by rw [e1, dc_up_s]
      have fj : ∀ j : Int, j ≠ 3 → m1 1 j = m 1 j := fun j h3 => by rw [e1, dc_up_i h3]
      have fk : ∀ k i, k ≠ 1 → m1 k i = m k i := fun k i hk => by rw [e1, dc_up_k hk]
      have F1 : cz_F m m1 := ⟨fk, fj 1 (by decide), fj 2 (by decide), fj 8 (by decide), fj 9 (by decide)⟩
      obtain ⟨q1, q2⟩ := ih m1 v m' t n lim hr (hB0.go F1) (by rw [f3]; omega) (by rw [f3]; omega)
      rw [f3] at q2
      refine ⟨F1.tr q1, ?_⟩
      have esk : pz_sk t n (m 1 3) = pz_sk t n (m 1 3 + 1) := pz_sk_y (by omega) (by omega)
      unfold cz_T pz_k pz_pl pz_nx pz_v at q2 ⊢
      rw [esk]
      exact q2
theorem cz_adv {m : dc_M} {v : Int} {m' : dc_M} {t : Int → Int} {n lim : Int} (h : D_117 m v m') (hB : cz_B m t n lim) (h0 : 0 ≤ m 1 3) (hn : m 1 3 ≤ n) : cz_F m m' ∧ cz_T m' t n lim (m 1 3) := by
  obtain ⟨c, h⟩ := h
  exact cz_advl c m v m' t n lim h hB h0 hn
