/-! the sorting of a box, column by column: pure, the class -/
def so_lt (rk : Int → Int) (r j : Int) : Int := if rk j < r then 1 else 0
def so_eq (rk : Int → Int) (r j : Int) : Int := if rk j = r then 1 else 0
/-- where card i goes -/
def so_p (rk : Int → Int) (n i : Int) : Int := nt_c (so_lt rk (rk i)) n + nt_c (so_eq rk (rk i)) i
theorem so_1 {rk : Int → Int} {r : Int} : ∀ n : Nat, nt_c (so_lt rk (r + 1)) (n : Int) = nt_c (so_lt rk r) (n : Int) + nt_c (so_eq rk r) (n : Int) := by
  intro n
  induction n with
  | zero => rfl
  | succ n ih =>
    rw [show ((n + 1 : Nat) : Int) = (n : Int) + 1 by omega, nt_c_s (by omega), nt_c_s (by omega), nt_c_s (by omega), ih]
    unfold so_lt so_eq
    by_cases h1 : rk (n : Int) < r
    · rw [if_pos h1, if_pos (show rk (n : Int) < r + 1 by omega), if_neg (show ¬ rk (n : Int) = r by omega)]
      rw [if_neg (by decide), if_pos rfl]
      omega
    · by_cases h2 : rk (n : Int) = r
      · rw [if_neg h1, if_pos (show rk (n : Int) < r + 1 by omega), if_pos h2]
        rw [if_neg (by decide), if_pos rfl]
        omega
      · rw [if_neg h1, if_neg (show ¬ rk (n : Int) < r + 1 by omega), if_neg h2]
        rw [if_pos rfl]
        omega
theorem so_1i {rk : Int → Int} {r n : Int} (h : 0 ≤ n) : nt_c (so_lt rk (r + 1)) n = nt_c (so_lt rk r) n + nt_c (so_eq rk r) n := by
  have := so_1 (rk := rk) (r := r) n.toNat
  rw [show ((n.toNat : Nat) : Int) = n by omega] at this
  exact this
theorem so_mono {rk : Int → Int} {n r : Int} (h : 0 ≤ n) : ∀ f : Nat, nt_c (so_lt rk r) n ≤ nt_c (so_lt rk (r + (f : Int))) n
  | 0 => by rw [show r + ((0 : Nat) : Int) = r by omega]; exact Int.le_refl _
  | f + 1 => by
    have a := so_mono (rk := rk) (r := r) h f
    have b := so_1i (rk := rk) (r := r + (f : Int)) h
    have c := nt_c_r (b := so_eq rk (r + (f : Int))) h
    rw [show r + ((f + 1 : Nat) : Int) = r + (f : Int) + 1 by omega]
    omega
theorem so_le {rk : Int → Int} {n r s : Int} (h : 0 ≤ n) (hr : r ≤ s) : nt_c (so_lt rk r) n ≤ nt_c (so_lt rk s) n := by
  have := so_mono (rk := rk) (n := n) (r := r) h (s - r).toNat
  rw [show r + (((s - r).toNat : Nat) : Int) = s by omega] at this
  exact this
theorem so_all {b : Int → Int} : ∀ n : Nat, (∀ j, 0 ≤ j → j < (n : Int) → b j ≠ 0) → nt_c b (n : Int) = n := by
  intro n
  induction n with
  | zero => intro _; rfl
  | succ n ih =>
    intro h
    rw [show ((n + 1 : Nat) : Int) = (n : Int) + 1 by omega, nt_c_y (by omega) (h n (by omega) (by omega)), ih (fun j j0 j1 => h j j0 (by omega))]
theorem so_none {b : Int → Int} : ∀ n : Nat, (∀ j, 0 ≤ j → j < (n : Int) → b j = 0) → nt_c b (n : Int) = 0 := by
  intro n
  induction n with
  | zero => intro _; rfl
  | succ n ih =>
    intro h
    rw [show ((n + 1 : Nat) : Int) = (n : Int) + 1 by omega, nt_c_n (by omega) (h n (by omega) (by omega)), ih (fun j j0 j1 => h j j0 (by omega))]
/-- the ranks of n cards -/
def so_k (rk : Int → Int) (n : Int) : Prop := ∀ j, 0 ≤ j → j < n → 0 ≤ rk j ∧ rk j ≤ 10
theorem so_top {rk : Int → Int} {n : Int} (h : 0 ≤ n) (k : so_k rk n) : nt_c (so_lt rk 11) n = n := by
  have := so_all (b := so_lt rk 11) n.toNat (fun j j0 j1 => by
    have := k j j0 (by omega)
    unfold so_lt
    rw [if_pos (by omega)]
    decide)
  rw [show ((n.toNat : Nat) : Int) = n by omega] at this
  exact this
theorem so_bot {rk : Int → Int} {n : Int} (h : 0 ≤ n) (k : so_k rk n) : nt_c (so_lt rk 0) n = 0 := by
  have := so_none (b := so_lt rk 0) n.toNat (fun j j0 j1 => by
    have := k j j0 (by omega)
    unfold so_lt
    rw [if_neg (by omega)])
  rw [show ((n.toNat : Nat) : Int) = n by omega] at this
  exact this
theorem so_e1 {rk : Int → Int} {i : Int} : so_eq rk (rk i) i ≠ 0 := by
  unfold so_eq
  rw [if_pos rfl]
  decide
/-- its bounds -/
theorem so_p_r {rk : Int → Int} {n i : Int} (i0 : 0 ≤ i) (i1 : i < n) : nt_c (so_lt rk (rk i)) n ≤ so_p rk n i ∧ so_p rk n i < nt_c (so_lt rk (rk i + 1)) n := by
  have a := nt_c_r (b := so_eq rk (rk i)) i0
  have b := nt_c_y (b := so_eq rk (rk i)) i0 so_e1
  have c := nt_c_le (b := so_eq rk (rk i)) (h := i + 1) (k := n) (by omega) (by omega)
  have d := so_1i (rk := rk) (r := rk i) (n := n) (by omega)
  unfold so_p
  omega
theorem so_p_n {rk : Int → Int} {n i : Int} (k : so_k rk n) (i0 : 0 ≤ i) (i1 : i < n) : 0 ≤ so_p rk n i ∧ so_p rk n i < n := by
  have a := so_p_r (rk := rk) i0 i1
  have b := nt_c_r (b := so_lt rk (rk i)) (h := n) (by omega)
  have c := so_le (rk := rk) (n := n) (r := rk i + 1) (s := 11) (by omega) (by have := k i i0 i1; omega)
  have d := so_top (rk := rk) (n := n) (by omega) k
  omega
/-- which of two comes first -/
theorem so_p_lt {rk : Int → Int} {n i j : Int} (i0 : 0 ≤ i) (i1 : i < n) (j0 : 0 ≤ j) (j1 : j < n) (h : rk i < rk j ∨ (rk i = rk j ∧ i < j)) : so_p rk n i < so_p rk n j := by
  rcases h with h | ⟨h1, h2⟩
  · have a := so_p_r (rk := rk) i0 i1
    have b := so_p_r (rk := rk) j0 j1
    have c := so_le (rk := rk) (n := n) (r := rk i + 1) (s := rk j) (by omega) (by omega)
    omega
  · have b := nt_c_y (b := so_eq rk (rk i)) i0 so_e1
    have c := nt_c_le (b := so_eq rk (rk i)) (h := i + 1) (k := j) (by omega) (by omega)
    unfold so_p
    rw [← h1]
    omega
theorem so_p_inj {rk : Int → Int} {n i j : Int} (i0 : 0 ≤ i) (i1 : i < n) (j0 : 0 ≤ j) (j1 : j < n) (h : so_p rk n i = so_p rk n j) : i = j := by
  rcases Int.lt_trichotomy (rk i) (rk j) with a | a | a
  · have := so_p_lt (rk := rk) i0 i1 j0 j1 (Or.inl a); omega
  · rcases Int.lt_trichotomy i j with b | b | b
    · have := so_p_lt (rk := rk) i0 i1 j0 j1 (Or.inr ⟨a, b⟩); omega
    · exact b
    · have := so_p_lt (rk := rk) j0 j1 i0 i1 (Or.inr ⟨a.symm, b⟩); omega
  · have := so_p_lt (rk := rk) j0 j1 i0 i1 (Or.inl a); omega
theorem so_su {rk : Int → Int} {n p : Int} (hn : 0 ≤ n) (k : so_k rk n) (p0 : 0 ≤ p) (p1 : p < n) : ∃ i, 0 ≤ i ∧ i < n ∧ so_p rk n i = p := by
  have main : ∀ R : Nat, p < nt_c (so_lt rk (R : Int)) n → ∃ i, 0 ≤ i ∧ i < n ∧ so_p rk n i = p := by
    intro R
    induction R with
    | zero =>
      intro h
      have := so_bot (rk := rk) hn k
      exfalso
      have h : p < nt_c (so_lt rk 0) n := h
      omega
    | succ R ih =>
      intro h
      by_cases y : p < nt_c (so_lt rk (R : Int)) n
      · exact ih y
      · have e := so_1i (rk := rk) (r := (R : Int)) hn
        rw [show ((R + 1 : Nat) : Int) = (R : Int) + 1 by omega] at h
        have en : ((n.toNat : Nat) : Int) = n := by omega
        obtain ⟨i, i0, i1, i2, i3⟩ := nt_c_su (b := so_eq rk (R : Int)) n.toNat (p - nt_c (so_lt rk (R : Int)) n) (by omega) (by rw [en]; omega)
        have er : rk i = (R : Int) := by
          unfold so_eq at i2
          by_cases w : rk i = (R : Int)
          · exact w
          · rw [if_neg w] at i2; exact absurd rfl i2
        refine ⟨i, i0, by omega, ?_⟩
        unfold so_p
        rw [er, i3]
        omega
  exact main 11 (by have := so_top (rk := rk) hn k; show p < nt_c (so_lt rk 11) n; omega)
/-- which card comes to place p -/
noncomputable def so_q (rk : Int → Int) (n p : Int) : Int := Classical.epsilon (fun i => 0 ≤ i ∧ i < n ∧ so_p rk n i = p)
theorem so_q_s {rk : Int → Int} {n p : Int} (hn : 0 ≤ n) (k : so_k rk n) (p0 : 0 ≤ p) (p1 : p < n) : 0 ≤ so_q rk n p ∧ so_q rk n p < n ∧ so_p rk n (so_q rk n p) = p := Classical.epsilon_spec (p := fun i => 0 ≤ i ∧ i < n ∧ so_p rk n i = p) (so_su hn k p0 p1)
/-- the rank of a punch -/
def so_r (x : Int) : Int := (x % 16 + 1) % 16
theorem so_r_v {x : Int} (h : bx_v x) : 0 ≤ so_r x ∧ so_r x ≤ 10 := by
  obtain ⟨h1, h2⟩ := h
  unfold so_r
  omega
theorem so_d28 : ∀ b : Nat, b < 32 → sv_g (sv_u (dc_w (sv_g (sv_u ((b : Nat) : Int) &&& sv_u 15) + 1)) &&& sv_u 15) = so_r ((b : Nat) : Int) := by decide +kernel
theorem cs_28 {s x : Int} {m : dc_M} (hv : bx_v (m 4 (s + (x - 1)))) (hs : 0 ≤ s ∧ s ≤ 6400) (hx : 1 ≤ x ∧ x ≤ 20) {v : Int} {m' : dc_M} (h : D_28 s x m v m') : m' = m ∧ v = so_r (m 4 (s + (x - 1))) := by
  obtain ⟨v1, m1, ⟨-, ev1, em1⟩, ev, em⟩ := h
  rw [dw (z := s + x) (by omega) (by omega), dw (z := s + x - 1) (by omega) (by omega), show s + x - 1 = s + (x - 1) by omega] at ev1
  have b := so_d28 (m 4 (s + (x - 1))).toNat (by have := hv.1; omega)
  rw [show (((m 4 (s + (x - 1))).toNat : Nat) : Int) = m 4 (s + (x - 1)) by have := hv.1; omega, ← ev1] at b
  exact ⟨em.trans em1, ev.trans b⟩
/-- the class's sorting of the spare row -/
theorem cs_30 {n x : Int} (hn : 0 ≤ n ∧ n ≤ 40) (hx : 1 ≤ x ∧ x ≤ 20) {rk : Int → Int} (hk : so_k rk n) {m0 : dc_M} (h8 : ∀ j, 0 ≤ j → j < n → (0 ≤ m0 8 j ∧ m0 8 j ≤ 6400) ∧ bx_v (m0 4 (m0 8 j + (x - 1))) ∧ so_r (m0 4 (m0 8 j + (x - 1))) = rk j) {v : Int} {m' : dc_M} (h : D_30 n x m0 v m') : (∀ i, 0 ≤ i → i < n → m' 8 (so_p rk n i) = m0 8 i) ∧ ∀ (k : Nat) (i : Int), k ≠ 9 → k ≠ 10 → ¬ (k = 8 ∧ 0 ≤ i ∧ i < n) → m' k i = m0 k i := by
  obtain ⟨m1, e1, c, h⟩ := h
  have st : ∀ (m : dc_M), (∀ (k : Nat) (i : Int), k ≠ 9 → k ≠ 10 → m k i = m0 k i) → ∀ (l v2 : Int) (m2 : dc_M), 0 ≤ l → l < n → D_28 (m 8 l) x m v2 m2 → m2 = m ∧ v2 = rk l := fun m fr l v2 m2 l0 l1 hd => by
    obtain ⟨q1, q2, q3⟩ := h8 l l0 l1
    rw [fr 8 l (by decide) (by decide)] at hd
    obtain ⟨a1, a2⟩ := cs_28 (by rw [fr 4 _ (by decide) (by decide)]; exact q2) q1 hx hd
    rw [fr 4 _ (by decide) (by decide), q3] at a2
    exact ⟨a1, a2⟩
  have main : ∀ c : Nat, (∀ (l : Int) (m : dc_M) (v : Int) (m' : dc_M), LM_30 n x c 10 l m v m' → 0 ≤ l → l ≤ n → (∀ (k : Nat) (i : Int), k ≠ 9 → k ≠ 10 → m k i = m0 k i) → (∀ q, 0 ≤ q → q < 12 → m 10 q = nt_c (so_eq rk (q - 1)) l) → (∀ i, 0 ≤ i → i < n → m' 8 (so_p rk n i) = m0 8 i) ∧ ∀ (k : Nat) (i : Int), k ≠ 9 → k ≠ 10 → ¬ (k = 8 ∧ 0 ≤ i ∧ i < n) → m' k i = m0 k i) ∧
    (∀ (l : Int) (m : dc_M) (v : Int) (m' : dc_M), LM_30 n x c 45 l m v m' → 1 ≤ l → l ≤ 12 → (∀ (k : Nat) (i : Int), k ≠ 9 → k ≠ 10 → m k i = m0 k i) → (∀ q, 0 ≤ q → q < l → m 10 q = nt_c (so_lt rk q) n) → (∀ q, l ≤ q → q < 12 → m 10 q = nt_c (so_eq rk (q - 1)) n) → (∀ i, 0 ≤ i → i < n → m' 8 (so_p rk n i) = m0 8 i) ∧ ∀ (k : Nat) (i : Int), k ≠ 9 → k ≠ 10 → ¬ (k = 8 ∧ 0 ≤ i ∧ i < n) → m' k i = m0 k i) ∧
    (∀ (l : Int) (m : dc_M) (v : Int) (m' : dc_M), LM_30 n x c 76 l m v m' → 0 ≤ l → l ≤ n → (∀ (k : Nat) (i : Int), k ≠ 9 → k ≠ 10 → m k i = m0 k i) → (∀ q, 0 ≤ q → q < 11 → m 10 q = nt_c (so_lt rk q) n + nt_c (so_eq rk q) l) → (∀ i, 0 ≤ i → i < l → m 9 (so_p rk n i) = m0 8 i) → (∀ i, 0 ≤ i → i < n → m' 8 (so_p rk n i) = m0 8 i) ∧ ∀ (k : Nat) (i : Int), k ≠ 9 → k ≠ 10 → ¬ (k = 8 ∧ 0 ≤ i ∧ i < n) → m' k i = m0 k i) := by
    intro c
    induction c with
    | zero => exact ⟨fun l m v m' h => h.elim, fun l m v m' h => h.elim, fun l m v m' h => h.elim⟩
    | succ c ih =>
      obtain ⟨ih1, ih2, ih3⟩ := ih
      refine ⟨fun l m v m' h l0 l1 fr h10 => ?_, fun l m v m' h l0 l1 fr hlo hhi => ?_, fun l m v m' h l0 l1 fr h10 h9 => ?_⟩
      · replace h := lm_30_10.mp h
        rw [dw (z := l + 1) (by omega) (by omega)] at h
        rcases h with ⟨c1, h⟩ | ⟨c1, -, v2, m2, h2, h⟩
        · have el : l = n := by clear h; omega
          rw [el] at h10
          refine ih2 1 m v m' h (by decide) (by decide) fr (fun q q0 q1 => ?_) (fun q q0 q1 => h10 q (by clear h; omega) q1)
          have eq : q = 0 := by clear h; omega
          rw [eq, h10 0 (Int.le_refl 0) (by decide), so_bot hn.1 hk]
          have := so_none (b := so_eq rk (0 - 1)) n.toNat (fun j j0 j1 => by
            have := hk j j0 (by clear h; omega)
            unfold so_eq
            rw [if_neg (by clear h; omega)])
          rw [show ((n.toNat : Nat) : Int) = n by clear h; omega] at this
          exact this
        · obtain ⟨a1, a2⟩ := st m fr l v2 m2 l0 (by clear h h2; omega) h2
          clear h2
          have kl := hk l l0 (by clear h; omega)
          rw [a1, a2, dw (z := rk l + 1) (by clear h; omega) (by clear h; omega)] at h
          obtain ⟨-, -, m3, e3, h⟩ := h
          have r := nt_c_r (b := so_eq rk (rk l + 1 - 1)) l0
          rw [h10 (rk l + 1) (by clear h; omega) (by clear h; omega), dw (by clear h; omega) (by clear h; omega)] at e3
          refine ih1 (l + 1) m3 v m' h (by clear h; omega) (by clear h; omega) (fun k i y1 y2 => by rw [e3, dc_up_k y2]; exact fr k i y1 y2) (fun q q0 q1 => ?_)
          by_cases y : q = rk l + 1
          · rw [y, e3, dc_up_s, nt_c_y l0]
            rw [show rk l + 1 - 1 = rk l by clear h; omega]
            exact so_e1
          · rw [e3, dc_up_i y, h10 q q0 q1, nt_c_n l0]
            unfold so_eq
            rw [if_neg (by clear h; omega)]
      · replace h := lm_30_45.mp h
        rw [dw (z := l + 1) (by omega) (by omega), dw (z := l - 1) (by omega) (by omega)] at h
        rcases h with ⟨c1, h⟩ | ⟨c1, -, -, -, m2, e2, h⟩
        · refine ih3 0 m v m' h (Int.le_refl 0) hn.1 fr (fun q q0 q1 => ?_) (fun i i0 i1 => by exfalso; clear h; omega)
          rw [hlo q q0 (by clear h; omega), nt_c_0, Int.add_zero]
        · have r1 := nt_c_r (b := so_eq rk (l - 1)) hn.1
          have r2 := nt_c_r (b := so_lt rk (l - 1)) hn.1
          have e := so_1i (rk := rk) (r := l - 1) hn.1
          rw [show l - 1 + 1 = l by clear h; omega] at e
          rw [hhi l (Int.le_refl l) (by clear h; omega), hlo (l - 1) (by clear h; omega) (by clear h; omega), dw (by clear h; omega) (by clear h; omega)] at e2
          refine ih2 (l + 1) m2 v m' h (by clear h; omega) (by clear h; omega) (fun k i y1 y2 => by rw [e2, dc_up_k y2]; exact fr k i y1 y2) (fun q q0 q1 => ?_) (fun q q0 q1 => by rw [e2, dc_up_i (by clear h; omega)]; exact hhi q (by clear h; omega) q1)
          by_cases y : q = l
          · rw [y, e2, dc_up_s]; clear h; omega
          · rw [e2, dc_up_i y]; exact hlo q q0 (by clear h; omega)
      · replace h := lm_30_76.mp h
        rw [dw (z := l + 1) (by omega) (by omega)] at h
        rcases h with ⟨c1, -, m2, e2, ev, em⟩ | ⟨c1, -, v2, m2, h2, h⟩
        · have el : l = n := by omega
          rw [el] at h9
          rw [em]
          refine ⟨fun i i0 i1 => ?_, fun k i y1 y2 y3 => ?_⟩
          · have p := so_p_n hk i0 i1
            rw [e2, dc_cpy_i p.1 (by omega), show 0 + (so_p rk n i - 0) = so_p rk n i by omega]
            exact h9 i i0 i1
          · rw [e2]
            exact (if_neg (fun z => y3 ⟨z.1, z.2.1, by omega⟩)).trans (fr k i y1 y2)
        · obtain ⟨a1, a2⟩ := st m fr l v2 m2 l0 (by clear h h2; omega) h2
          clear h2
          have kl := hk l l0 (by clear h; omega)
          rw [a1, a2] at h
          obtain ⟨-, -, -, m3, e3, -, -, m4, e4, h⟩ := h
          have ep : m 10 (rk l) = so_p rk n l := h10 (rk l) kl.1 (by clear h; omega)
          have pn := so_p_n hk l0 (i := l) (by clear h; omega)
          rw [ep, fr 8 l (by decide) (by decide)] at e3
          rw [show m3 10 (rk l) = so_p rk n l by rw [e3, dc_up_k (by decide)]; exact ep, dw (by clear h; omega) (by clear h; omega)] at e4
          refine ih3 (l + 1) m4 v m' h (by clear h; omega) (by clear h; omega) (fun k i y1 y2 => by rw [e4, dc_up_k y2, e3, dc_up_k y1]; exact fr k i y1 y2) (fun q q0 q1 => ?_) (fun i i0 i1 => ?_)
          · by_cases y : q = rk l
            · rw [y, e4, dc_up_s, nt_c_y l0 so_e1]
              unfold so_p
              clear h; omega
            · rw [e4, dc_up_i y, e3, dc_up_k (by decide), h10 q q0 q1, nt_c_n l0]
              unfold so_eq
              rw [if_neg (fun z => y z.symm)]
          · rw [e4, dc_up_k (by decide), e3]
            by_cases y : i = l
            · rw [y, dc_up_s]
            · have i2 : i < l := by clear h; omega
              rw [dc_up_i (fun z => y (so_p_inj i0 (by clear h; omega) l0 (by clear h; omega) z))]
              exact h9 i i0 i2
  refine (main c).1 0 m1 v m' h (Int.le_refl 0) hn.1 (fun k i y1 y2 => by rw [e1]; exact if_neg (fun z => y2 z.1)) (fun q q0 q1 => ?_)
  rw [e1, nt_c_0]
  exact if_pos ⟨rfl, q0, q1⟩
/-- the box, sorted -/
def so_rk (B : Int → Int → Int) (x j : Int) : Int := so_r (B j (x - 1))
noncomputable def so_B (N : Int → Int) (B : Int → Int → Int → Int) (t x b k c : Int) : Int := @ite Int (b = t ∧ 0 ≤ k ∧ k < N t) (Classical.propDecidable _) (B t (so_q (so_rk (B t) x) (N t) k) c) (B b k c)
theorem so_V {N : Int → Int} {B : Int → Int → Int → Int} (V : ∀ b k c, bx_v (B b k c)) {t x : Int} : ∀ b k c, bx_v (so_B N B t x b k c) := fun b k c => by
  unfold so_B
  split
  · exact V _ _ _
  · exact V _ _ _
theorem so_kk {B : Int → Int → Int → Int} (V : ∀ b k c, bx_v (B b k c)) {t x n : Int} : so_k (so_rk (B t) x) n := fun j _ _ => so_r_v (V _ _ _)
theorem cs_156 {N : Int → Int} {B : Int → Int → Int → Int} (V : ∀ b k c, bx_v (B b k c)) {m : dc_M} (hb : bx_C N B m) {t x v : Int} {m' : dc_M} (h : D_156 t x m v m') : (((0 ≤ t ∧ t < 8) ∧ 1 ≤ x ∧ x ≤ 20) ∧ v = 1 ∧ bx_C N (so_B N B t x) m' ∧ ∀ (k : Nat) (i : Int), k ≠ 5 → k ≠ 8 → k ≠ 9 → k ≠ 10 → m' k i = m k i) ∨ (¬ ((0 ≤ t ∧ t < 8) ∧ 1 ≤ x ∧ x ≤ 20) ∧ v = 0 ∧ m' = m) := by
  obtain ⟨v1, m1, h1, h⟩ := h
  obtain ⟨e1, q1⟩ := ck_box h1
  clear h1
  rw [e1] at h
  rcases h with ⟨c1, ev, em⟩ | ⟨c1, v2, m2, h2, h⟩
  · rcases q1 with ⟨q1, -⟩ | ⟨-, q1⟩
    · exfalso; omega
    · exact Or.inr ⟨fun z => q1 z.1, ev, em⟩
  · have ht : 0 ≤ t ∧ t < 8 := by
      rcases q1 with ⟨-, q1⟩ | ⟨q1, -⟩
      · exact q1
      · exact absurd q1 c1
    have q2 : m2 = m ∧ ((v2 = 1 ∧ 1 ≤ x ∧ x ≤ 20) ∨ (v2 = 0 ∧ ¬ (1 ≤ x ∧ x ≤ 20))) := by
      rcases h2 with ⟨c2, ev, em⟩ | ⟨c2, ⟨c3, ev, em⟩ | ⟨c3, ev, em⟩⟩
      · exact ⟨em, Or.inr ⟨ev, fun z => by omega⟩⟩
      · exact ⟨em, Or.inr ⟨ev, fun z => by omega⟩⟩
      · exact ⟨em, Or.inl ⟨ev, by omega, by omega⟩⟩
    clear h2
    rw [q2.1] at h
    rcases h with ⟨c2, v3, m3, h3, ev, em⟩ | ⟨c2, ev, em⟩
    · have hx : 1 ≤ x ∧ x ≤ 20 := by
        rcases q2.2 with ⟨-, q⟩ | ⟨q, -⟩
        · exact q
        · exact absurd q c2
      obtain ⟨nx, n0, n1⟩ := hb.1 t ht.1 ht.2
      obtain ⟨-, -, m4, e4, -, v5, m5, h5, -, -, m6, e6, -, em3⟩ := h3
      rw [nx, dw (z := t * 40) (by clear h5; omega) (by clear h5; omega), show t * 40 = 40 * t by clear h5; omega] at e4
      have g6 : m4 6 t = N t := by rw [e4, dc_cpy_k (by decide)]; exact nx
      rw [g6] at h5
      obtain ⟨B1, B2, B3, B4⟩ := hb
      have K := so_kk V (t := t) (x := x) (n := N t)
      have e8 : ∀ j, 0 ≤ j → j < N t → m4 8 j = m 5 (40 * t + j) := fun j j0 j1 => by rw [e4, dc_cpy_i j0 (by clear h5; omega), show 40 * t + (j - 0) = 40 * t + j by clear h5; omega]
      obtain ⟨r1, r2⟩ := cs_30 ⟨n0, n1⟩ hx K (fun j j0 j1 => by
        obtain ⟨p, p1, p2, p3⟩ := B2 t j ht.1 ht.2 j0 (by clear h5; omega)
        have cell : m4 4 (m 5 (40 * t + j) + (x - 1)) = B t j (x - 1) := by rw [e4, dc_cpy_k (by decide)]; exact B4 t j (x - 1) ht.1 ht.2 j0 j1 (by clear h5; omega) (by clear h5; omega)
        rw [e8 j j0 j1, cell]
        exact ⟨⟨by clear h5; omega, by clear h5; omega⟩, V _ _ _, rfl⟩) h5
      clear h5
      have g56 : m5 6 t = N t := (r2 6 t (by decide) (by decide) (by omega)).trans g6
      rw [g56, dw (z := t * 40) (by omega) (by omega), show t * 40 = 40 * t by omega] at e6
      have F : ∀ (k : Nat) (i : Int), k ≠ 5 → k ≠ 8 → k ≠ 9 → k ≠ 10 → m' k i = m k i := fun k i y1 y2 y3 y4 => by
        rw [em, em3, e6, dc_cpy_k y1, r2 k i y3 y4 (fun z => y2 z.1), e4, dc_cpy_k y2]
      have new : ∀ p, 0 ≤ p → p < N t → m' 5 (40 * t + p) = m 5 (40 * t + so_q (so_rk (B t) x) (N t) p) := fun p p0 p1 => by
        obtain ⟨s1, s2, s3⟩ := so_q_s n0 K p0 p1
        have a := r1 _ s1 s2
        rw [s3, e8 _ s1 s2] at a
        rw [em, em3, e6, dc_cpy_i (by omega) (by omega), show 0 + (40 * t + p - 40 * t) = p by omega]
        exact a
      have old : ∀ b k, 0 ≤ b → b < 8 → 0 ≤ k → k < 40 → ¬ (b = t ∧ k < N t) → m' 5 (40 * b + k) = m 5 (40 * b + k) := fun b k b0 b1 k0 k1 z => by
        rw [em, em3, e6, dc_cpy_o (fun w => z (by omega)), r2 5 _ (by decide) (by decide) (by omega), e4, dc_cpy_k (by decide)]
      refine Or.inl ⟨⟨ht, hx⟩, ev, ⟨fun b b0 b1 => ?_, fun b k b0 b1 k0 k1 => ?_, fun b k j b0 b1 k0 kj j1 => ?_, fun b k d b0 b1 k0 k1 d0 d1 => ?_⟩, F⟩
      · rw [F 6 b (by decide) (by decide) (by decide) (by decide)]; exact B1 b b0 b1
      · by_cases z : b = t ∧ k < N t
        · obtain ⟨s1, s2, s3⟩ := so_q_s n0 K k0 z.2
          rw [z.1, new k k0 z.2]
          exact B2 t _ ht.1 ht.2 s1 (by omega)
        · rw [old b k b0 b1 k0 k1 z]; exact B2 b k b0 b1 k0 k1
      · have ne : ∀ i l, 0 ≤ i → i < 40 → 0 ≤ l → l < 40 → i ≠ l → m 5 (40 * b + i) ≠ m 5 (40 * b + l) := fun i l i0 i1 l0 l1 w => by
          rcases Int.lt_or_gt_of_ne w with w | w
          · exact B3 b i l b0 b1 i0 w l1
          · exact fun y => B3 b l i b0 b1 l0 w i1 y.symm
        by_cases z1 : b = t ∧ k < N t
        · obtain ⟨s1, s2, s3⟩ := so_q_s n0 K k0 z1.2
          by_cases z2 : b = t ∧ j < N t
          · obtain ⟨u1, u2, u3⟩ := so_q_s n0 K (p := j) (by omega) z2.2
            have d := ne (so_q (so_rk (B t) x) (N t) k) (so_q (so_rk (B t) x) (N t) j) s1 (by omega) u1 (by omega) (fun w => by rw [w] at s3; omega)
            rw [z1.1] at d ⊢
            rw [new k k0 z1.2, new j (by omega) z2.2]
            exact d
          · have d := ne (so_q (so_rk (B t) x) (N t) k) j s1 (by omega) (by omega) j1 (fun w => z2 ⟨z1.1, by omega⟩)
            rw [old b j b0 b1 (by omega) j1 z2]
            rw [z1.1] at d ⊢
            rw [new k k0 z1.2]
            exact d
        · by_cases z2 : b = t ∧ j < N t
          · exact absurd ⟨z2.1, by omega⟩ z1
          · rw [old b k b0 b1 k0 (by omega) z1, old b j b0 b1 (by omega) j1 z2]
            exact B3 b k j b0 b1 k0 kj j1
      · unfold so_B
        by_cases z : b = t ∧ k < N t
        · obtain ⟨s1, s2, s3⟩ := so_q_s n0 K k0 z.2
          rw [if_pos ⟨z.1, k0, z.2⟩, z.1, new k k0 z.2, F 4 _ (by decide) (by decide) (by decide) (by decide)]
          exact B4 t _ d ht.1 ht.2 s1 s2 d0 d1
        · have nb := (B1 b b0 b1).2.2
          rw [if_neg (fun w => z ⟨w.1, w.2.2⟩), old b k b0 b1 k0 (by omega) z, F 4 _ (by decide) (by decide) (by decide) (by decide)]
          exact B4 b k d b0 b1 k0 k1 d0 d1
    · rcases q2.2 with ⟨q, -⟩ | ⟨-, q⟩
      · exfalso; omega
      · exact Or.inr ⟨fun z => q z.2, ev, em⟩
