/-! BOUNDS of symbols in a tree, what follows from bounds and known forms -/
def sv_B : Nat → Type
  | 0 => Int × Int
  | n + 1 => sv_B n × sv_B n
noncomputable def sv_bg : (n : Nat) → sv_B n → Nat → Int × Int := fun n => Nat.rec (motive := fun n => sv_B n → Nat → Int × Int) (fun t _ => t) (fun n ih t k => cond (Nat.ble (Nat.pow 2 n) (Nat.mod k (Nat.pow 2 (Nat.succ n)))) (ih t.2 k) (ih t.1 k)) n
noncomputable def sv_bs : (n : Nat) → sv_B n → Nat → Int × Int → sv_B n := fun n => Nat.rec (motive := fun n => sv_B n → Nat → Int × Int → sv_B n) (fun _ _ c => c) (fun n ih t k c => cond (Nat.ble (Nat.pow 2 n) (Nat.mod k (Nat.pow 2 (Nat.succ n)))) (t.1, ih t.2 k c) (ih t.1 k c, t.2)) n
def sv_b0 : (n : Nat) → sv_B n
  | 0 => (-9223372036854775808, 9223372036854775807)
  | n + 1 => (sv_b0 n, sv_b0 n)
theorem sv_bg_s (n : Nat) (a b : sv_B n) (k : Nat) : sv_bg (n + 1) ((a, b) : sv_B n × sv_B n) k = cond (Nat.ble (2 ^ n) (k % 2 ^ (n + 1))) (sv_bg n b k) (sv_bg n a k) := rfl
theorem sv_bs_t {n : Nat} {a b : sv_B n} {k : Nat} {c : (Int × Int)} (h : Nat.ble (2 ^ n) (k % 2 ^ (n + 1)) = true) : sv_bs (n + 1) ((a, b) : sv_B n × sv_B n) k c = ((a, sv_bs n b k c) : sv_B n × sv_B n) := by
  show cond (Nat.ble (2 ^ n) (k % 2 ^ (n + 1))) ((a, sv_bs n b k c) : sv_B n × sv_B n) (sv_bs n a k c, b) = _
  rw [h]; rfl
theorem sv_bs_f {n : Nat} {a b : sv_B n} {k : Nat} {c : (Int × Int)} (h : Nat.ble (2 ^ n) (k % 2 ^ (n + 1)) = false) : sv_bs (n + 1) ((a, b) : sv_B n × sv_B n) k c = ((sv_bs n a k c, b) : sv_B n × sv_B n) := by
  show cond (Nat.ble (2 ^ n) (k % 2 ^ (n + 1))) ((a, sv_bs n b k c) : sv_B n × sv_B n) (sv_bs n a k c, b) = _
  rw [h]; rfl
theorem sv_bg_ts (c : (Int × Int)) : ∀ (n : Nat) (t : sv_B n) (k j : Nat), sv_bg n (sv_bs n t k c) j = if j % 2 ^ n = k % 2 ^ n then c else sv_bg n t j := by
  intro n
  induction n with
  | zero => intro t k j; simp [Nat.mod_one]; rfl
  | succ n ih =>
    intro t k j
    have split : ∀ x : Nat, x % 2 ^ (n + 1) = 2 ^ n * (x / 2 ^ n % 2) + x % 2 ^ n := fun x => by
      rw [Nat.pow_succ, Nat.mod_mul]; omega
    have h0 : 0 < 2 ^ n := Nat.two_pow_pos n
    have ml : ∀ x : Nat, x % 2 ^ n < 2 ^ n := fun x => Nat.mod_lt _ h0
    have hbt : ∀ x : Nat, Nat.ble (2 ^ n) (x % 2 ^ (n + 1)) = false → x / 2 ^ n % 2 = 0 := fun x hx => by
      have : ¬ 2 ^ n ≤ x % 2 ^ (n + 1) := fun h => by rw [Nat.ble_eq_true_of_le h] at hx; cases hx
      rw [ae_pw] at this; omega
    have hbf : ∀ x : Nat, Nat.ble (2 ^ n) (x % 2 ^ (n + 1)) = true → x / 2 ^ n % 2 = 1 := fun x hx => ae_pw.mp (Nat.le_of_ble_eq_true hx)
    obtain ⟨a, b⟩ : sv_B n × sv_B n := t
    cases hk : Nat.ble (2 ^ n) (k % 2 ^ (n + 1)) with
    | true =>
      rw [show sv_bs (n + 1) (a, b) k c = _ from sv_bs_t hk, sv_bg_s, sv_bg_s]
      cases hj : Nat.ble (2 ^ n) (j % 2 ^ (n + 1)) with
      | true =>
        simp only [cond_true]
        rw [ih, split k, split j, hbf k hk, hbf j hj]
        have : (2 ^ n * 1 + j % 2 ^ n = 2 ^ n * 1 + k % 2 ^ n) ↔ (j % 2 ^ n = k % 2 ^ n) := by omega
        simp only [this]
      | false =>
        simp only [cond_false]
        have := ml j
        have := ml k
        rw [split k, split j, hbf k hk, hbt j hj, if_neg (by omega)]
    | false =>
      rw [show sv_bs (n + 1) (a, b) k c = _ from sv_bs_f hk, sv_bg_s, sv_bg_s]
      cases hj : Nat.ble (2 ^ n) (j % 2 ^ (n + 1)) with
      | true =>
        simp only [cond_true]
        have := ml j
        have := ml k
        rw [split k, split j, hbt k hk, hbf j hj, if_neg (by omega)]
      | false =>
        simp only [cond_false]
        rw [ih, split k, split j, hbt k hk, hbt j hj]
        have : (2 ^ n * 0 + j % 2 ^ n = 2 ^ n * 0 + k % 2 ^ n) ↔ (j % 2 ^ n = k % 2 ^ n) := by omega
        simp only [this]
/-- the bounds hold -/
def sv_bk (ρ : Nat → Int) (t : sv_B 9) : Prop := (∀ s, ρ s = ρ (s % 512)) ∧ ∀ s, (sv_bg 9 t s).1 ≤ ρ s ∧ ρ s ≤ (sv_bg 9 t s).2
noncomputable def sv_lbl (t : sv_B 9) (l : List (Nat × Int)) : Int → (Int → Bool) → Bool := List.rec (motive := fun _ => Int → (Int → Bool) → Bool) (fun a k => k a) (fun q _ ih a k => sv_fi (a + q.2 * cond (sv_nn q.2) (sv_bg 9 t q.1).1 (sv_bg 9 t q.1).2) fun z => ih z k) l
noncomputable def sv_ubl (t : sv_B 9) (l : List (Nat × Int)) : Int → (Int → Bool) → Bool := List.rec (motive := fun _ => Int → (Int → Bool) → Bool) (fun a k => k a) (fun q _ ih a k => sv_fi (a + q.2 * cond (sv_nn q.2) (sv_bg 9 t q.1).2 (sv_bg 9 t q.1).1) fun z => ih z k) l
theorem sv_lo1 {ρ : Nat → Int} {t : sv_B 9} (h : sv_bk ρ t) (q : Nat × Int) : q.2 * cond (sv_nn q.2) (sv_bg 9 t q.1).1 (sv_bg 9 t q.1).2 ≤ q.2 * ρ q.1 := by
  obtain ⟨h1, h2⟩ := h.2 q.1
  cases hn : sv_nn q.2 with
  | true => rw [cond_true]; exact Int.mul_le_mul_of_nonneg_left h1 (sv_nn_iff.mp hn)
  | false =>
    rw [cond_false]
    have : q.2 < 0 := by
      by_cases z : 0 ≤ q.2
      · rw [sv_nn_iff.mpr z] at hn; cases hn
      · omega
    exact Int.mul_le_mul_of_nonpos_left (by omega) h2
theorem sv_hi1 {ρ : Nat → Int} {t : sv_B 9} (h : sv_bk ρ t) (q : Nat × Int) : q.2 * ρ q.1 ≤ q.2 * cond (sv_nn q.2) (sv_bg 9 t q.1).2 (sv_bg 9 t q.1).1 := by
  obtain ⟨h1, h2⟩ := h.2 q.1
  cases hn : sv_nn q.2 with
  | true => rw [cond_true]; exact Int.mul_le_mul_of_nonneg_left h2 (sv_nn_iff.mp hn)
  | false =>
    rw [cond_false]
    have : q.2 < 0 := by
      by_cases z : 0 ≤ q.2
      · rw [sv_nn_iff.mpr z] at hn; cases hn
      · omega
    exact Int.mul_le_mul_of_nonpos_left (by omega) h1
theorem sv_lbl_ok (t : sv_B 9) : ∀ (l : List (Nat × Int)) (a : Int), ∃ m, (∀ ρ, sv_bk ρ t → m ≤ a + sv_sm ρ l) ∧ ∀ k, sv_lbl t l a k = k m
  | [], a => ⟨a, fun ρ _ => by show a ≤ a + 0; omega, fun k => rfl⟩
  | q :: l, a => by
    obtain ⟨m, h1, h2⟩ := sv_lbl_ok t l (a + q.2 * cond (sv_nn q.2) (sv_bg 9 t q.1).1 (sv_bg 9 t q.1).2)
    refine ⟨m, fun ρ hb => ?_, fun k => ?_⟩
    · have := h1 ρ hb
      have := sv_lo1 hb q
      show m ≤ a + (q.2 * ρ q.1 + sv_sm ρ l)
      omega
    · show sv_fi (a + q.2 * cond (sv_nn q.2) (sv_bg 9 t q.1).1 (sv_bg 9 t q.1).2) (fun z => sv_lbl t l z k) = _
      rw [sv_fi_eq, h2]
noncomputable def sv_mx (t : sv_B 9) (q : Nat × Int) : Int := q.2 * cond (sv_nn q.2) (sv_bg 9 t q.1).2 (sv_bg 9 t q.1).1
noncomputable def sv_ms (t : sv_B 9) : List (Nat × Int) → Int
  | [] => 0
  | q :: l => sv_mx t q + sv_ms t l
theorem sv_ubl_ok (t : sv_B 9) : ∀ (l : List (Nat × Int)) (a : Int), ∀ k, sv_ubl t l a k = k (a + sv_ms t l)
  | [], a, k => by show k a = k (a + 0); rw [Int.add_zero]
  | q :: l, a, k => by
    show sv_fi (a + sv_mx t q) (fun z => sv_ubl t l z k) = _
    rw [sv_fi_eq, sv_ubl_ok t l]
    show k (a + sv_mx t q + sv_ms t l) = k (a + (sv_mx t q + sv_ms t l))
    rw [Int.add_assoc]
theorem sv_ms_le {t : sv_B 9} {ρ : Nat → Int} (hb : sv_bk ρ t) : ∀ (l : List (Nat × Int)), sv_sm ρ l ≤ sv_ms t l
  | [] => Int.le_refl _
  | q :: l => by
    have h1 := sv_ms_le hb l
    have h2 : q.2 * ρ q.1 ≤ sv_mx t q := sv_hi1 hb q
    show q.2 * ρ q.1 + sv_sm ρ l ≤ sv_mx t q + sv_ms t l
    omega
theorem sv_ms_mem {t : sv_B 9} {ρ : Nat → Int} (hb : sv_bk ρ t) : ∀ {l : List (Nat × Int)} {q : Nat × Int}, q ∈ l → sv_sm ρ l ≤ sv_ms t l - sv_mx t q + q.2 * ρ q.1
  | p :: l, q, hq => by
    show p.2 * ρ p.1 + sv_sm ρ l ≤ sv_mx t p + sv_ms t l - sv_mx t q + q.2 * ρ q.1
    rcases List.mem_cons.mp hq with h | h
    · subst h
      have := sv_ms_le hb l
      omega
    · have h1 := sv_ms_mem hb h
      have h2 : p.2 * ρ p.1 ≤ sv_mx t p := sv_hi1 hb p
      omega
/-- the known forms: all are at least zero -/
def sv_ck (ρ : Nat → Int) (cs : List sv_L) : Prop := ∀ c ∈ cs, 0 ≤ sv_ev ρ c
/-- g = (|k| g - |m| c) / |k| + ..: one symbol of a known form goes -/
noncomputable def sv_try (P : sv_L → Bool) (g c : sv_L) (l : List (Nat × Int)) : Bool := List.rec (motive := fun _ => Bool) false (fun q _ ih => or (match ae_lk g.2 q.1 with
  | some m => cond (and (cond (sv_nn m) (sv_nn q.2) (not (sv_nn q.2))) (not (sv_iz q.2))) (sv_ma (Int.ofNat q.2.natAbs) g (0, []) fun a => sv_ma (-(Int.ofNat m.natAbs)) c a fun r => and (Nat.ble r.2.length (Nat.succ g.2.length)) (P r)) false
  | none => false) ih) l
noncomputable def sv_any (P : sv_L → Bool) (g : sv_L) (cs : List sv_L) : Bool := List.rec (motive := fun _ => Bool) false (fun c _ ih => or (sv_try P g c c.2) ih) cs
/-- is g at least zero, by the bounds and up to d known forms -/
noncomputable def sv_pr (t : sv_B 9) (cs : List sv_L) : Nat → sv_L → Bool := fun d => Nat.rec (motive := fun _ => sv_L → Bool) (fun g => sv_lbl t g.2 g.1 sv_nn) (fun _ ih g => or (sv_lbl t g.2 g.1 sv_nn) (sv_any ih g cs)) d
theorem sv_try_ok {P : sv_L → Bool} {ρ : Nat → Int} {g c : sv_L} (hP : ∀ r, P r = true → 0 ≤ sv_ev ρ r) (hc : 0 ≤ sv_ev ρ c) : ∀ (l : List (Nat × Int)), sv_try P g c l = true → 0 ≤ sv_ev ρ g
  | [], h => by cases h
  | q :: l, h => by
    have h : or (match ae_lk g.2 q.1 with
      | some m => cond (and (cond (sv_nn m) (sv_nn q.2) (not (sv_nn q.2))) (not (sv_iz q.2))) (sv_ma (Int.ofNat q.2.natAbs) g (0, []) fun a => sv_ma (-(Int.ofNat m.natAbs)) c a fun r => and (Nat.ble r.2.length (Nat.succ g.2.length)) (P r)) false
      | none => false) (sv_try P g c l) = true := h
    rw [Bool.or_eq_true] at h
    rcases h with h | h
    · split at h
      · next m hm =>
        cases hcd : and (cond (sv_nn m) (sv_nn q.2) (not (sv_nn q.2))) (not (sv_iz q.2)) with
        | false => rw [hcd, cond_false] at h; cases h
        | true =>
          rw [hcd, cond_true] at h
          rw [Bool.and_eq_true] at hcd
          obtain ⟨a, a1, -, a3⟩ := sv_ma_ok (Int.ofNat q.2.natAbs) g (0, [])
          obtain ⟨r, r1, -, r3⟩ := sv_ma_ok (-(Int.ofNat m.natAbs)) c a
          rw [a3, r3, Bool.and_eq_true] at h
          have hr := hP r h.2
          rw [r1, a1] at hr
          have e0 : sv_ev ρ ((0, []) : sv_L) = 0 := rfl
          rw [e0] at hr
          have hq : q.2 ≠ 0 := fun z => by
            have := sv_iz_iff.mpr z
            rw [this] at hcd; exact absurd hcd.2 (by decide)
          have hqp : 0 < Int.ofNat q.2.natAbs := by
            have : 0 < q.2.natAbs := Int.natAbs_pos.mpr hq
            exact Int.ofNat_lt.mpr this
          have hm0 : 0 ≤ Int.ofNat m.natAbs := Int.natCast_nonneg _
          have h5 : 0 ≤ Int.ofNat m.natAbs * sv_ev ρ c := Int.mul_nonneg hm0 hc
          have h6 : 0 ≤ Int.ofNat q.2.natAbs * sv_ev ρ g := by
            rw [Int.neg_mul] at hr; omega
          by_cases z : 0 ≤ sv_ev ρ g
          · exact z
          · have := Int.mul_neg_of_pos_of_neg hqp (by omega : sv_ev ρ g < 0)
            omega
      · cases h
    · exact sv_try_ok hP hc l h
theorem sv_any_ok {P : sv_L → Bool} {ρ : Nat → Int} {g : sv_L} (hP : ∀ r, P r = true → 0 ≤ sv_ev ρ r) : ∀ (cs : List sv_L), sv_ck ρ cs → sv_any P g cs = true → 0 ≤ sv_ev ρ g
  | [], _, h => by cases h
  | c :: cs, hc, h => by
    have h : or (sv_try P g c c.2) (sv_any P g cs) = true := h
    rw [Bool.or_eq_true] at h
    rcases h with h | h
    · exact sv_try_ok hP (hc c (List.mem_cons_self ..)) c.2 h
    · exact sv_any_ok hP cs (fun x hx => hc x (List.mem_cons_of_mem _ hx)) h
theorem sv_lb_nn {t : sv_B 9} {ρ : Nat → Int} (hb : sv_bk ρ t) {g : sv_L} (h : sv_lbl t g.2 g.1 sv_nn = true) : 0 ≤ sv_ev ρ g := by
  obtain ⟨m, m1, m2⟩ := sv_lbl_ok t g.2 g.1
  rw [m2] at h
  have := sv_nn_iff.mp h
  have := m1 ρ hb
  unfold sv_ev; omega
theorem sv_pr_ok {t : sv_B 9} {cs : List sv_L} {ρ : Nat → Int} (hb : sv_bk ρ t) (hc : sv_ck ρ cs) : ∀ (d : Nat) {g : sv_L}, sv_pr t cs d g = true → 0 ≤ sv_ev ρ g := by
  intro d
  induction d with
  | zero => intro g h; exact sv_lb_nn hb h
  | succ d ih =>
    intro g h
    have h : or (sv_lbl t g.2 g.1 sv_nn) (sv_any (sv_pr t cs d) g cs) = true := h
    rw [Bool.or_eq_true] at h
    rcases h with h | h
    · exact sv_lb_nn hb h
    · exact sv_any_ok (fun r hr => ih hr) cs hc h
