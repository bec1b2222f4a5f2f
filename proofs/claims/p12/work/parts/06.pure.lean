theorem ae_f_eq {α : Type} (n : Nat) (k : Nat → Option α) : ae_f n k = k n := by
  cases n <;> rfl
theorem ae_nth_eq {α : Type} (l : List α) : ∀ n, ae_nth l n = l[n]? := by
  induction l with
  | nil => intro n; simp [ae_nth]
  | cons a t ih =>
    intro n
    cases n with
    | zero => rfl
    | succ m =>
      have h : ae_nth (a :: t) (m + 1) = ae_nth t m := rfl
      rw [h, ih m]; simp
theorem ae_set_eq {α : Type} (v : α) (l : List α) : ∀ n, ae_set l v n = l.set n v := by
  induction l with
  | nil => intro n; simp [ae_set]
  | cons a t ih =>
    intro n
    cases n with
    | zero => rfl
    | succ m =>
      have h : ae_set (a :: t) v (m + 1) = a :: ae_set t v m := rfl
      rw [h, ih m]; simp
theorem ae_lk_mem {α : Type} {i : Nat} {v : α} : ∀ {l : List (Nat × α)}, ae_lk l i = some v → (i, v) ∈ l := by
  intro l
  induction l with
  | nil => intro h; exact absurd h (by simp [ae_lk])
  | cons q t ih =>
    intro h
    have h1 : ae_lk (q :: t) i = cond (Nat.beq q.1 i) (some q.2) (ae_lk t i) := rfl
    rw [h1] at h
    cases hq : Nat.beq q.1 i with
    | true =>
      rw [hq] at h
      have e1 := Nat.eq_of_beq_eq_true hq
      have e2 : q.2 = v := by simpa using h
      have : q = (i, v) := by rw [← e1, ← e2]
      rw [this]; exact List.mem_cons_self
    | false =>
      rw [hq] at h
      exact List.mem_cons_of_mem _ (ih h)
theorem ae_tg_s (n : Nat) (a b : ae_T n) (k : Nat) : ae_tg (n + 1) ((a, b) : ae_T n × ae_T n) k = cond (Nat.ble (2 ^ n) (k % 2 ^ (n + 1))) (ae_tg n b k) (ae_tg n a k) := rfl
theorem ae_ts_t {n : Nat} {a b : ae_T n} {k : Nat} {c : ae_C} (h : Nat.ble (2 ^ n) (k % 2 ^ (n + 1)) = true) : ae_ts (n + 1) ((a, b) : ae_T n × ae_T n) k c = ((a, ae_ts n b k c) : ae_T n × ae_T n) := by
  show cond (Nat.ble (2 ^ n) (k % 2 ^ (n + 1))) ((a, ae_ts n b k c) : ae_T n × ae_T n) (ae_ts n a k c, b) = _
  rw [h]; rfl
theorem ae_ts_f {n : Nat} {a b : ae_T n} {k : Nat} {c : ae_C} (h : Nat.ble (2 ^ n) (k % 2 ^ (n + 1)) = false) : ae_ts (n + 1) ((a, b) : ae_T n × ae_T n) k c = ((ae_ts n a k c, b) : ae_T n × ae_T n) := by
  show cond (Nat.ble (2 ^ n) (k % 2 ^ (n + 1))) ((a, ae_ts n b k c) : ae_T n × ae_T n) (ae_ts n a k c, b) = _
  rw [h]; rfl
theorem ae_pw {n k : Nat} : 2 ^ n ≤ k % 2 ^ (n + 1) ↔ k / 2 ^ n % 2 = 1 := by
  have h1 : k % 2 ^ (n + 1) / 2 ^ n = k / 2 ^ n % 2 := by
    rw [Nat.pow_succ, Nat.mod_mul_right_div_self]
  have h0 : 0 < 2 ^ n := Nat.two_pow_pos n
  have h2 : k % 2 ^ (n + 1) < 2 ^ n * 2 := by rw [← Nat.pow_succ]; exact Nat.mod_lt _ (Nat.two_pow_pos _)
  rw [← h1]
  constructor
  · intro h
    have : k % 2 ^ (n + 1) / 2 ^ n < 2 := (Nat.div_lt_iff_lt_mul h0).mpr (by omega)
    have : 1 ≤ k % 2 ^ (n + 1) / 2 ^ n := (Nat.le_div_iff_mul_le h0).mpr (by omega)
    omega
  · intro h
    have := (Nat.le_div_iff_mul_le h0).mp (Nat.le_of_eq h.symm)
    omega
theorem ae_tg_ts (c : ae_C) : ∀ (n : Nat) (t : ae_T n) (k j : Nat), ae_tg n (ae_ts n t k c) j = if j % 2 ^ n = k % 2 ^ n then some c else ae_tg n t j := by
  intro n
  induction n with
  | zero => intro t k j; simp [Nat.mod_one]; rfl
  | succ n ih =>
    intro t k j
    have split : ∀ x : Nat, x % 2 ^ (n + 1) = 2 ^ n * (x / 2 ^ n % 2) + x % 2 ^ n := fun x => by
      rw [Nat.pow_succ, Nat.mod_mul]; omega
    have h0 : 0 < 2 ^ n := Nat.two_pow_pos n
    have ml : ∀ x : Nat, x % 2 ^ n < 2 ^ n := fun x => Nat.mod_lt _ h0
    have hbt : ∀ x : Nat, Nat.ble (2 ^ n) (x % 2 ^ (n + 1)) = false → x / 2 ^ n % 2 = 0 := fun x hx => by
      have : ¬ 2 ^ n ≤ x % 2 ^ (n + 1) := fun h => by rw [Nat.ble_eq_true_of_le h] at hx; cases hx
      rw [ae_pw] at this; omega
    have hbf : ∀ x : Nat, Nat.ble (2 ^ n) (x % 2 ^ (n + 1)) = true → x / 2 ^ n % 2 = 1 := fun x hx => ae_pw.mp (Nat.le_of_ble_eq_true hx)
    obtain ⟨a, b⟩ : ae_T n × ae_T n := t
    cases hk : Nat.ble (2 ^ n) (k % 2 ^ (n + 1)) with
    | true =>
      rw [show ae_ts (n + 1) (a, b) k c = _ from ae_ts_t hk, ae_tg_s, ae_tg_s]
      cases hj : Nat.ble (2 ^ n) (j % 2 ^ (n + 1)) with
      | true =>
        simp only [cond_true]
        rw [ih, split k, split j, hbf k hk, hbf j hj]
        have : (2 ^ n * 1 + j % 2 ^ n = 2 ^ n * 1 + k % 2 ^ n) ↔ (j % 2 ^ n = k % 2 ^ n) := by omega
        simp only [this]
      | false =>
        simp only [cond_false]
        have := ml j
        have := ml k
        rw [split k, split j, hbf k hk, hbt j hj, if_neg (by omega)]
    | false =>
      rw [show ae_ts (n + 1) (a, b) k c = _ from ae_ts_f hk, ae_tg_s, ae_tg_s]
      cases hj : Nat.ble (2 ^ n) (j % 2 ^ (n + 1)) with
      | true =>
        simp only [cond_true]
        have := ml j
        have := ml k
        rw [split k, split j, hbt k hk, hbf j hj, if_neg (by omega)]
      | false =>
        simp only [cond_false]
        rw [ih, split k, split j, hbt k hk, hbt j hj]
        have : (2 ^ n * 0 + j % 2 ^ n = 2 ^ n * 0 + k % 2 ^ n) ↔ (j % 2 ^ n = k % 2 ^ n) := by omega
        simp only [this]
theorem ae_hg_lt {h : ae_H} {k : Nat} {c : ae_C} (e : ae_hg h k = some c) : k < 256 := by
  unfold ae_hg at e
  cases hb : Nat.ble 256 k with
  | true => rw [hb] at e; cases e
  | false =>
    rcases Nat.lt_or_ge k 256 with q | q
    · exact q
    · rw [Nat.ble_eq_true_of_le q] at hb; cases hb
theorem ae_hg_in {h : ae_H} {k : Nat} (hk : k < 256) : ae_hg h k = ae_tg 8 h.2 k := by
  unfold ae_hg
  have : Nat.ble 256 k = false := by
    cases hb : Nat.ble 256 k with
    | true => exact absurd (Nat.le_of_ble_eq_true hb) (by omega)
    | false => rfl
  rw [this]; rfl
theorem ae_hg_hs {h : ae_H} {k j : Nat} {c : ae_C} (hk : k < 256) (hj : j < 256) : ae_hg (ae_hs h k c) j = if j = k then some c else ae_hg h j := by
  rw [ae_hg_in hj, ae_hg_in hj]
  show ae_tg 8 (ae_ts 8 h.2 k c) j = _
  rw [ae_tg_ts, Nat.mod_eq_of_lt (show j < 2 ^ 8 from hj), Nat.mod_eq_of_lt (show k < 2 ^ 8 from hk)]
theorem ae_hg_hp {h : ae_H} {j : Nat} {c : ae_C} (hk : h.1 < 256) (hj : j < 256) : ae_hg (ae_hp h c) j = if j = h.1 then some c else ae_hg h j := by
  rw [ae_hg_in hj, ae_hg_in hj]
  show ae_tg 8 (ae_ts 8 h.2 h.1 c) j = _
  rw [ae_tg_ts, Nat.mod_eq_of_lt (show j < 2 ^ 8 from hj), Nat.mod_eq_of_lt (show h.1 < 2 ^ 8 from hk)]
theorem ae_rd_lt (w A i : Nat) : ae_rd w A i < 2 ^ w := Nat.mod_lt _ (Nat.two_pow_pos w)
theorem ae_rd0 (w i : Nat) : ae_rd w 0 i = 0 := by
  show (0 >>> (w * i)) % 2 ^ w = 0
  simp
theorem ae_rd_wr {w A i j v : Nat} (hv : v < 2 ^ w) : ae_rd w (ae_wr w A i v) j = if j = i then v else ae_rd w A j := by
  have hlo : A % 2 ^ (w * i) < 2 ^ (w * i) := Nat.mod_lt _ (Nat.two_pow_pos _)
  have e1 : v <<< (w * i) + A % 2 ^ (w * i) = v <<< (w * i) ||| A % 2 ^ (w * i) := Nat.shiftLeft_add_eq_or_of_lt hlo v
  have h2 : v <<< (w * i) + A % 2 ^ (w * i) < 2 ^ (w * (i + 1)) := by
    have e : w * (i + 1) = w + w * i := by rw [Nat.mul_succ]; omega
    rw [Nat.shiftLeft_eq, e, Nat.pow_add]
    calc v * 2 ^ (w * i) + A % 2 ^ (w * i) < v * 2 ^ (w * i) + 2 ^ (w * i) := by omega
      _ = (v + 1) * 2 ^ (w * i) := by rw [Nat.succ_mul]
      _ ≤ 2 ^ w * 2 ^ (w * i) := Nat.mul_le_mul_right _ hv
  have e2 : ae_wr w A i v = (A >>> (w * (i + 1))) <<< (w * (i + 1)) ||| (v <<< (w * i) ||| A % 2 ^ (w * i)) := by
    show (A >>> (w * (i + 1))) <<< (w * (i + 1)) + (v <<< (w * i) + A % 2 ^ (w * i)) = _
    rw [Nat.shiftLeft_add_eq_or_of_lt h2, e1]
  rw [e2]
  show (_ >>> (w * j)) % 2 ^ w = _
  apply Nat.eq_of_testBit_eq
  intro b
  by_cases hb : b < w
  · by_cases hji : j = i
    · subst hji
      have e : w * (j + 1) = w * j + w := by rw [Nat.mul_succ]
      simp only [Nat.testBit_mod_two_pow, hb, decide_true, Bool.true_and, Nat.testBit_shiftRight, Nat.testBit_or, Nat.testBit_shiftLeft, if_true, e]
      have a1 : ¬ (w * j + w ≤ w * j + b) := by omega
      have a2 : ¬ (w * j + b < w * j) := by omega
      simp [a1, a2]
    · rw [if_neg hji]
      show _ = ((A >>> (w * j)) % 2 ^ w).testBit b
      have e : w * (i + 1) = w * i + w := by rw [Nat.mul_succ]
      simp only [Nat.testBit_mod_two_pow, hb, decide_true, Bool.true_and, Nat.testBit_shiftRight, Nat.testBit_or, Nat.testBit_shiftLeft, e]
      rcases Nat.lt_or_ge j i with q | q
      · have q1 : w * j + w ≤ w * i := by rw [← Nat.mul_succ]; exact Nat.mul_le_mul_left w q
        have a1 : ¬ (w * i + w ≤ w * j + b) := by omega
        have a2 : ¬ (w * i ≤ w * j + b) := by omega
        have a3 : w * j + b < w * i := by omega
        simp [a1, a2, a3]
      · have q0 : i + 1 ≤ j := by omega
        have q1 : w * i + w ≤ w * j := by rw [← Nat.mul_succ]; exact Nat.mul_le_mul_left w q0
        have a1 : w * i + w ≤ w * j + b := by omega
        have a3 : ¬ (w * j + b < w * i) := by omega
        have hvb : v.testBit (w * j + b - w * i) = false := Nat.testBit_lt_two_pow (Nat.lt_of_lt_of_le hv (Nat.pow_le_pow_right (by omega) (by omega)))
        have a4 : w * i + w + (w * j + b - (w * i + w)) = w * j + b := by omega
        simp [a1, a3, hvb, a4]
  · have h3 : ∀ x : Nat, (x % 2 ^ w).testBit b = false := fun x => by simp [Nat.testBit_mod_two_pow, hb]
    rw [h3]
    split
    · exact (Nat.testBit_lt_two_pow (Nat.lt_of_lt_of_le hv (Nat.pow_le_pow_right (by omega) (by omega)))).symm
    · exact (h3 _).symm
