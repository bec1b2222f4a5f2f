/-! bits of a long: counted by halves in the class, one by one in the reference -/
theorem pb_and (x y : Nat) : x &&& y = 256 * ((x / 256) &&& (y / 256)) + ((x % 256) &&& (y % 256)) := by
  have a : (x &&& y) / 256 = x / 256 &&& y / 256 := Nat.and_div_two_pow (n := 8)
  have b : (x &&& y) % 256 = (x % 256) &&& (y % 256) := Nat.and_mod_two_pow (n := 8)
  rw [← a, ← b]
  exact (Nat.div_add_mod _ 256).symm
/-- byte for byte -/
def pb_m (f : Nat → Nat) : Nat → Nat → Nat
  | 0, _ => 0
  | k + 1, x => 256 * pb_m f k (x / 256) + f (x % 256)
def pb_k (c : Nat) : Nat → Nat
  | 0 => 0
  | k + 1 => 256 * pb_k c k + c
def pb_b : Nat → Nat → Prop
  | 0, x => x = 0
  | k + 1, x => pb_b k (x / 256)
def pb_g : Nat → Nat → Prop
  | 0, x => x = 0
  | k + 1, x => x % 16 ≤ 4 ∧ x / 16 % 16 ≤ 4 ∧ pb_g k (x / 256)
theorem pb_b_8 {x : Nat} (h : x < 18446744073709551616) : pb_b 8 x := by
  show x / 256 / 256 / 256 / 256 / 256 / 256 / 256 / 256 = 0
  omega
theorem pb_m_b {f : Nat → Nat} (hf : ∀ b, b < 256 → f b < 256) : ∀ k x, pb_b k (pb_m f k x)
  | 0, _ => rfl
  | k + 1, x => by
    show pb_b k ((256 * pb_m f k (x / 256) + f (x % 256)) / 256)
    have := hf (x % 256) (by omega)
    rw [show (256 * pb_m f k (x / 256) + f (x % 256)) / 256 = pb_m f k (x / 256) by omega]
    exact pb_m_b hf k _
theorem pb_m_g {f : Nat → Nat} (hf : ∀ b, b < 256 → f b < 256 ∧ f b % 16 ≤ 4 ∧ f b / 16 % 16 ≤ 4) : ∀ k x, pb_g k (pb_m f k x)
  | 0, _ => rfl
  | k + 1, x => by
    have h := hf (x % 256) (by omega)
    show (256 * pb_m f k (x / 256) + f (x % 256)) % 16 ≤ 4 ∧ (256 * pb_m f k (x / 256) + f (x % 256)) / 16 % 16 ≤ 4 ∧ pb_g k ((256 * pb_m f k (x / 256) + f (x % 256)) / 256)
    rw [show (256 * pb_m f k (x / 256) + f (x % 256)) / 256 = pb_m f k (x / 256) by omega]
    exact ⟨by omega, by omega, pb_m_g hf k _⟩
theorem pb_m_m {f g : Nat → Nat} (hg : ∀ b, b < 256 → g b < 256) : ∀ k x, pb_m f k (pb_m g k x) = pb_m (fun b => f (g b)) k x
  | 0, _ => rfl
  | k + 1, x => by
    have h := hg (x % 256) (by omega)
    show 256 * pb_m f k ((256 * pb_m g k (x / 256) + g (x % 256)) / 256) + f ((256 * pb_m g k (x / 256) + g (x % 256)) % 256) = 256 * pb_m (fun b => f (g b)) k (x / 256) + f (g (x % 256))
    rw [show (256 * pb_m g k (x / 256) + g (x % 256)) / 256 = pb_m g k (x / 256) by omega, show (256 * pb_m g k (x / 256) + g (x % 256)) % 256 = g (x % 256) by omega, pb_m_m hg k]
def pb_f1 (b : Nat) : Nat := b - (b / 2 &&& 85)
def pb_f2 (b : Nat) : Nat := (b &&& 51) + (b / 4 &&& 51)
def pb_f3 (b : Nat) : Nat := (b + b / 16) % 16
theorem pb_d1 : ∀ y : Nat, y < 512 → (y / 2 % 256 &&& 85) = (y % 256 / 2 &&& 85) ∧ (y % 256 / 2 &&& 85) ≤ y % 256 := by decide +kernel
theorem pb_d2 : ∀ y : Nat, y < 1024 → (y / 4 % 256 &&& 51) = (y % 256 / 4 &&& 51) := by decide +kernel
theorem pb_1 : ∀ k x, pb_b k x → (x / 2 &&& pb_k 85 k) ≤ x ∧ x - (x / 2 &&& pb_k 85 k) = pb_m pb_f1 k x
  | 0, x, h => by
    have e : x = 0 := h
    rw [e]
    exact ⟨by decide, by decide⟩
  | k + 1, x, h => by
    obtain ⟨i1, i2⟩ := pb_1 k (x / 256) h
    have q := pb_d1 (x % 512) (by omega)
    rw [show x % 512 / 2 % 256 = x / 2 % 256 by omega, show x % 512 % 256 = x % 256 by omega] at q
    show (x / 2 &&& (256 * pb_k 85 k + 85)) ≤ x ∧ x - (x / 2 &&& (256 * pb_k 85 k + 85)) = 256 * pb_m pb_f1 k (x / 256) + (x % 256 - (x % 256 / 2 &&& 85))
    rw [pb_and (x / 2), show (256 * pb_k 85 k + 85) / 256 = pb_k 85 k by omega, show (256 * pb_k 85 k + 85) % 256 = 85 by omega, show x / 2 / 256 = x / 256 / 2 by omega, q.1, ← i2]
    have q2 := q.2
    clear q i2
    generalize (x / 256 / 2 &&& pb_k 85 k) = P at *
    generalize (x % 256 / 2 &&& 85) = Q at *
    omega
theorem pb_2 : ∀ k x, pb_b k x → (x &&& pb_k 51 k) + (x / 4 &&& pb_k 51 k) = pb_m pb_f2 k x
  | 0, x, h => by
    have e : x = 0 := h
    rw [e]
    decide
  | k + 1, x, h => by
    have i2 := pb_2 k (x / 256) h
    have q := pb_d2 (x % 1024) (by omega)
    rw [show x % 1024 / 4 % 256 = x / 4 % 256 by omega, show x % 1024 % 256 = x % 256 by omega] at q
    show (x &&& (256 * pb_k 51 k + 51)) + (x / 4 &&& (256 * pb_k 51 k + 51)) = 256 * pb_m pb_f2 k (x / 256) + ((x % 256 &&& 51) + (x % 256 / 4 &&& 51))
    rw [pb_and x, pb_and (x / 4), show (256 * pb_k 51 k + 51) / 256 = pb_k 51 k by omega, show (256 * pb_k 51 k + 51) % 256 = 51 by omega, show x / 4 / 256 = x / 256 / 4 by omega, q, ← i2]
    generalize (x / 256 &&& pb_k 51 k) = P
    generalize (x / 256 / 4 &&& pb_k 51 k) = Q
    generalize (x % 256 &&& 51) = R
    generalize (x % 256 / 4 &&& 51) = T
    omega
theorem pb_g_lo : ∀ k x, pb_g k x → x % 16 ≤ 4
  | 0, x, h => by
    have e : x = 0 := h
    omega
  | k + 1, x, h => h.1
theorem pb_3n (r c a b : Nat) (hc : c ≤ 4) (ha : a ≤ 4) (hb : b ≤ 4) : ((256 * (16 * r + c) + (16 * a + b)) + (256 * (16 * r + c) + (16 * a + b)) / 16) / 256 = (256 * (16 * r + c) + (16 * a + b)) / 256 + (256 * (16 * r + c) + (16 * a + b)) / 256 / 16 ∧ ((256 * (16 * r + c) + (16 * a + b)) + (256 * (16 * r + c) + (16 * a + b)) / 16) % 256 % 16 = ((256 * (16 * r + c) + (16 * a + b)) % 256 + (256 * (16 * r + c) + (16 * a + b)) % 256 / 16) % 16 := by
  rw [show (256 * (16 * r + c) + (16 * a + b)) / 16 = 16 * (16 * r + c) + a by omega, show (256 * (16 * r + c) + (16 * a + b)) / 256 = 16 * r + c by omega, show (256 * (16 * r + c) + (16 * a + b)) % 256 = 16 * a + b by omega, show (16 * r + c) / 16 = r by omega, show (16 * a + b) / 16 = a by omega, show 256 * (16 * r + c) + (16 * a + b) + (16 * (16 * r + c) + a) = 256 * (16 * r + c + r) + (16 * c + 17 * a + b) by omega]
  exact ⟨by omega, by omega⟩
theorem pb_3a (x : Nat) (g1 : x % 16 ≤ 4) (g2 : x / 16 % 16 ≤ 4) (lo : x / 256 % 16 ≤ 4) : (x + x / 16) / 256 = x / 256 + x / 256 / 16 ∧ (x + x / 16) % 256 % 16 = (x % 256 + x % 256 / 16) % 16 := by
  have e : 256 * (16 * (x / 256 / 16) + x / 256 % 16) + (16 * (x / 16 % 16) + x % 16) = x := by omega
  have q := pb_3n (x / 256 / 16) (x / 256 % 16) (x / 16 % 16) (x % 16) lo g2 g1
  rw [e] at q
  exact q
theorem pb_3 : ∀ k x, pb_g k x → ((x + x / 16) &&& pb_k 15 k) = pb_m pb_f3 k x
  | 0, x, h => by
    have e : x = 0 := h
    rw [e]
    decide
  | k + 1, x, h => by
    obtain ⟨g1, g2, g3⟩ := h
    have lo := pb_g_lo k _ g3
    have i2 := pb_3 k (x / 256) g3
    show ((x + x / 16) &&& (256 * pb_k 15 k + 15)) = 256 * pb_m pb_f3 k (x / 256) + (x % 256 + x % 256 / 16) % 16
    have t : (((x + x / 16) % 256) &&& 15) = (x + x / 16) % 256 % 16 := Nat.and_two_pow_sub_one_eq_mod _ 4
    obtain ⟨u1, u2⟩ := pb_3a x g1 g2 lo
    rw [pb_and (x + x / 16), show (256 * pb_k 15 k + 15) / 256 = pb_k 15 k by omega, show (256 * pb_k 15 k + 15) % 256 = 15 by omega, t, u1, i2, u2]
/-- how many bits, in k bytes -/
def pb_s : Nat → Nat → Nat
  | 0, _ => 0
  | k + 1, x => pb_s k (x / 256) + pl_cn (x % 256)
theorem pb_d3 : ∀ b : Nat, b < 256 → pb_f1 b < 256 ∧ (pb_f2 (pb_f1 b) < 256 ∧ pb_f2 (pb_f1 b) % 16 ≤ 4 ∧ pb_f2 (pb_f1 b) / 16 % 16 ≤ 4) ∧ pb_f3 (pb_f2 (pb_f1 b)) = pl_cn b ∧ pl_cn b ≤ 8 := by decide +kernel
theorem pb_m_c {f g : Nat → Nat} (h : ∀ b, b < 256 → f b = g b) : ∀ k x, pb_m f k x = pb_m g k x
  | 0, _ => rfl
  | k + 1, x => by
    show 256 * pb_m f k (x / 256) + f (x % 256) = 256 * pb_m g k (x / 256) + g (x % 256)
    rw [pb_m_c h k, h _ (by omega)]
theorem pb_321 {x : Nat} (hx : x < 18446744073709551616) : ∃ a b : Nat, a = x - (x / 2 &&& 6148914691236517205) ∧ (x / 2 &&& 6148914691236517205) ≤ x ∧ b = (a &&& 3689348814741910323) + (a / 4 &&& 3689348814741910323) ∧ b < 18446744073709551616 ∧ ((b + b / 16) &&& 1085102592571150095) = pb_m pl_cn 8 x ∧ b + b / 16 < 18446744073709551616 := by
  obtain ⟨a1, a2⟩ := pb_1 8 x (pb_b_8 hx)
  rw [show pb_k 85 8 = 6148914691236517205 by decide] at a1 a2
  have b1 := pb_2 8 (pb_m pb_f1 8 x) (pb_m_b (fun b hb => (pb_d3 b hb).1) 8 x)
  rw [show pb_k 51 8 = 3689348814741910323 by decide, pb_m_m (fun b hb => (pb_d3 b hb).1)] at b1
  have c1 := pb_3 8 (pb_m (fun b => pb_f2 (pb_f1 b)) 8 x) (pb_m_g (fun b hb => (pb_d3 b hb).2.1) 8 x)
  rw [show pb_k 15 8 = 1085102592571150095 by decide, pb_m_m (fun b hb => (pb_d3 b hb).2.1.1), pb_m_c (g := pl_cn) (fun b hb => (pb_d3 b hb).2.2.1)] at c1
  have g := pb_m_g (fun b hb => (pb_d3 b hb).2.1) 8 x
  refine ⟨_, _, rfl, a1, rfl, ?_⟩
  rw [a2, b1]
  have bb : pb_b 8 (pb_m (fun b => pb_f2 (pb_f1 b)) 8 x) := pb_m_b (fun b hb => (pb_d3 b hb).2.1.1) 8 x
  clear a1 a2 b1
  generalize pb_m (fun b => pb_f2 (pb_f1 b)) 8 x = y at *
  obtain ⟨g0, g1, g2, g3, g4, g5, g6, g7, g8, g9, ga, gb, gc, gd, ge, gf, gz⟩ := g
  have gz : y / 256 / 256 / 256 / 256 / 256 / 256 / 256 / 256 = 0 := gz
  refine ⟨by clear c1 bb; omega, c1, ?_⟩
  clear c1 bb
  omega
