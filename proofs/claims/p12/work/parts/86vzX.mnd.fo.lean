/-! bits of a long: the folding, numbers -/
def pb_N (s0 s1 s2 s3 s4 s5 s6 s7 : Nat) : Nat := 256 * (256 * (256 * (256 * (256 * (256 * (256 * s7 + s6) + s5) + s4) + s3) + s2) + s1) + s0
theorem pb_st {a s B : Nat} (ha : a < B) (hs : s < 256) : 256 * a + s < 256 * B := by omega
theorem pb_N_lt {s0 s1 s2 s3 s4 s5 s6 s7 : Nat} (h0 : s0 < 256) (h1 : s1 < 256) (h2 : s2 < 256) (h3 : s3 < 256) (h4 : s4 < 256) (h5 : s5 < 256) (h6 : s6 < 256) (h7 : s7 < 256) : pb_N s0 s1 s2 s3 s4 s5 s6 s7 < 18446744073709551616 := pb_st (B := 72057594037927936) (pb_st (B := 281474976710656) (pb_st (B := 1099511627776) (pb_st (B := 4294967296) (pb_st (B := 16777216) (pb_st (B := 65536) (pb_st (B := 256) h7 h6) h5) h4) h3) h2) h1) h0
theorem pb_a1 (a b s t : Nat) : 256 * a + s + (256 * b + t) = 256 * (a + b) + (s + t) := by omega
theorem pb_N_1 (p0 p1 p2 p3 p4 p5 p6 p7 : Nat) : pb_N p0 p1 p2 p3 p4 p5 p6 p7 + pb_N p1 p2 p3 p4 p5 p6 p7 0 = pb_N (p0 + p1) (p1 + p2) (p2 + p3) (p3 + p4) (p4 + p5) (p5 + p6) (p6 + p7) p7 := by
  unfold pb_N
  rw [pb_a1, pb_a1, pb_a1, pb_a1, pb_a1, pb_a1, pb_a1, Nat.add_zero]
theorem pb_N_2 (p0 p1 p2 p3 p4 p5 p6 p7 : Nat) : pb_N p0 p1 p2 p3 p4 p5 p6 p7 + pb_N p2 p3 p4 p5 p6 p7 0 0 = pb_N (p0 + p2) (p1 + p3) (p2 + p4) (p3 + p5) (p4 + p6) (p5 + p7) p6 p7 := by
  unfold pb_N
  rw [pb_a1, pb_a1, pb_a1, pb_a1, pb_a1, pb_a1, pb_a1, Nat.add_zero, Nat.add_zero]
theorem pb_N_4 (p0 p1 p2 p3 p4 p5 p6 p7 : Nat) : pb_N p0 p1 p2 p3 p4 p5 p6 p7 + pb_N p4 p5 p6 p7 0 0 0 0 = pb_N (p0 + p4) (p1 + p5) (p2 + p6) (p3 + p7) p4 p5 p6 p7 := by
  unfold pb_N
  rw [pb_a1, pb_a1, pb_a1, pb_a1, pb_a1, pb_a1, pb_a1, Nat.add_zero, Nat.add_zero, Nat.add_zero, Nat.add_zero]
theorem pb_N_d1 {p0 : Nat} (p1 p2 p3 p4 p5 p6 p7 : Nat) (h0 : p0 < 256) : pb_N p0 p1 p2 p3 p4 p5 p6 p7 / 256 = pb_N p1 p2 p3 p4 p5 p6 p7 0 := by
  unfold pb_N
  rw [pb_q1 _ _ h0, Nat.mul_zero, Nat.zero_add]
theorem pb_N_d2 {p0 p1 : Nat} (p2 p3 p4 p5 p6 p7 : Nat) (h0 : p0 < 256) (h1 : p1 < 256) : pb_N p0 p1 p2 p3 p4 p5 p6 p7 / 65536 = pb_N p2 p3 p4 p5 p6 p7 0 0 := by
  rw [show (65536 : Nat) = 256 * 256 from rfl, ← Nat.div_div_eq_div_mul, pb_N_d1 _ _ _ _ _ _ _ h0, pb_N_d1 _ _ _ _ _ _ _ h1]
theorem pb_N_d4 {p0 p1 p2 p3 : Nat} (p4 p5 p6 p7 : Nat) (h0 : p0 < 256) (h1 : p1 < 256) (h2 : p2 < 256) (h3 : p3 < 256) : pb_N p0 p1 p2 p3 p4 p5 p6 p7 / 4294967296 = pb_N p4 p5 p6 p7 0 0 0 0 := by
  rw [show (4294967296 : Nat) = 65536 * 65536 from rfl, ← Nat.div_div_eq_div_mul, pb_N_d2 _ _ _ _ _ _ h0 h1, pb_N_d2 _ _ _ _ _ _ h2 h3]
theorem pb_fo (p0 p1 p2 p3 p4 p5 p6 p7 : Nat) (h0 : p0 ≤ 8) (h1 : p1 ≤ 8) (h2 : p2 ≤ 8) (h3 : p3 ≤ 8) (h4 : p4 ≤ 8) (h5 : p5 ≤ 8) (h6 : p6 ≤ 8) (h7 : p7 ≤ 8) (M : Nat) (eM : M = pb_N p0 p1 p2 p3 p4 p5 p6 p7) : ∃ z1 z2 z3 : Nat, z1 = M + M / 256 ∧ z1 < 18446744073709551616 ∧ z2 = z1 + z1 / 65536 ∧ z2 < 18446744073709551616 ∧ z3 = z2 + z2 / 4294967296 ∧ z3 < 18446744073709551616 ∧ z3 % 256 = p0 + p1 + p2 + p3 + p4 + p5 + p6 + p7 := by
  subst eM
  rw [pb_N_d1 _ _ _ _ _ _ _ (Nat.lt_of_le_of_lt h0 (by decide)), pb_N_1]
  refine ⟨_, _, _, rfl, pb_N_lt (by omega) (by omega) (by omega) (by omega) (by omega) (by omega) (by omega) (by omega), rfl, ?_, rfl, ?_, ?_⟩
  · rw [pb_N_d2 _ _ _ _ _ _ (by omega) (by omega), pb_N_2]
    exact pb_N_lt (by omega) (by omega) (by omega) (by omega) (by omega) (by omega) (by omega) (by omega)
  · rw [pb_N_d2 _ _ _ _ _ _ (by omega) (by omega), pb_N_2, pb_N_d4 _ _ _ _ (by omega) (by omega) (by omega) (by omega), pb_N_4]
    exact pb_N_lt (by omega) (by omega) (by omega) (by omega) (by omega) (by omega) (by omega) (by omega)
  · rw [pb_N_d2 _ _ _ _ _ _ (by omega) (by omega), pb_N_2, pb_N_d4 _ _ _ _ (by omega) (by omega) (by omega) (by omega), pb_N_4]
    show (256 * _ + _) % 256 = _
    rw [Nat.mul_add_mod]
    omega
