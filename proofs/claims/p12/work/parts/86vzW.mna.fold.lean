/-! bits of a long: the folding -/
theorem pb_q1 (Q a : Nat) (h : a < 256) : (256 * Q + a) / 256 = Q := by omega
theorem pb_q2 (Q a b : Nat) (h : a < 256) (h2 : b < 256) : (256 * (256 * Q + b) + a) / 65536 = Q := by omega
theorem pb_q4 (Q a b c d : Nat) (h : a < 256) (h2 : b < 256) (h3 : c < 256) (h4 : d < 256) : (256 * (256 * (256 * (256 * Q + d) + c) + b) + a) / 4294967296 = Q := by omega
theorem pb_s127 (s z : Nat) (h : z % 256 = s) (hs : s ≤ 64) : sv_g (sv_u (sv_g (z % 4294967296)) &&& sv_u 127) = (s : Int) := by
  have e : sv_u (sv_g (z % 4294967296)) = z % 4294967296 := by
    unfold sv_g sv_u
    split <;> omega
  have t : (z % 4294967296 &&& 127) = z % 4294967296 % 128 := Nat.and_two_pow_sub_one_eq_mod _ 7
  rw [e, show sv_u 127 = 127 by decide, t, show z % 4294967296 % 128 = s by omega]
  unfold sv_g
  rw [if_pos (by omega)]
