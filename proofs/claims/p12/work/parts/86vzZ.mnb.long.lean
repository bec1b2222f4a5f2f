/-! bits of a long: Long.bitCount -/
theorem pb_sh (y k : Nat) : ae_lushr y k = y / 2 ^ k := Nat.shiftRight_eq_div_pow y k
theorem pb_284 {y : Nat} (hy : y < 18446744073709551616) {m : dc_M} {v : Int} {m' : dc_M} (h : D_284 y m v m') : v = (pb_s 8 y : Nat) ∧ m' = m := by
  obtain ⟨-, -, -, -, -, -, ev, em⟩ := h
  refine ⟨ev.trans ?_, em⟩
  clear ev em
  obtain ⟨a, b, ea, la, eb, lb, eq, lq⟩ := pb_321 hy
  obtain ⟨z1, z2, z3, e1, l1, e2, l2, e3, l3, e4, l4⟩ := pb_fold (x := y)
  generalize pb_m pl_cn 8 y = X at *
  generalize pb_s 8 y = Z at *
  have s1 : ae_lushr y (1 : Int).toNat = y / 2 := pb_sh y 1
  have s2 : ae_lushr a (2 : Int).toNat = a / 4 := pb_sh a 2
  have s3 : ae_lushr b (4 : Int).toNat = b / 16 := pb_sh b 4
  have s4 : ae_lushr (X) (8 : Int).toNat = X / 256 := pb_sh _ 8
  have s5 : ae_lushr z1 (16 : Int).toNat = z1 / 65536 := pb_sh _ 16
  have s6 : ae_lushr z2 (32 : Int).toNat = z2 / 4294967296 := pb_sh _ 32
  have r1 : ae_lsub y (Nat.land (ae_lushr y (1 : Int).toNat) 6148914691236517205) = a := by
    rw [s1]
    refine Eq.trans ?_ ea.symm
    show (y + (18446744073709551616 - (y / 2 &&& 6148914691236517205))) % 18446744073709551616 = y - (y / 2 &&& 6148914691236517205)
    clear eq e1 ea eb s1 s2 s3 s4 s5 s6 e2 e3 e4 l1 l2 l3 l4 lq lb
    generalize (y / 2 &&& 6148914691236517205) = q at *
    omega
  have r2 : ae_ladd (Nat.land a 3689348814741910323) (Nat.land (ae_lushr a (2 : Int).toNat) 3689348814741910323) = b := by
    rw [s2]
    refine Eq.trans ?_ eb.symm
    show ((a &&& 3689348814741910323) + (a / 4 &&& 3689348814741910323)) % 18446744073709551616 = _
    exact Nat.mod_eq_of_lt (eb ▸ lb)
  have r3 : Nat.land (ae_ladd b (ae_lushr b (4 : Int).toNat)) 1085102592571150095 = X := by
    rw [s3]
    show ((b + b / 16) % 18446744073709551616 &&& 1085102592571150095) = _
    rw [Nat.mod_eq_of_lt lq]
    exact eq
  have r4 : ae_ladd (X) (ae_lushr (X) (8 : Int).toNat) = z1 := by
    rw [s4]
    refine Eq.trans ?_ e1.symm
    exact Nat.mod_eq_of_lt (show X + X / 256 < 18446744073709551616 by rw [← e1]; exact l1)
  have r5 : ae_ladd z1 (ae_lushr z1 (16 : Int).toNat) = z2 := by
    rw [s5]
    refine Eq.trans ?_ e2.symm
    exact Nat.mod_eq_of_lt (show z1 + z1 / 65536 < 18446744073709551616 by rw [← e2]; exact l2)
  have r6 : ae_ladd z2 (ae_lushr z2 (32 : Int).toNat) = z3 := by
    rw [s6]
    refine Eq.trans ?_ e3.symm
    exact Nat.mod_eq_of_lt (show z2 + z2 / 4294967296 < 18446744073709551616 by rw [← e3]; exact l3)
  rw [r1, r2, r3, r4, r5, r6]
  exact pb_s127 _ _ e4 l4
