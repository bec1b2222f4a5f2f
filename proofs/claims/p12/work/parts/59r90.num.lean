/-- an int as a number from 0 on -/
def ae_bi (x : Int32) : Nat := (x.toInt + 2147483648).toNat
theorem ae_bi_eq (x : Int32) : (ae_bi x : Int) = x.toInt + 2147483648 := by
  have h1 := Int32.le_toInt x
  unfold ae_bi
  omega
theorem ae_bi_lt (x : Int32) : ae_bi x < 4294967296 := by
  have h1 := Int32.toInt_lt x
  have h2 := ae_bi_eq x
  omega
theorem ae_tb (n : Nat) : (nI n).toBitVec = BitVec.ofNat 32 n := rfl
theorem ae_lb (n : Nat) : (lN n).toBitVec = BitVec.ofNat 64 n := rfl
theorem ae_ext {x y : Int32} (h : x.toBitVec = y.toBitVec) : x = y := Int32.toBitVec_inj.mp h
theorem ae_extL {x y : Int64} (h : x.toBitVec = y.toBitVec) : x = y := Int64.toBitVec_inj.mp h
theorem ae_nmod (n : Nat) : nI (n % 4294967296) = nI n := ae_ext (by
  rw [ae_tb, ae_tb]
  apply BitVec.eq_of_toNat_eq
  simp)
theorem ae_lmod (n : Nat) : lN (n % 18446744073709551616) = lN n := ae_extL (by
  rw [ae_lb, ae_lb]
  apply BitVec.eq_of_toNat_eq
  simp)
theorem ae_bm (x : Int) : x.bmod 4294967296 = if x % 4294967296 < 2147483648 then x % 4294967296 else x % 4294967296 - 4294967296 := rfl
theorem ae_bmL (x : Int) : x.bmod 18446744073709551616 = if x % 18446744073709551616 < 9223372036854775808 then x % 18446744073709551616 else x % 18446744073709551616 - 18446744073709551616 := rfl
theorem ae_toInt (n : Nat) : (nI n).toInt = (n : Int).bmod 4294967296 := by
  show (BitVec.ofNat 32 n).toInt = _
  rw [BitVec.toInt_eq_toNat_bmod, BitVec.toNat_ofNat]
  simp only [Nat.reducePow]
  rw [ae_bm, ae_bm]; split <;> split <;> omega
theorem ae_toIntL (n : Nat) : (lN n).toInt = (n : Int).bmod 18446744073709551616 := by
  show (BitVec.ofNat 64 n).toInt = _
  rw [BitVec.toInt_eq_toNat_bmod, BitVec.toNat_ofNat]
  simp only [Nat.reducePow]
  rw [ae_bmL, ae_bmL]; split <;> split <;> omega
theorem ae_bi_nI (n : Nat) : ae_bi (nI n) = ae_bs n := by
  have h := ae_bi_eq (nI n)
  rw [ae_toInt] at h
  have e : ae_bs n = (n + 2147483648) % 4294967296 := rfl
  rw [e]
  rw [ae_bm] at h
  split at h <;> omega
theorem ae_bi_inj {x y : Int32} (h : ae_bi x = ae_bi y) : x = y := by
  have h1 := ae_bi_eq x
  have h2 := ae_bi_eq y
  exact Int32.toInt_inj.mp (by omega)
theorem ae_bi_of {x : Int32} : x = nI (ae_bs (ae_bi x)) := by
  apply ae_bi_inj
  rw [ae_bi_nI]
  have h := ae_bi_lt x
  show _ = ((ae_bi x + 2147483648) % 4294967296 + 2147483648) % 4294967296
  omega
theorem ae_lt_iff {x y : Int32} : x < y ↔ ae_bi x < ae_bi y := by
  rw [Int32.lt_iff_toInt_lt]
  have h1 := ae_bi_eq x
  have h2 := ae_bi_eq y
  omega
theorem ae_le_iff {x y : Int32} : x ≤ y ↔ ae_bi x ≤ ae_bi y := by
  rw [Int32.le_iff_toInt_le]
  have h1 := ae_bi_eq x
  have h2 := ae_bi_eq y
  omega
theorem ae_eq_iff {x y : Int32} : x = y ↔ ae_bi x = ae_bi y := ⟨fun h => by rw [h], ae_bi_inj⟩
theorem ae_bi0 : ae_bi 0 = 2147483648 := by decide +kernel
theorem ae_nlt {n : Nat} (h : n < 2147483648) : ¬ nI n < 0 := nI_pos h
theorem ae_add_ok (a b : Nat) : nI a + nI b = nI (ae_add a b) := by
  rw [nI_add]; exact (ae_nmod _).symm
theorem ae_mul_ok (a b : Nat) : nI a * nI b = nI (ae_mul a b) := by
  rw [pk_mul]; exact (ae_nmod _).symm
theorem ae_sub_ok {a b : Nat} (hb : b < 4294967296) : nI a - nI b = nI (ae_sub a b) := by
  have e : ae_sub a b = (a + (4294967296 - b)) % 4294967296 := rfl
  rw [e, ae_nmod]
  have h : nI (a + (4294967296 - b)) + nI b = nI a := by
    rw [nI_add, ← ae_nmod (a + (4294967296 - b) + b), ← ae_nmod a]
    congr 1
    omega
  rw [← h]
  simp
theorem ae_and_ok (a b : Nat) : nI a &&& nI b = nI (ae_and a b) := ae_ext (by
  rw [Int32.toBitVec_and, ae_tb, ae_tb, ae_tb]
  exact (BitVec.ofNat_and).symm)
theorem ae_or_ok (a b : Nat) : nI a ||| nI b = nI (ae_or a b) := ae_ext (by
  rw [Int32.toBitVec_or, ae_tb, ae_tb, ae_tb]
  exact (BitVec.ofNat_or).symm)
theorem ae_xor_ok (a b : Nat) : nI a ^^^ nI b = nI (ae_xor a b) := ae_ext (by
  rw [Int32.toBitVec_xor, ae_tb, ae_tb, ae_tb]
  exact (BitVec.ofNat_xor).symm)
theorem ae_land_ok (a b : Nat) : lN a &&& lN b = lN (Nat.land a b) := ae_extL (by
  rw [Int64.toBitVec_and, ae_lb, ae_lb, ae_lb]
  exact (BitVec.ofNat_and).symm)
theorem ae_lor_ok (a b : Nat) : lN a ||| lN b = lN (Nat.lor a b) := ae_extL (by
  rw [Int64.toBitVec_or, ae_lb, ae_lb, ae_lb]
  exact (BitVec.ofNat_or).symm)
theorem ae_ladd_ok (a b : Nat) : lN a + lN b = lN (ae_ladd a b) := by
  rw [lN_add]; exact (ae_lmod _).symm
theorem ae_lsub_ok {a b : Nat} (hb : b < 18446744073709551616) : lN a - lN b = lN (ae_lsub a b) := by
  have e : ae_lsub a b = (a + (18446744073709551616 - b)) % 18446744073709551616 := rfl
  rw [e, ae_lmod]
  have h : lN (a + (18446744073709551616 - b)) + lN b = lN a := by
    rw [lN_add, ← ae_lmod (a + (18446744073709551616 - b) + b), ← ae_lmod a]
    congr 1
    omega
  rw [← h]
  simp
theorem ae_sm : ∀ k, k < 32 → ((nI k).toBitVec.smod 32).toNat = k := by decide +kernel
theorem ae_m31 {b : Nat} (hb : b < 4294967296) : nI b &&& 31 = nI (b % 32) := pk_andN (n := b) hb 5 (by decide +kernel)
theorem ae_shl_ok {a b : Nat} (ha : a < 4294967296) (hb : b < 4294967296) : nI a <<< (nI b &&& 31) = nI (ae_shl a b) := by
  rw [ae_m31 hb]
  apply ae_ext
  apply BitVec.eq_of_toNat_eq
  rw [pk_shl _ _ (b % 32) (ae_sm _ (Nat.mod_lt _ (by omega))), ae_tb, ae_tb]
  have e : ae_shl a b = a <<< (b % 32) % 4294967296 := rfl
  rw [e, Nat.shiftLeft_eq]
  simp
theorem ae_shr_ok {a b : Nat} (ha : a < 4294967296) (hb : b < 4294967296) : nI a >>> (nI b &&& 31) = nI (ae_shr a b) := by
  rw [ae_m31 hb]
  apply Int32.toInt_inj.mp
  rw [pk_shr _ _ (b % 32) (ae_sm _ (Nat.mod_lt _ (by omega))), ae_toInt, ae_toInt]
  unfold ae_shr
  rcases Nat.lt_or_ge a 2147483648 with q | q
  · have hf : Nat.ble 2147483648 a = false := by
      cases h : Nat.ble 2147483648 a with
      | true => exact absurd (Nat.le_of_ble_eq_true h) (by omega)
      | false => rfl
    rw [hf]
    have h2 : a >>> (b % 32) ≤ a := Nat.shiftRight_le _ _
    have e1 : (a : Int).bmod 4294967296 = (a : Int) := by rw [ae_bm]; split <;> omega
    have e2 : ∀ z : Nat, z ≤ a → (z : Int).bmod 4294967296 = (z : Int) := fun z hz => by rw [ae_bm]; split <;> omega
    show _ = ((a >>> (b % 32) : Nat) : Int).bmod 4294967296
    rw [e1, e2 _ h2]; rfl
  · rw [Nat.ble_eq_true_of_le q]
    have h2 : (4294967295 - a) >>> (b % 32) ≤ 4294967295 - a := Nat.shiftRight_le _ _
    have e1 : (a : Int).bmod 4294967296 = Int.negSucc (4294967295 - a) := by rw [ae_bm]; split <;> omega
    show _ = ((4294967295 - (4294967295 - a) >>> (b % 32) : Nat) : Int).bmod 4294967296
    have e2 : ∀ z : Nat, z ≤ 4294967295 - a → ((4294967295 - z : Nat) : Int).bmod 4294967296 = Int.negSucc z := fun z hz => by rw [ae_bm]; split <;> omega
    rw [e1, e2 _ h2]; rfl
theorem ae_ushr_ok {a b : Nat} (ha : a < 4294967296) (hb : b < 4294967296) : ((nI a).toUInt32 >>> ((nI b).toUInt32 &&& Int32.toUInt32 31)).toInt32 = nI (ae_ushr a b) := by
  rw [pk_ushrN ha (nI b) (b % 32) ?_]
  · show _ = nI (a >>> (b % 32))
    rw [Nat.shiftRight_eq_div_pow]
  · show ((BitVec.ofNat 32 b &&& 31#32) % 32).toNat = b % 32
    have h31 : b % 4294967296 &&& 31 = b % 4294967296 % 32 := Nat.and_two_pow_sub_one_eq_mod _ 5
    simp [BitVec.toNat_umod, BitVec.toNat_and]
    omega
theorem ae_b8_ok (a : Nat) : (nI a).toInt8.toInt32 = nI (ae_b8 a) := by
  have h : ∀ k, k < 256 → (nI k).toInt8.toInt32 = nI (ae_b8 k) := by decide +kernel
  have e1 : ae_b8 a = ae_b8 (a % 256) := by
    have e0 : Nat.mod (a % 256) 256 = Nat.mod a 256 := Nat.mod_mod a 256
    unfold ae_b8; rw [e0]
  have e2 : (nI a).toInt8 = (nI (a % 256)).toInt8 := by
    apply Int8.toBitVec_inj.mp
    apply BitVec.eq_of_toNat_eq
    show (BitVec.signExtend 8 (BitVec.ofNat 32 a)).toNat = (BitVec.signExtend 8 (BitVec.ofNat 32 (a % 256))).toNat
    rw [BitVec.signExtend_eq_setWidth_of_le _ (by omega), BitVec.signExtend_eq_setWidth_of_le _ (by omega)]
    simp
  rw [e1, e2]
  exact h _ (Nat.mod_lt _ (by omega))
theorem ae_i2l_ok {a : Nat} (ha : a < 4294967296) : (nI a).toInt64 = lN (ae_i2l a) := by
  apply Int64.toInt_inj.mp
  rw [Int32.toInt_toInt64, ae_toInt, ae_toIntL]
  unfold ae_i2l
  rcases Nat.lt_or_ge a 2147483648 with q | q
  · have hf : Nat.ble 2147483648 a = false := by
      cases h : Nat.ble 2147483648 a with
      | true => exact absurd (Nat.le_of_ble_eq_true h) (by omega)
      | false => rfl
    rw [hf]
    show _ = (a : Int).bmod 18446744073709551616
    rw [ae_bm, ae_bmL]; split <;> split <;> omega
  · rw [Nat.ble_eq_true_of_le q]
    show _ = ((a + 18446744069414584320 : Nat) : Int).bmod 18446744073709551616
    rw [ae_bm, ae_bmL]; split <;> split <;> omega
theorem ae_l2i_ok (a : Nat) : (lN a).toInt32 = nI (a % 4294967296) := by
  rw [lN_i, ae_nmod]
theorem ae_lushr_ok {a b : Nat} (ha : a < 18446744073709551616) (hb : b < 64) : ((lN a).toUInt64 >>> ((nI b).toInt64.toUInt64 &&& Int64.toUInt64 63)).toInt64 = lN (ae_lushr a b) := by
  have h : ∀ k, k < 64 → ((nI k).toInt64.toUInt64 &&& Int64.toUInt64 63).toBitVec.toNat % 64 = k := by decide +kernel
  apply ae_extL
  apply BitVec.eq_of_toNat_eq
  show ((lN a).toUInt64 >>> ((nI b).toInt64.toUInt64 &&& Int64.toUInt64 63)).toBitVec.toNat = _
  rw [UInt64.toBitVec_shiftRight, BitVec.ushiftRight_eq', BitVec.toNat_ushiftRight, BitVec.toNat_umod]
  have e0 : (lN a).toUInt64.toBitVec.toNat = a := by
    show (BitVec.ofNat 64 a).toNat = a
    rw [BitVec.toNat_ofNat]; omega
  have e1 : ((nI b).toInt64.toUInt64 &&& Int64.toUInt64 63).toBitVec.toNat % BitVec.toNat (64 : BitVec 64) = b := h b hb
  rw [e0, e1, ae_lb, BitVec.toNat_ofNat]
  have : a >>> b ≤ a := Nat.shiftRight_le _ _
  show a >>> b = (a >>> b) % 2 ^ 64
  exact (Nat.mod_eq_of_lt (Nat.lt_of_le_of_lt this ha)).symm
theorem ae_lcmp_ok (a b : Nat) : lg_cmp (lN a) (lN b) = nI (ae_lcmp a b) := by
  have hb : ∀ n : Nat, (lN n).toInt + 9223372036854775808 = (ae_lbs n : Int) := fun n => by
    rw [ae_toIntL]
    have e : ae_lbs n = (n + 9223372036854775808) % 18446744073709551616 := rfl
    rw [e, ae_bmL]
    split <;> omega
  have h1 := hb a
  have h2 := hb b
  have hn : ∀ x : Int64, lN 0 = lN 0 := fun _ => rfl
  unfold lg_cmp
  have e1 : (nI 4294967295) = (-1 : Int32) := by decide +kernel
  have hq : ae_lcmp a b = if ae_lbs a = ae_lbs b then 0 else if ae_lbs a ≤ ae_lbs b then 4294967295 else 1 := by
    unfold ae_lcmp
    by_cases q : ae_lbs a = ae_lbs b
    · rw [if_pos q, q, Nat.beq_refl]; rfl
    · rw [if_neg q]
      have : Nat.beq (ae_lbs a) (ae_lbs b) = false := by
        cases h : Nat.beq (ae_lbs a) (ae_lbs b) with
        | true => exact absurd (Nat.eq_of_beq_eq_true h) q
        | false => rfl
      rw [this]
      by_cases q2 : ae_lbs a ≤ ae_lbs b
      · rw [if_pos q2, Nat.ble_eq_true_of_le q2]; rfl
      · rw [if_neg q2]
        have : Nat.ble (ae_lbs a) (ae_lbs b) = false := by
          cases h : Nat.ble (ae_lbs a) (ae_lbs b) with
          | true => exact absurd (Nat.le_of_ble_eq_true h) q2
          | false => rfl
        rw [this]; rfl
  rw [hq]
  have c1 : lN a > lN b ↔ ae_lbs b < ae_lbs a := by
    show lN b < lN a ↔ _
    rw [Int64.lt_iff_toInt_lt]; omega
  have c2 : lN a = lN b ↔ ae_lbs a = ae_lbs b := by
    rw [← Int64.toInt_inj]; omega
  by_cases q1 : ae_lbs b < ae_lbs a
  · rw [if_pos (c1.mpr q1), if_neg (by omega), if_neg (by omega)]; rfl
  · rw [if_neg (fun h => q1 (c1.mp h))]
    by_cases q2 : ae_lbs a = ae_lbs b
    · rw [if_pos (c2.mpr q2), if_pos q2]; rfl
    · rw [if_neg (fun h => q2 (c2.mp h)), if_neg q2, if_pos (by omega), e1]
theorem ae_neg_ok {a : Nat} (ha : a < 4294967296) : -(nI a) = nI (ae_sub 0 a) := by
  rw [← ae_sub_ok ha]
  show -(nI a) = (0 : Int32) - nI a
  simp
theorem ae_blt_f {a : Nat} (h : Nat.ble 2147483648 a = false) : a < 2147483648 := by
  rcases Nat.lt_or_ge a 2147483648 with q | q
  · exact q
  · rw [Nat.ble_eq_true_of_le q] at h; cases h
theorem ae_idiv_ok {x y : Nat} (hx : x < 4294967296) (h0 : 0 < y) (hy : y < 2147483648) : nI x / nI y = nI (ae_idiv x y) ∧ ae_idiv x y < 4294967296 := by
  unfold ae_idiv
  cases hb : Nat.ble 2147483648 x with
  | false =>
    have := ae_blt_f hb
    exact ⟨pk_div (by omega) (by omega) (by omega), Nat.lt_of_le_of_lt (Nat.div_le_self x y) hx⟩
  | true =>
    have hge := Nat.le_of_ble_eq_true hb
    have hz : (4294967296 - x) / y ≤ 4294967296 - x := Nat.div_le_self _ _
    refine ⟨?_, Nat.mod_lt _ (by omega)⟩
    apply Int32.toInt_inj.mp
    rw [Int32.toInt_div, ae_toInt, ae_toInt, ae_toInt]
    have e1 : (x : Int).bmod 4294967296 = -((4294967296 - x : Nat) : Int) := by rw [ae_bm]; split <;> omega
    have e2 : (y : Int).bmod 4294967296 = (y : Int) := by rw [ae_bm]; split <;> omega
    have e3 : ((4294967296 - x : Nat) : Int).tdiv (y : Int) = (((4294967296 - x) / y : Nat) : Int) := rfl
    rw [e1, e2, Int.neg_tdiv, e3]
    simp only [Nat.reducePow]
    show (-(((4294967296 - x) / y : Nat) : Int)).bmod 4294967296 = (((4294967296 - (4294967296 - x) / y) % 4294967296 : Nat) : Int).bmod 4294967296
    generalize (4294967296 - x) / y = z at hz
    rw [ae_bm, ae_bm]
    split <;> split <;> omega
theorem ae_ring (z y r : Int32) : -(z * y + r) - -z * y = -r := by grind
theorem ae_hneg {k : Nat} (hk : k < 4294967296) : nI ((4294967296 - k) % 4294967296) = -(nI k) := by
  rw [ae_neg_ok hk]
  show _ = nI ((0 + (4294967296 - k)) % 4294967296)
  rw [Nat.zero_add]
theorem ae_irem_ok {x y : Nat} (hx : x < 4294967296) (h0 : 0 < y) (hy : y < 2147483648) : nI x - nI x / nI y * nI y = nI (ae_irem x y) ∧ ae_irem x y < 4294967296 := by
  cases hb : Nat.ble 2147483648 x with
  | false =>
    have := ae_blt_f hb
    unfold ae_irem
    rw [hb]
    exact ⟨pk_rem (by omega) (by omega) (by omega), Nat.lt_of_le_of_lt (Nat.mod_le x y) hx⟩
  | true =>
    have hge := Nat.le_of_ble_eq_true hb
    have e1 : ae_irem x y = (4294967296 - (4294967296 - x) % y) % 4294967296 := by unfold ae_irem; rw [hb]; rfl
    have e2 : ae_idiv x y = (4294967296 - (4294967296 - x) / y) % 4294967296 := by unfold ae_idiv; rw [hb]; rfl
    have hz : (4294967296 - x) / y ≤ 4294967296 - x := Nat.div_le_self _ _
    have hr : (4294967296 - x) % y ≤ 4294967296 - x := Nat.mod_le _ _
    have hm : nI (4294967296 - x) = nI ((4294967296 - x) / y) * nI y + nI ((4294967296 - x) % y) := by
      rw [pk_mul, nI_add, Nat.div_add_mod']
    refine ⟨?_, by rw [e1]; exact Nat.mod_lt _ (by omega)⟩
    have ex : nI x = -(nI (4294967296 - x)) := by
      rw [← ae_hneg (by omega)]
      congr 1
      omega
    rw [(ae_idiv_ok hx h0 hy).1, e1, e2, ae_hneg (by omega), ae_hneg (by omega), ex, hm]
    exact ae_ring _ _ _
theorem ae_sm64 : ∀ k, k < 64 → (((nI k).toInt64 &&& 63).toBitVec.smod 64).toNat = k := by decide +kernel
theorem ae_lshl_ok {a b : Nat} (ha : a < 18446744073709551616) (hb : b < 64) : lN a <<< ((nI b).toInt64 &&& 63) = lN (ae_lshl a b) := by
  apply ae_extL
  apply BitVec.eq_of_toNat_eq
  show ((lN a).toBitVec <<< (((nI b).toInt64 &&& 63).toBitVec.smod 64)).toNat = _
  rw [BitVec.shiftLeft_eq', BitVec.toNat_shiftLeft, ae_sm64 b hb, ae_lb, ae_lb, BitVec.toNat_ofNat, BitVec.toNat_ofNat]
  have e64 : (2 : Nat) ^ 64 = 18446744073709551616 := by decide
  have e : ae_lshl a b = (a <<< b) % 18446744073709551616 := rfl
  rw [e64, Nat.mod_eq_of_lt ha, e, Nat.mod_mod]
theorem ae_lshl_lt (a b : Nat) : ae_lshl a b < 18446744073709551616 := Nat.mod_lt _ (by omega)
theorem ae_lshr_ok {a b : Nat} (ha : a < 18446744073709551616) (hb : b < 64) : lN a >>> ((nI b).toInt64 &&& 63) = lN (ae_lshr a b) := by
  apply Int64.toInt_inj.mp
  show (BitVec.sshiftRight' (lN a).toBitVec (((nI b).toInt64 &&& 63).toBitVec.smod 64)).toInt = _
  rw [BitVec.sshiftRight_eq', BitVec.toInt_sshiftRight, ae_sm64 b hb]
  show (lN a).toInt >>> b = (lN (ae_lshr a b)).toInt
  rw [ae_toIntL, ae_toIntL]
  unfold ae_lshr
  rcases Nat.lt_or_ge a 9223372036854775808 with q | q
  · have hf : Nat.ble 9223372036854775808 a = false := by
      cases h : Nat.ble 9223372036854775808 a with
      | true => exact absurd (Nat.le_of_ble_eq_true h) (by omega)
      | false => rfl
    rw [hf]
    have h2 : a >>> b ≤ a := Nat.shiftRight_le _ _
    have e1 : (a : Int).bmod 18446744073709551616 = (a : Int) := by rw [ae_bmL]; split <;> omega
    have e2 : ∀ z : Nat, z ≤ a → (z : Int).bmod 18446744073709551616 = (z : Int) := fun z hz => by rw [ae_bmL]; split <;> omega
    show _ = ((a >>> b : Nat) : Int).bmod 18446744073709551616
    rw [e1, e2 _ h2]; rfl
  · rw [Nat.ble_eq_true_of_le q]
    have h2 : (18446744073709551615 - a) >>> b ≤ 18446744073709551615 - a := Nat.shiftRight_le _ _
    have e1 : (a : Int).bmod 18446744073709551616 = Int.negSucc (18446744073709551615 - a) := by rw [ae_bmL]; split <;> omega
    show _ = ((18446744073709551615 - (18446744073709551615 - a) >>> b : Nat) : Int).bmod 18446744073709551616
    have e2 : ∀ z : Nat, z ≤ 18446744073709551615 - a → ((18446744073709551615 - z : Nat) : Int).bmod 18446744073709551616 = Int.negSucc z := fun z hz => by rw [ae_bmL]; split <;> omega
    rw [e1, e2 _ h2]; rfl
theorem ae_lshr_lt {a b : Nat} (ha : a < 18446744073709551616) : ae_lshr a b < 18446744073709551616 := by
  unfold ae_lshr
  cases Nat.ble 9223372036854775808 a with
  | true => show 18446744073709551615 - _ < _; omega
  | false => exact Nat.lt_of_le_of_lt (Nat.shiftRight_le _ _) ha
