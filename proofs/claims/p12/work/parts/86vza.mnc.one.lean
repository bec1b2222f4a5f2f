/-! bits of a long: one by one -/
theorem pb_d4 : ∀ b : Nat, b < 256 → b = 0 ∨ pl_cn (b &&& (b - 1)) + 1 = pl_cn b := by decide +kernel
theorem pb_clr : ∀ k x, pb_b k x → x ≠ 0 → pb_b k (x &&& (x - 1)) ∧ pb_s k (x &&& (x - 1)) + 1 = pb_s k x
  | 0, x, h, h0 => absurd h h0
  | k + 1, x, h, h0 => by
    have e := pb_and x (x - 1)
    show pb_b k ((x &&& (x - 1)) / 256) ∧ pb_s k ((x &&& (x - 1)) / 256) + pl_cn ((x &&& (x - 1)) % 256) + 1 = pb_s k (x / 256) + pl_cn (x % 256)
    have lt : (x % 256 &&& (x - 1) % 256) < 256 := Nat.and_lt_two_pow (n := 8) _ (by show (x - 1) % 256 < 256; omega)
    by_cases z : x % 256 = 0
    · obtain ⟨i1, i2⟩ := pb_clr k (x / 256) h (by omega)
      rw [show (x - 1) / 256 = x / 256 - 1 by omega, z, Nat.zero_and] at e
      rw [e, show (256 * (x / 256 &&& (x / 256 - 1)) + 0) / 256 = (x / 256 &&& (x / 256 - 1)) by omega, show (256 * (x / 256 &&& (x / 256 - 1)) + 0) % 256 = 0 by omega, z]
      exact ⟨i1, by have : pl_cn 0 = 0 := by decide
                    omega⟩
    · have d := pb_d4 (x % 256) (by omega)
      rw [show (x - 1) / 256 = x / 256 by omega, show (x - 1) % 256 = x % 256 - 1 by omega, Nat.and_self] at e
      rw [show (x - 1) % 256 = x % 256 - 1 by omega] at lt
      rw [e, show (256 * (x / 256) + (x % 256 &&& (x % 256 - 1))) / 256 = x / 256 by omega, show (256 * (x / 256) + (x % 256 &&& (x % 256 - 1))) % 256 = (x % 256 &&& (x % 256 - 1)) by omega]
      rcases d with d | d
      · exact absurd d z
      · exact ⟨h, by omega⟩
theorem pb_232l {y0 : Nat} : ∀ (c : Nat) (l2 : Int) (l3 : Nat) (m : dc_M) (v : Int) (m' : dc_M), LM_232 y0 c 4 l2 l3 m v m' → l3 < 18446744073709551616 → 0 ≤ l2 → l2 ≤ 1000 - (pb_s 8 l3 : Nat) → v = l2 + (pb_s 8 l3 : Nat) ∧ m' = m := by
  intro c
  induction c with
  | zero => intro l2 l3 m v m' h; exact h.elim
  | succ c ih =>
    intro l2 l3 m v m' h h3 h20 h2
    have z := rz_lz (Y := l3) (K := 0) h3 (by decide)
    replace h := lm_232_4.mp h
    rcases h with ⟨c1, ev, em⟩ | ⟨c1, h⟩
    · have e := z.mp c1
      subst e
      exact ⟨by rw [ev, show pb_s 8 0 = 0 by decide]; omega, em⟩
    · have n0 : l3 ≠ 0 := fun e => c1 (z.mpr e)
      obtain ⟨q1, q2⟩ := pb_clr 8 l3 (pb_b_8 h3) n0
      have es : Nat.land l3 (ae_lsub l3 1) = (l3 &&& (l3 - 1)) := by
        show (l3 &&& ((l3 + (18446744073709551616 - 1)) % 18446744073709551616)) = _
        rw [show (l3 + (18446744073709551616 - 1)) % 18446744073709551616 = l3 - 1 by clear h z c1; omega]
      rw [es, dw (z := l2 + 1) (by clear h z c1; omega) (by clear h z c1; omega)] at h
      have lt : (l3 &&& (l3 - 1)) < 18446744073709551616 := Nat.lt_of_le_of_lt Nat.and_le_left h3
      obtain ⟨y1, y2⟩ := ih (l2 + 1) _ m v m' h lt (by clear h z c1; omega) (by clear h z c1; omega)
      exact ⟨by clear h z c1; omega, y2⟩
theorem pb_232 {y : Nat} (hy : y < 18446744073709551616) {m : dc_M} {v : Int} {m' : dc_M} (h : D_232 y m v m') : v = (pb_s 8 y : Nat) ∧ m' = m := by
  obtain ⟨c, h⟩ := h
  have l := (pb_fold (x := y))
  obtain ⟨z1, z2, z3, -, -, -, -, -, -, -, l4⟩ := l
  obtain ⟨y1, y2⟩ := pb_232l c 0 y m v m' h hy (Int.le_refl 0) (by clear h; omega)
  exact ⟨by clear h; omega, y2⟩
theorem pb_283d : ∀ n : Nat, n < 1024 → (sv_g (sv_u (dc_w ((dc_w ((sv_g (sv_u (dc_w ((dc_w ((sv_g (sv_u (dc_w (((n : Nat) : Int) - (sv_g (sv_u (sv_g (ae_ushr (sv_u ((n : Nat) : Int)) (sv_u 1))) &&& sv_u 1431655765)))) &&& sv_u 858993459)) + (sv_g (sv_u (sv_g (ae_ushr (sv_u (dc_w (((n : Nat) : Int) - (sv_g (sv_u (sv_g (ae_ushr (sv_u ((n : Nat) : Int)) (sv_u 1))) &&& sv_u 1431655765))))) (sv_u 2))) &&& sv_u 858993459)))) + (sv_g (ae_ushr (sv_u (dc_w ((sv_g (sv_u (dc_w (((n : Nat) : Int) - (sv_g (sv_u (sv_g (ae_ushr (sv_u ((n : Nat) : Int)) (sv_u 1))) &&& sv_u 1431655765)))) &&& sv_u 858993459)) + (sv_g (sv_u (sv_g (ae_ushr (sv_u (dc_w (((n : Nat) : Int) - (sv_g (sv_u (sv_g (ae_ushr (sv_u ((n : Nat) : Int)) (sv_u 1))) &&& sv_u 1431655765))))) (sv_u 2))) &&& sv_u 858993459))))) (sv_u 4))))) &&& sv_u 252645135)) + (sv_g (ae_ushr (sv_u (sv_g (sv_u (dc_w ((dc_w ((sv_g (sv_u (dc_w (((n : Nat) : Int) - (sv_g (sv_u (sv_g (ae_ushr (sv_u ((n : Nat) : Int)) (sv_u 1))) &&& sv_u 1431655765)))) &&& sv_u 858993459)) + (sv_g (sv_u (sv_g (ae_ushr (sv_u (dc_w (((n : Nat) : Int) - (sv_g (sv_u (sv_g (ae_ushr (sv_u ((n : Nat) : Int)) (sv_u 1))) &&& sv_u 1431655765))))) (sv_u 2))) &&& sv_u 858993459)))) + (sv_g (ae_ushr (sv_u (dc_w ((sv_g (sv_u (dc_w (((n : Nat) : Int) - (sv_g (sv_u (sv_g (ae_ushr (sv_u ((n : Nat) : Int)) (sv_u 1))) &&& sv_u 1431655765)))) &&& sv_u 858993459)) + (sv_g (sv_u (sv_g (ae_ushr (sv_u (dc_w (((n : Nat) : Int) - (sv_g (sv_u (sv_g (ae_ushr (sv_u ((n : Nat) : Int)) (sv_u 1))) &&& sv_u 1431655765))))) (sv_u 2))) &&& sv_u 858993459))))) (sv_u 4))))) &&& sv_u 252645135))) (sv_u 8))))) + (sv_g (ae_ushr (sv_u (dc_w ((sv_g (sv_u (dc_w ((dc_w ((sv_g (sv_u (dc_w (((n : Nat) : Int) - (sv_g (sv_u (sv_g (ae_ushr (sv_u ((n : Nat) : Int)) (sv_u 1))) &&& sv_u 1431655765)))) &&& sv_u 858993459)) + (sv_g (sv_u (sv_g (ae_ushr (sv_u (dc_w (((n : Nat) : Int) - (sv_g (sv_u (sv_g (ae_ushr (sv_u ((n : Nat) : Int)) (sv_u 1))) &&& sv_u 1431655765))))) (sv_u 2))) &&& sv_u 858993459)))) + (sv_g (ae_ushr (sv_u (dc_w ((sv_g (sv_u (dc_w (((n : Nat) : Int) - (sv_g (sv_u (sv_g (ae_ushr (sv_u ((n : Nat) : Int)) (sv_u 1))) &&& sv_u 1431655765)))) &&& sv_u 858993459)) + (sv_g (sv_u (sv_g (ae_ushr (sv_u (dc_w (((n : Nat) : Int) - (sv_g (sv_u (sv_g (ae_ushr (sv_u ((n : Nat) : Int)) (sv_u 1))) &&& sv_u 1431655765))))) (sv_u 2))) &&& sv_u 858993459))))) (sv_u 4))))) &&& sv_u 252645135)) + (sv_g (ae_ushr (sv_u (sv_g (sv_u (dc_w ((dc_w ((sv_g (sv_u (dc_w (((n : Nat) : Int) - (sv_g (sv_u (sv_g (ae_ushr (sv_u ((n : Nat) : Int)) (sv_u 1))) &&& sv_u 1431655765)))) &&& sv_u 858993459)) + (sv_g (sv_u (sv_g (ae_ushr (sv_u (dc_w (((n : Nat) : Int) - (sv_g (sv_u (sv_g (ae_ushr (sv_u ((n : Nat) : Int)) (sv_u 1))) &&& sv_u 1431655765))))) (sv_u 2))) &&& sv_u 858993459)))) + (sv_g (ae_ushr (sv_u (dc_w ((sv_g (sv_u (dc_w (((n : Nat) : Int) - (sv_g (sv_u (sv_g (ae_ushr (sv_u ((n : Nat) : Int)) (sv_u 1))) &&& sv_u 1431655765)))) &&& sv_u 858993459)) + (sv_g (sv_u (sv_g (ae_ushr (sv_u (dc_w (((n : Nat) : Int) - (sv_g (sv_u (sv_g (ae_ushr (sv_u ((n : Nat) : Int)) (sv_u 1))) &&& sv_u 1431655765))))) (sv_u 2))) &&& sv_u 858993459))))) (sv_u 4))))) &&& sv_u 252645135))) (sv_u 8)))))) (sv_u 16))))) &&& sv_u 63)) = ((pb_s 8 n : Nat) : Int) := by decide +kernel
theorem pb_283 {n : Nat} (hn : n < 1024) {m : dc_M} {v : Int} {m' : dc_M} (h : D_283 ((n : Nat) : Int) m v m') : v = (pb_s 8 n : Nat) ∧ m' = m := ⟨h.1.trans (pb_283d n hn), h.2⟩
