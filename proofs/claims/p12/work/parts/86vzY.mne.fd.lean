/-! bits of a long: the folding, bytes -/
theorem pb_fold {x : Nat} : ∃ z1 z2 z3 : Nat, z1 = pb_m pl_cn 8 x + pb_m pl_cn 8 x / 256 ∧ z1 < 18446744073709551616 ∧ z2 = z1 + z1 / 65536 ∧ z2 < 18446744073709551616 ∧ z3 = z2 + z2 / 4294967296 ∧ z3 < 18446744073709551616 ∧ z3 % 256 = pb_s 8 x ∧ pb_s 8 x ≤ 64 := by
  have w : ∀ b, pl_cn (b % 256) ≤ 8 := fun b => (pb_d3 (b % 256) (Nat.mod_lt _ (by decide))).2.2.2
  have es : pb_s 8 x = 0 + pl_cn (x / 256 / 256 / 256 / 256 / 256 / 256 / 256 % 256) + pl_cn (x / 256 / 256 / 256 / 256 / 256 / 256 % 256) + pl_cn (x / 256 / 256 / 256 / 256 / 256 % 256) + pl_cn (x / 256 / 256 / 256 / 256 % 256) + pl_cn (x / 256 / 256 / 256 % 256) + pl_cn (x / 256 / 256 % 256) + pl_cn (x / 256 % 256) + pl_cn (x % 256) := rfl
  have em : pb_m pl_cn 8 x = pb_N (pl_cn (x % 256)) (pl_cn (x / 256 % 256)) (pl_cn (x / 256 / 256 % 256)) (pl_cn (x / 256 / 256 / 256 % 256)) (pl_cn (x / 256 / 256 / 256 / 256 % 256)) (pl_cn (x / 256 / 256 / 256 / 256 / 256 % 256)) (pl_cn (x / 256 / 256 / 256 / 256 / 256 / 256 % 256)) (pl_cn (x / 256 / 256 / 256 / 256 / 256 / 256 / 256 % 256)) := by
    unfold pb_N
    rw [← Nat.zero_add (pl_cn (x / 256 / 256 / 256 / 256 / 256 / 256 / 256 % 256)), ← Nat.mul_zero 256]
    rfl
  have h0 := w x
  have h1 := w (x / 256)
  have h2 := w (x / 256 / 256)
  have h3 := w (x / 256 / 256 / 256)
  have h4 := w (x / 256 / 256 / 256 / 256)
  have h5 := w (x / 256 / 256 / 256 / 256 / 256)
  have h6 := w (x / 256 / 256 / 256 / 256 / 256 / 256)
  have h7 := w (x / 256 / 256 / 256 / 256 / 256 / 256 / 256)
  obtain ⟨z1, z2, z3, q1, q2, q3, q4, q5, q6, q7⟩ := pb_fo _ _ _ _ _ _ _ _ h0 h1 h2 h3 h4 h5 h6 h7 (pb_m pl_cn 8 x) em
  refine ⟨z1, z2, z3, q1, q2, q3, q4, q5, q6, q7.trans ?_, ?_⟩
  · rw [es]
    clear q1 q2 q3 q4 q5 q6 q7 es em h0 h1 h2 h3 h4 h5 h6 h7 w
    omega
  · rw [es]
    clear q1 q2 q3 q4 q5 q6 q7 es em w
    omega
