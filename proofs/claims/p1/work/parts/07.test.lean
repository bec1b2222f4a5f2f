def ae_eqv (v w : ae_V) : Bool := match v, w with
  | .inl (.inl a), .inl (.inl b) => Nat.beq a b
  | _, _ => false
noncomputable def ae_two (n a b : Nat) (xs : List ae_V) (h : ae_H) : Bool := match ae_exe n a 0 0 0 (ae_args (.inr (.inr (some 0)) :: xs) 0) [] h with
  | some (some v, h1) => (match ae_exe n b 0 0 0 (ae_args (.inr (.inr (some 114)) :: xs) 0) [] h1 with
    | some (some w, _) => ae_eqv v w
    | _ => false)
  | _ => false
theorem ae_tryA : ae_two 50000 152 226 [ae_i 0, ae_i 1] ae_s0 = true := by decide +kernel
theorem i_vc : Claimed_1_1 ∧ Claimed_1_2 := sorry
