def ae_eqv (v w : ae_V) : Bool := match v, w with
  | .inl (.inl a), .inl (.inl b) => Nat.beq a b
  | _, _ => false
theorem ae_eqv_ok {v w : ae_V} (h : ae_eqv v w = true) : ∃ n, v = ae_i n ∧ w = ae_i n := by
  match v, w, h with
  | .inl (.inl a), .inl (.inl b), h => exact ⟨a, rfl, by rw [show a = b from ae_beq h]; rfl⟩
  | .inl (.inl a), .inl (.inr b), h => cases h
  | .inl (.inl a), .inr b, h => cases h
  | .inl (.inr a), _, h => cases h
  | .inr a, _, h => cases h
noncomputable def ae_nk (a own this : Nat) (xs : List ae_V) (h : ae_H) : Bool := match ae_m a with
  | some N => and (Nat.beq N.1 own) (and (Nat.beq N.2.2.2.2.2.1 1) (and (Nat.blt N.2.2.2.2.2.2.2.1 14) (and (Nat.ble (Nat.add (Nat.add 19 N.2.2.2.1) N.2.2.2.2.2.2.2.2.1) 520) (and (Nat.beq N.2.2.2.2.2.2.2.2.2.1 0) (and (Nat.beq N.2.2.2.2.2.2.2.2.2.2 0) (and (Nat.beq N.2.2.2.2.2.2.1 xs.length) (and (Nat.ble (ae_catS (.inr (.inr (some this)) :: xs)) N.2.2.2.1) (ae_rcv 1 (.inr (.inr (some this)) :: xs) h own))))))))
  | none => false
noncomputable def ae_two (n a b : Nat) (xs : List ae_V) : Bool := and (ae_nk a 11 0 xs ae_s0) (match ae_exe n a 0 0 0 (ae_args (.inr (.inr (some 0)) :: xs) 0) [] ae_s0 with
  | some (some v, h1) => and (ae_nk b 12 114 xs h1) (match ae_exe n b 0 0 0 (ae_args (.inr (.inr (some 114)) :: xs) 0) [] h1 with
    | some (some w, _) => ae_eqv v w
    | _ => false)
  | _ => false)
theorem ae_two_ok {n a b : Nat} {xs : List ae_V} (h : ae_two n a b xs = true) : ae_nk a 11 0 xs ae_s0 = true ∧ ∃ (v : Nat) (h1 h2 : ae_H), ae_exe n a 0 0 0 (ae_args (.inr (.inr (some 0)) :: xs) 0) [] ae_s0 = some (some (ae_i v), h1) ∧ ae_nk b 12 114 xs h1 = true ∧ ae_exe n b 0 0 0 (ae_args (.inr (.inr (some 114)) :: xs) 0) [] h1 = some (some (ae_i v), h2) := by
  unfold ae_two at h
  obtain ⟨q1, h⟩ := ae_band h
  refine ⟨q1, ?_⟩
  split at h
  · next v h1 e1 =>
    obtain ⟨q2, h⟩ := ae_band h
    split at h
    · next w h2 e2 =>
      obtain ⟨z, rfl, rfl⟩ := ae_eqv_ok h
      exact ⟨z, h1, h2, e1, q2, e2⟩
    · cases h
  · cases h
