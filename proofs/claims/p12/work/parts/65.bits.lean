/-! THE REFERENCE COUNTS BITS (wip/p2/hand/g65.py) -/
abbrev wk_l (v : Nat) : ae_V := .inr (.inl v)
section
variable {Q : ae_R → Prop} {mi pc : Nat} {M : ae_M} {lv : ae_L} {st : List ae_V} {h : ae_H} {v u : Nat}
theorem wk_lload_n {k : Fin 4} (hM : ae_m mi = some M) (hd : decode M.2.2.1 pc = .ok (.lload_n k, 1)) (hv : ae_lk lv k.val = some (wk_l v)) (g : sv_G Q mi (pc + 1) lv (wk_l v :: st) h) : sv_G Q mi pc lv st h :=
  sv_G_step hM hd rfl (fun K C => by
    show ae_lload lv k.val (fun v => K (Nat.add pc 1) 0 0 lv (v :: st) h) = _
    unfold ae_lload; rw [hv]) g
theorem wk_lstore_n {k : Fin 4} (hM : ae_m mi = some M) (hd : decode M.2.2.1 pc = .ok (.lstore_n k, 1)) (hk : Nat.blt k.val M.2.2.2.1 = true) (hk2 : Nat.blt (Nat.succ k.val) M.2.2.2.1 = true) (g : sv_G Q mi (pc + 1) (ae_st2 lv k.val (wk_l v)) st h) : sv_G Q mi pc lv (wk_l v :: st) h :=
  sv_G_step hM hd rfl (fun K C => by
    show ae_store 2 M.2.2.2.1 k.val lv (wk_l v :: st) (fun lv st => K (Nat.add pc 1) 0 0 lv st h) = _
    unfold ae_store; rw [hk]
    show cond (Nat.beq 2 2) (cond (Nat.blt (Nat.succ k.val) M.2.2.2.1) _ none) none = _
    rw [hk2]; rfl) g
theorem wk_lconst {n : Fin 2} (hM : ae_m mi = some M) (hd : decode M.2.2.1 pc = .ok (.lconst n, 1)) (g : sv_G Q mi (pc + 1) lv (wk_l n.val :: st) h) : sv_G Q mi pc lv st h :=
  sv_G_step hM hd rfl (fun K C => rfl) g
theorem wk_lcmp0 (hM : ae_m mi = some M) (hd : decode M.2.2.1 pc = .ok (.lcmp, 1)) (hv : v < 18446744073709551616) (g : ∀ x : Int, (x = 0 ↔ v = 0) → (-1 ≤ x ∧ x ≤ 1) → sv_G Q mi (pc + 1) lv (wk_i x :: st) h) : sv_G Q mi pc lv (wk_l 0 :: wk_l v :: st) h := by
  have e : ∃ x : Int, ae_lcmp v 0 = sv_u x ∧ (x = 0 ↔ v = 0) ∧ (-1 ≤ x ∧ x ≤ 1) := by
    unfold ae_lcmp ae_lbs
    cases hb : Nat.beq (Nat.mod (Nat.add v 9223372036854775808) 18446744073709551616) (Nat.mod (Nat.add 0 9223372036854775808) 18446744073709551616) with
    | true =>
      have hb : (v + 9223372036854775808) % 18446744073709551616 = (0 + 9223372036854775808) % 18446744073709551616 := Nat.eq_of_beq_eq_true hb
      exact ⟨0, rfl, by constructor <;> intro <;> omega, by omega⟩
    | false =>
      have hne : v ≠ 0 := fun z => by subst z; cases hb
      rw [cond_false]
      cases Nat.ble (Nat.mod (Nat.add v 9223372036854775808) 18446744073709551616) (Nat.mod (Nat.add 0 9223372036854775808) 18446744073709551616) with
      | true => exact ⟨-1, rfl, by constructor <;> intro <;> omega, by omega⟩
      | false => exact ⟨1, rfl, by constructor <;> intro <;> omega, by omega⟩
  obtain ⟨x, e1, e2, e3⟩ := e
  refine sv_G_step hM hd rfl (fun K C => ?_) (g x e2 e3)
  show ae_f (ae_lcmp v 0) (fun z => K (Nat.add pc 1) 0 0 lv (ae_i z :: st) h) = _
  rw [ae_f_eq, e1]; rfl
theorem wk_lsub1 (hM : ae_m mi = some M) (hd : decode M.2.2.1 pc = .ok (.lsub, 1)) (hv : 0 < v ∧ v < 18446744073709551616) (g : sv_G Q mi (pc + 1) lv (wk_l (v - 1) :: st) h) : sv_G Q mi pc lv (wk_l 1 :: wk_l v :: st) h :=
  sv_G_step hM hd rfl (fun K C => by
    show ae_f (ae_lsub v 1) (fun z => K (Nat.add pc 1) 0 0 lv (ae_j z :: st) h) = _
    have e : ae_lsub v 1 = v - 1 := by
      show (v + (18446744073709551616 - 1)) % 18446744073709551616 = v - 1
      omega
    rw [ae_f_eq, e]; rfl) g
theorem wk_land (hM : ae_m mi = some M) (hd : decode M.2.2.1 pc = .ok (.land, 1)) (g : sv_G Q mi (pc + 1) lv (wk_l (v &&& u) :: st) h) : sv_G Q mi pc lv (wk_l u :: wk_l v :: st) h :=
  sv_G_step hM hd rfl (fun K C => by
    show ae_f (v &&& u) (fun z => K (Nat.add pc 1) 0 0 lv (ae_j z :: st) h) = _
    rw [ae_f_eq]; rfl) g
theorem wk_i2l {x : Int} (hM : ae_m mi = some M) (hd : decode M.2.2.1 pc = .ok (.i2l, 1)) (hx : 0 ≤ x ∧ x < 2147483648) (g : sv_G Q mi (pc + 1) lv (wk_l x.toNat :: st) h) : sv_G Q mi pc lv (wk_i x :: st) h :=
  sv_G_step hM hd rfl (fun K C => by
    have ex : sv_u x = x.toNat := sv_u_nn hx.1 (by omega)
    have hb : Nat.ble 2147483648 (sv_u x) = false := by
      cases hb : Nat.ble 2147483648 (sv_u x) with
      | false => rfl
      | true => have := Nat.le_of_ble_eq_true hb; omega
    show ae_f (ae_i2l (sv_u x)) (fun z => K (Nat.add pc 1) 0 0 lv (ae_j z :: st) h) = _
    rw [ae_f_eq]
    unfold ae_i2l
    rw [hb, cond_false, ex]; rfl) g
end
/-- a number of n zeros below loses its lowest one -/
theorem wk_low {v n : Nat} (hv : v ≠ 0) (hd : 2 ^ n ∣ v) : 2 ^ (n + 1) ∣ (v &&& (v - 1)) := by
  obtain ⟨w, rfl⟩ := hd
  have hp : 0 < 2 ^ n := Nat.two_pow_pos n
  have hs : 2 ^ (n + 1) = 2 * 2 ^ n := by rw [Nat.pow_succ]; omega
  refine Nat.dvd_of_mod_eq_zero ?_
  rw [Nat.and_mod_two_pow]
  rcases Nat.mod_two_eq_zero_or_one w with e | e
  · have : 2 ^ n * w % 2 ^ (n + 1) = 0 := by
      obtain ⟨k, rfl⟩ : ∃ k, w = 2 * k := ⟨w / 2, by omega⟩
      rw [show 2 ^ n * (2 * k) = 2 ^ (n + 1) * k by rw [hs, Nat.mul_comm 2 (2 ^ n), Nat.mul_assoc]]
      exact Nat.mul_mod_right _ _
    rw [this, Nat.zero_and]
  · obtain ⟨k, rfl⟩ : ∃ k, w = 2 * k + 1 := ⟨w / 2, by omega⟩
    have e1 : 2 ^ n * (2 * k + 1) = 2 ^ n + 2 ^ (n + 1) * k := by rw [hs, Nat.mul_add, Nat.mul_one, Nat.mul_comm 2 (2 ^ n), Nat.mul_assoc]; omega
    have e2 : 2 ^ n * (2 * k + 1) % 2 ^ (n + 1) = 2 ^ n := by rw [e1, Nat.add_mul_mod_self_left, Nat.mod_eq_of_lt (by omega)]
    have e3 : (2 ^ n * (2 * k + 1) - 1) % 2 ^ (n + 1) = 2 ^ n - 1 := by
      rw [e1, show 2 ^ n + 2 ^ (n + 1) * k - 1 = (2 ^ n - 1) + 2 ^ (n + 1) * k by omega, Nat.add_mul_mod_self_left, Nat.mod_eq_of_lt (by omega)]
    rw [e2, e3, Nat.and_two_pow_sub_one_eq_mod, Nat.mod_self]
def wk_bl : Nat → Nat → Nat
  | 0, _ => 0
  | f + 1, v => if v = 0 then 0 else wk_bl f (v &&& (v - 1)) + 1
theorem wk_bl_le : ∀ f v, wk_bl f v ≤ f
  | 0, _ => Nat.le_refl 0
  | f + 1, v => by
    show (if v = 0 then 0 else wk_bl f (v &&& (v - 1)) + 1) ≤ f + 1
    split
    · omega
    · have := wk_bl_le f (v &&& (v - 1)); omega

theorem wb_4 {Q : ae_R → Prop} {h : ae_H} : ∀ (d : Nat) (lv : ae_L) (v j : Nat), (ae_lk lv 2 = some (wk_i (j : Int))) → (ae_lk lv 3 = some (wk_l v)) → (v < 18446744073709551616) → (2 ^ j ∣ v) → (j + d = 64) → Q (some (wk_i ((j : Int) + (wk_bl d v : Nat))), h) → sv_G Q 232 4 lv [] h := by
  intro d
  induction d with
  | zero =>
    intro lv v j l2 l3 hv hj hd g
    refine wk_lload_n wm_232 wd_232_4 l3 ?_
    refine wk_lconst wm_232 wd_232_5 ?_
    refine wk_lcmp0 wm_232 wd_232_6 hv (fun x x1 x2 => ?_)
    refine wk_if 22 wm_232 wd_232_7 (by decide) (by unfold sv_I; omega) (fun c => ?_) (fun c => ?_)
    · have c : x = 0 := c
      refine wk_iload_n wm_232 wd_232_22 l2 ?_
      refine wk_ireturn wm_232 wd_232_23 rfl ?_
      have e : v = 0 := x1.mp c
      rw [e] at g
      exact g
    · have c : ¬ x = 0 := c
      exfalso
      have hv0 : v ≠ 0 := fun z => c (x1.mpr z)
      have := Nat.le_of_dvd (by omega) hj
      rw [show j = 64 by omega] at this
      omega
  | succ d ih =>
    intro lv v j l2 l3 hv hj hd g
    refine wk_lload_n wm_232 wd_232_4 l3 ?_
    refine wk_lconst wm_232 wd_232_5 ?_
    refine wk_lcmp0 wm_232 wd_232_6 hv (fun x x1 x2 => ?_)
    refine wk_if 22 wm_232 wd_232_7 (by decide) (by unfold sv_I; omega) (fun c => ?_) (fun c => ?_)
    · have c : x = 0 := c
      refine wk_iload_n wm_232 wd_232_22 l2 ?_
      refine wk_ireturn wm_232 wd_232_23 rfl ?_
      have e : v = 0 := x1.mp c
      rw [e] at g
      have e2 : wk_bl (d + 1) 0 = 0 := rfl
      rw [e2] at g
      exact g
    · have c : ¬ x = 0 := c
      have hv0 : v ≠ 0 := fun z => c (x1.mpr z)
      refine wk_iinc wm_232 wd_232_10 (by decide +kernel) (by decide) l2 (fun lv1 s1 => ?_)
      have l3a := s1.2 3 _ l3 (by decide) (Or.inr (by decide))
      have l2a := s1.1
      refine wk_lload_n wm_232 wd_232_13 l3a ?_
      refine wk_lload_n wm_232 wd_232_14 l3a ?_
      refine wk_lconst wm_232 wd_232_15 ?_
      refine wk_lsub1 wm_232 wd_232_16 ⟨by omega, hv⟩ ?_
      refine wk_land wm_232 wd_232_17 ?_
      refine wk_lstore_n wm_232 wd_232_18 (by decide +kernel) (by decide +kernel) ?_
      refine wk_goto 4 wm_232 wd_232_19 (by decide) ?_
      have q := wk_st2 (lv := lv1) (k := 3) (v := wk_l (v &&& (v - 1)))
      have hle : v &&& (v - 1) ≤ v := Nat.and_le_left
      refine ih _ (v &&& (v - 1)) (j + 1) (q.2 2 _ l2a (by decide) (by decide) (Or.inl rfl)) q.1 (by omega) (wk_low hv0 hj) (by omega) ?_
      have e2 : wk_bl (d + 1) v = wk_bl d (v &&& (v - 1)) + 1 := by show (if v = 0 then 0 else wk_bl d (v &&& (v - 1)) + 1) = _; rw [if_neg hv0]
      rw [e2] at g
      rw [show ((j + 1 : Nat) : Int) + (wk_bl d (v &&& (v - 1)) : Nat) = (j : Int) + ((wk_bl d (v &&& (v - 1)) + 1 : Nat) : Int) by omega]
      exact g
theorem wb_bits {Q : ae_R → Prop} {h : ae_H} {lv : ae_L} {v : Nat} (l0 : ae_lk lv 0 = some (wk_l v)) (hv : v < 18446744073709551616) (g : Q (some (wk_i ((wk_bl 64 v : Nat) : Int)), h)) : sv_G Q 232 0 lv [] h := by
  refine wk_iconst wm_232 wd_232_0 (by decide) ?_
  refine wk_istore_n wm_232 wd_232_1 (by decide +kernel) (fun lv1 s1 => ?_)
  have l0a := s1.2 0 _ l0 (by decide) (Or.inr (by decide))
  have l2 := s1.1
  refine wk_lload_n wm_232 wd_232_2 l0a ?_
  refine wk_lstore_n wm_232 wd_232_3 (by decide +kernel) (by decide +kernel) ?_
  have q := wk_st2 (lv := lv1) (k := 3) (v := wk_l v)
  refine wb_4 64 _ v 0 (q.2 2 _ l2 (by decide) (by decide) (Or.inl rfl)) q.1 hv ⟨v, by omega⟩ (by omega) ?_
  rw [show ((0 : Nat) : Int) + ((wk_bl 64 v : Nat) : Int) = ((wk_bl 64 v : Nat) : Int) by omega]
  exact g
