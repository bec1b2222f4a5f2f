/-! ROWS OF LONGS, read backwards -/
section
variable {r : ae_R} {n mi pc : Nat} {M : ae_M} {lv : ae_L} {st : List ae_V} {h : ae_H} {x : Int} {k t len : Nat} {z : List (Nat × Nat)}
theorem dc_a2 (hk : dc_ok h) (ht : sv_ty k = some t) (hT : dc_tt[t]? = some (2, 3, len, z)) : ∃ A, ae_hg h k = some (.inl (3, len, .inl A)) := by
  obtain ⟨S, e, hs⟩ := hk k t ht
  rw [hT] at e
  cases e
  exact hs
theorem dc_rl {A : Nat} (hg : ae_hg h k = some (.inl (3, len, .inl A))) {i : Int} (hi : 0 ≤ i) : dc_m h k i = ((ae_rd 64 A i.toNat : Nat) : Int) := by
  show (if i < 0 then 0 else dc_c (ae_hg h k) i.toNat) = _
  rw [if_neg (by omega), hg]
  rfl
theorem dc_set_l {A : Nat} {i : Int} {v : Nat} (hk : dc_ok h) (ht : sv_ty k = some t) (hT : dc_tt[t]? = some (2, 3, len, z)) (g1 : ae_hg h k = some (.inl (3, len, .inl A))) (hi : 0 ≤ i) (hv : v < 18446744073709551616) : dc_ok (ae_hs h k (.inl (3, len, .inl (ae_wr 64 A i.toNat v)))) ∧ dc_m (ae_hs h k (.inl (3, len, .inl (ae_wr 64 A i.toNat v)))) = dc_up (dc_m h) k i (v : Int) := by
  have h256 : k < 256 := sv_ty_lt k t ht
  refine ⟨fun k2 t2 ht2 => ?_, ?_⟩
  · by_cases e : k2 = k
    · subst e
      rw [ht] at ht2
      cases ht2
      exact ⟨_, hT, _, wk_hg_s h256⟩
    · obtain ⟨S, e1, e2⟩ := hk k2 t2 ht2
      refine ⟨S, e1, ?_⟩
      unfold dc_sh at e2 ⊢
      rw [wk_hg_o h256 e]
      exact e2
  · funext k2 i2
    by_cases e : k2 = k
    · subst e
      by_cases hi2 : i2 < 0
      · rw [dc_m_neg hi2, dc_up_i (by omega), dc_m_neg hi2]
      · rw [dc_rl (wk_hg_s h256) (by omega), ae_rd_wr (show v < 2 ^ 64 from hv)]
        by_cases ei : i2 = i
        · rw [if_pos (by rw [ei]), ei, dc_up_s]
        · rw [if_neg (by omega), dc_up_i ei, dc_rl g1 (by omega)]
    · rw [dc_up_k e]
      unfold dc_m
      rw [wk_hg_o h256 e]
theorem iv_lald (hM : ae_m mi = some M) (hd : decode M.2.2.1 pc = .ok (.laload, 1)) (hk : dc_ok h) (ht : sv_ty k = some t) (hT : dc_tt[t]? = some (2, 3, len, z)) (hl : len < 2147483648) (hx : sv_I x) (hr : ae_exe n mi pc 0 0 lv (wk_i x :: wk_r k :: st) h = some r) : (0 ≤ x ∧ x < len) ∧ (dc_m h k x).toNat < 18446744073709551616 ∧ ∃ n', n = n' + 1 ∧ ae_exe n' mi (pc + 1) 0 0 lv (wk_l (dc_m h k x).toNat :: st) h = some r := by
  obtain ⟨A, g1⟩ := dc_a2 hk ht hT
  by_cases hi : 0 ≤ x ∧ x < len
  · have ex : sv_u x = x.toNat := sv_u_nn hi.1 (by omega)
    refine ⟨hi, ?_, iv_eq hM hd rfl (fun K C => ?_) hr⟩
    · rw [dc_rl g1 hi.1, Int.toNat_natCast]
      exact ae_rd_lt 64 A x.toNat
    · show ae_ald 3 (.inl (.inl (sv_u x)) :: .inr (.inr (some k)) :: st) h (fun st => K (Nat.add pc 1) 0 0 lv st h) = K (pc + 1) 0 0 lv (.inr (.inl (dc_m h k x).toNat) :: st) h
      unfold ae_ald; dsimp only
      rw [g1, ex, dc_rl g1 hi.1, Int.toNat_natCast]
      show cond (and (ae_tq 3 3) (ae_in (.inl x.toNat) len)) (ae_f (ae_rd 64 A x.toNat) fun z => K (Nat.add pc 1) 0 0 lv (ae_j z :: st) h) none = _
      rw [sv_in_i (show x.toNat < len by omega) hl, ae_f_eq]; rfl
  · exfalso
    obtain ⟨m, -, hr⟩ := iv0 hM hd rfl hr
    have hr : ae_ald 3 (wk_i x :: wk_r k :: st) h (fun st => ae_f (Nat.add pc 1) fun pc => ae_exe m mi pc 0 0 lv st h) = some r := hr
    unfold ae_ald at hr
    dsimp only at hr
    rw [g1] at hr
    dsimp only at hr
    rw [dc_in_f hx hl hi, Bool.and_false, cond_false] at hr
    cases hr
theorem iv_last {v : Nat} (hM : ae_m mi = some M) (hd : decode M.2.2.1 pc = .ok (.lastore, 1)) (hk : dc_ok h) (ht : sv_ty k = some t) (hT : dc_tt[t]? = some (2, 3, len, z)) (hl : len < 2147483648) (hx : sv_I x) (hv : v < 18446744073709551616) (hr : ae_exe n mi pc 0 0 lv (wk_l v :: wk_i x :: wk_r k :: st) h = some r) : (0 ≤ x ∧ x < len) ∧ ∃ h', dc_ok h' ∧ dc_m h' = dc_up (dc_m h) k x ((v : Nat) : Int) ∧ ∃ n', n = n' + 1 ∧ ae_exe n' mi (pc + 1) 0 0 lv st h' = some r := by
  obtain ⟨A, g1⟩ := dc_a2 hk ht hT
  by_cases hi : 0 ≤ x ∧ x < len
  · have ex : sv_u x = x.toNat := sv_u_nn hi.1 (by omega)
    obtain ⟨q1, q2⟩ := dc_set_l (i := x) hk ht hT g1 hi.1 hv
    refine ⟨hi, _, q1, q2, iv_eq hM hd rfl (fun K C => ?_) hr⟩
    show ae_last (.inr (.inl v) :: .inl (.inl (sv_u x)) :: .inr (.inr (some k)) :: st) h (fun st h => K (Nat.add pc 1) 0 0 lv st h) = _
    unfold ae_last; dsimp only
    rw [g1, ex]
    show cond (and (Nat.beq 3 3) (ae_in (.inl x.toNat) len)) (ae_f (ae_wr 64 A x.toNat v) fun B => K (Nat.add pc 1) 0 0 lv st (ae_hs h k (.inl (3, len, .inl B)))) none = _
    rw [sv_in_i (show x.toNat < len by omega) hl, ae_f_eq]; rfl
  · exfalso
    obtain ⟨m, -, hr⟩ := iv0 hM hd rfl hr
    have hr : ae_last (wk_l v :: wk_i x :: wk_r k :: st) h (fun st h => ae_f (Nat.add pc 1) fun pc => ae_exe m mi pc 0 0 lv st h) = some r := hr
    unfold ae_last at hr
    dsimp only at hr
    rw [g1] at hr
    dsimp only at hr
    rw [dc_in_f hx hl hi, Bool.and_false, cond_false] at hr
    cases hr
end
/-! FURTHER INSTRUCTIONS, read backwards (printed by wip/p21/gmore2.py) -/
/-- quotient and rest as Java takes them -/
def dc_div (x y : Int) : Int := if 0 ≤ x then x / y else -((-x) / y)
def dc_rem (x y : Int) : Int := if 0 ≤ x then x % y else -((-x) % y)
theorem dc_div_u {x y : Int} (hx : sv_I x) (hy : 0 < y ∧ y < 2147483648) : ae_idiv (sv_u x) (sv_u y) = sv_u (dc_div x y) ∧ ae_irem (sv_u x) (sv_u y) = sv_u (dc_rem x y) ∧ sv_I (dc_div x y) ∧ sv_I (dc_rem x y) := by
  have hxx := hx
  unfold sv_I at hxx
  obtain ⟨b, rfl⟩ : ∃ b : Nat, y = b := ⟨y.toNat, by omega⟩
  have eb : sv_u (b : Int) = b := sv_u_nat (by omega)
  unfold ae_idiv ae_irem dc_div dc_rem
  rw [eb]
  by_cases h0 : 0 ≤ x
  · obtain ⟨a, rfl⟩ : ∃ a : Nat, x = a := ⟨x.toNat, by omega⟩
    have ea : sv_u (a : Int) = a := sv_u_nat (by omega)
    have hb : Nat.ble 2147483648 a = false := by
      cases hb : Nat.ble 2147483648 a with
      | false => rfl
      | true => have := Nat.le_of_ble_eq_true hb; omega
    have q1 : a / b ≤ a := Nat.div_le_self _ _
    have q2 : a % b ≤ a := Nat.mod_le _ _
    rw [ea, hb, if_pos h0, if_pos h0, ← Int.natCast_ediv, ← Int.natCast_emod]
    rw [sv_u_nat (show a / b < 4294967296 by omega), sv_u_nat (show a % b < 4294967296 by omega)]
    refine ⟨rfl, rfl, ?_, ?_⟩
    · generalize a / b = Q at q1 ⊢; unfold sv_I; omega
    · generalize a % b = R at q2 ⊢; unfold sv_I; omega
  · obtain ⟨a, ha⟩ : ∃ a : Nat, -x = a := ⟨(-x).toNat, by omega⟩
    have hux := sv_uc x
    have ea : 4294967296 - sv_u x = a := by omega
    have hb : Nat.ble 2147483648 (sv_u x) = true := Nat.ble_eq_true_of_le (by omega)
    have q1 : a / b ≤ a := Nat.div_le_self _ _
    have q2 : a % b ≤ a := Nat.mod_le _ _
    have e1 : cond (Nat.ble 2147483648 (sv_u x)) (Nat.mod (Nat.sub 4294967296 (Nat.div (Nat.sub 4294967296 (sv_u x)) b)) 4294967296) (Nat.div (sv_u x) b) = (4294967296 - a / b) % 4294967296 := by
      rw [hb, cond_true]
      show (4294967296 - (4294967296 - sv_u x) / b) % 4294967296 = _
      rw [ea]
    have e2 : cond (Nat.ble 2147483648 (sv_u x)) (Nat.mod (Nat.sub 4294967296 (Nat.mod (Nat.sub 4294967296 (sv_u x)) b)) 4294967296) (Nat.mod (sv_u x) b) = (4294967296 - a % b) % 4294967296 := by
      rw [hb, cond_true]
      show (4294967296 - (4294967296 - sv_u x) % b) % 4294967296 = _
      rw [ea]
    rw [e1, e2, if_neg h0, if_neg h0, ha, ← Int.natCast_ediv, ← Int.natCast_emod]
    generalize a / b = Q at q1
    generalize a % b = R at q2
    have u1 := sv_uc (-(Q : Int))
    have u2 := sv_uc (-(R : Int))
    clear e1 e2 hb
    refine ⟨by omega, by omega, ?_, ?_⟩ <;> unfold sv_I <;> omega
/-- a truth as a number -/
def dc_z (x : Int) : Int := sv_g (Nat.mod (sv_u x) 2)
theorem dc_z_lt (x : Int) : Nat.mod (sv_u x) 2 < 4294967296 := Nat.lt_of_lt_of_le (Nat.mod_lt _ (by decide)) (by decide)
theorem dc_z_I (x : Int) : sv_I (dc_z x) := sv_g_I (dc_z_lt x)
theorem dc_z_eq {x : Int} (h : x = 0 ∨ x = 1) : dc_z x = x := by
  rcases h with e | e <;> subst e <;> decide
/-- a row filled -/
def dc_fill (m : dc_M) (k : Nat) (len v : Int) : dc_M := fun k' i' => if k' = k ∧ 0 ≤ i' ∧ i' < len then v else m k' i'
/-- a long in two places -/
def wk_s2 (lv : ae_L) (k : Nat) (v : ae_V) (lv' : ae_L) : Prop := ae_lk lv' k = some v ∧ ∀ (j : Nat) (c : ae_V), ae_lk lv j = some c → j ≠ k → j ≠ k + 1 → (ae_cat c = 1 ∨ j + 1 ≠ k) → ae_lk lv' j = some c
section
variable {r : ae_R} {n mi pc : Nat} {M : ae_M} {lv : ae_L} {st : List ae_V} {h : ae_H} {x y : Int}
theorem iv_idiv (hM : ae_m mi = some M) (hd : decode M.2.2.1 pc = .ok (.idiv, 1)) (hx : sv_I x) (hy : sv_I y) (hr : ae_exe n mi pc 0 0 lv (wk_i y :: wk_i x :: st) h = some r) : 0 < y ∧ sv_I (dc_div x y) ∧ ∃ n', n = n' + 1 ∧ ae_exe n' mi (pc + 1) 0 0 lv (wk_i (dc_div x y) :: st) h = some r := by
  have hy2 := hy
  unfold sv_I at hy2
  have hu := sv_uc y
  by_cases h0 : 0 < y
  · refine ⟨h0, (dc_div_u hx ⟨h0, hy2.2⟩).2.2.1, iv_eq hM hd rfl (fun K C => ?_) hr⟩
    show cond (and (Nat.blt 0 (sv_u y)) (Nat.blt (sv_u y) 2147483648)) (ae_f (ae_idiv (sv_u x) (sv_u y)) fun z => K (Nat.add pc 1) 0 0 lv (ae_i z :: st) h) none = _
    rw [show Nat.blt 0 (sv_u y) = true from Nat.ble_eq_true_of_le (by omega), show Nat.blt (sv_u y) 2147483648 = true from Nat.ble_eq_true_of_le (by omega), Bool.and_self, cond_true, ae_f_eq, (dc_div_u hx ⟨h0, hy2.2⟩).1]
    rfl
  · exfalso
    obtain ⟨m, -, hr⟩ := iv0 hM hd rfl hr
    have hr : cond (and (Nat.blt 0 (sv_u y)) (Nat.blt (sv_u y) 2147483648)) (ae_f (ae_idiv (sv_u x) (sv_u y)) fun z => ae_f (Nat.add pc 1) fun pc => ae_exe m mi pc 0 0 lv (ae_i z :: st) h) none = some r := hr
    obtain ⟨hb, -⟩ := ae_cond hr
    obtain ⟨b1, b2⟩ := ae_band hb
    have b1 := ae_blt b1
    have b2 := ae_blt b2
    omega
theorem iv_irem (hM : ae_m mi = some M) (hd : decode M.2.2.1 pc = .ok (.irem, 1)) (hx : sv_I x) (hy : sv_I y) (hr : ae_exe n mi pc 0 0 lv (wk_i y :: wk_i x :: st) h = some r) : 0 < y ∧ sv_I (dc_rem x y) ∧ ∃ n', n = n' + 1 ∧ ae_exe n' mi (pc + 1) 0 0 lv (wk_i (dc_rem x y) :: st) h = some r := by
  have hy2 := hy
  unfold sv_I at hy2
  have hu := sv_uc y
  by_cases h0 : 0 < y
  · refine ⟨h0, (dc_div_u hx ⟨h0, hy2.2⟩).2.2.2, iv_eq hM hd rfl (fun K C => ?_) hr⟩
    show cond (and (Nat.blt 0 (sv_u y)) (Nat.blt (sv_u y) 2147483648)) (ae_f (ae_irem (sv_u x) (sv_u y)) fun z => K (Nat.add pc 1) 0 0 lv (ae_i z :: st) h) none = _
    rw [show Nat.blt 0 (sv_u y) = true from Nat.ble_eq_true_of_le (by omega), show Nat.blt (sv_u y) 2147483648 = true from Nat.ble_eq_true_of_le (by omega), Bool.and_self, cond_true, ae_f_eq, (dc_div_u hx ⟨h0, hy2.2⟩).2.1]
    rfl
  · exfalso
    obtain ⟨m, -, hr⟩ := iv0 hM hd rfl hr
    have hr : cond (and (Nat.blt 0 (sv_u y)) (Nat.blt (sv_u y) 2147483648)) (ae_f (ae_irem (sv_u x) (sv_u y)) fun z => ae_f (Nat.add pc 1) fun pc => ae_exe m mi pc 0 0 lv (ae_i z :: st) h) none = some r := hr
    obtain ⟨hb, -⟩ := ae_cond hr
    obtain ⟨b1, b2⟩ := ae_band hb
    have b1 := ae_blt b1
    have b2 := ae_blt b2
    omega
theorem iv_aload {k : Nat} {v : Option Nat} (hM : ae_m mi = some M) (hd : decode M.2.2.1 pc = .ok (.aload k, 2)) (hv : ae_lk lv k = some (.inr (.inr v))) (hr : ae_exe n mi pc 0 0 lv st h = some r) : ∃ n', n = n' + 1 ∧ ae_exe n' mi (pc + 2) 0 0 lv (.inr (.inr v) :: st) h = some r :=
  iv_eq hM hd rfl (fun K C => by
    show ae_aload lv k (fun v => K (Nat.add pc 2) 0 0 lv (v :: st) h) = _
    unfold ae_aload; rw [hv]) hr
theorem iv_lload {k v : Nat} (hM : ae_m mi = some M) (hd : decode M.2.2.1 pc = .ok (.lload k, 2)) (hv : ae_lk lv k = some (wk_l v)) (hr : ae_exe n mi pc 0 0 lv st h = some r) : ∃ n', n = n' + 1 ∧ ae_exe n' mi (pc + 2) 0 0 lv (wk_l v :: st) h = some r :=
  iv_eq hM hd rfl (fun K C => by
    show ae_lload lv k (fun v => K (Nat.add pc 2) 0 0 lv (v :: st) h) = _
    unfold ae_lload; rw [hv]) hr
theorem iv_lstore_n {k : Fin 4} {v : Nat} (hM : ae_m mi = some M) (hd : decode M.2.2.1 pc = .ok (.lstore_n k, 1)) (hk : and (Nat.blt k.val M.2.2.2.1) (Nat.blt (Nat.succ k.val) M.2.2.2.1) = true) (hr : ae_exe n mi pc 0 0 lv (wk_l v :: st) h = some r) : ∃ lv', wk_s2 lv k.val (wk_l v) lv' ∧ ∃ n', n = n' + 1 ∧ ae_exe n' mi (pc + 1) 0 0 lv' st h = some r := by
  obtain ⟨h1, h2⟩ := ae_band hk
  exact ⟨ae_st2 lv k.val (wk_l v), wk_st2, iv_eq hM hd rfl (fun K C => by
    show ae_store 2 M.2.2.2.1 k.val lv (wk_l v :: st) (fun lv st => K (Nat.add pc 1) 0 0 lv st h) = _
    unfold ae_store; rw [h1]
    show cond (Nat.beq 2 2) (cond (Nat.blt (Nat.succ k.val) M.2.2.2.1) _ none) none = _
    rw [h2]; rfl) hr⟩
theorem iv_lstore {k v : Nat} (hM : ae_m mi = some M) (hd : decode M.2.2.1 pc = .ok (.lstore k, 2)) (hk : and (Nat.blt k M.2.2.2.1) (Nat.blt (Nat.succ k) M.2.2.2.1) = true) (hr : ae_exe n mi pc 0 0 lv (wk_l v :: st) h = some r) : ∃ lv', wk_s2 lv k (wk_l v) lv' ∧ ∃ n', n = n' + 1 ∧ ae_exe n' mi (pc + 2) 0 0 lv' st h = some r := by
  obtain ⟨h1, h2⟩ := ae_band hk
  exact ⟨ae_st2 lv k (wk_l v), wk_st2, iv_eq hM hd rfl (fun K C => by
    show ae_store 2 M.2.2.2.1 k lv (wk_l v :: st) (fun lv st => K (Nat.add pc 2) 0 0 lv st h) = _
    unfold ae_store; rw [h1]
    show cond (Nat.beq 2 2) (cond (Nat.blt (Nat.succ k) M.2.2.2.1) _ none) none = _
    rw [h2]; rfl) hr⟩
theorem iv_alen {k t tag len : Nat} {z : List (Nat × Nat)} (hM : ae_m mi = some M) (hd : decode M.2.2.1 pc = .ok (.arraylength, 1)) (hk : dc_ok h) (ht : sv_ty k = some t) (hT : dc_tt[t]? = some (1, tag, len, z)) (hl : len < 2147483648) (hr : ae_exe n mi pc 0 0 lv (wk_r k :: st) h = some r) : ∃ n', n = n' + 1 ∧ ae_exe n' mi (pc + 1) 0 0 lv (wk_i (len : Int) :: st) h = some r := by
  obtain ⟨A, g1⟩ := dc_a hk ht hT
  refine iv_eq hM hd rfl (fun K C => ?_) hr
  show (match ae_hg h k with
      | some (.inl (_, n, _)) => cond (Nat.blt n 2147483648) (K (Nat.add pc 1) 0 0 lv (ae_i n :: st) h) none
      | _ => none) = _
  rw [g1]
  show cond (Nat.blt len 2147483648) (K (Nat.add pc 1) 0 0 lv (ae_i len :: st) h) none = _
  rw [show Nat.blt len 2147483648 = true from Nat.ble_eq_true_of_le hl, cond_true]
  show K _ _ _ _ (.inl (.inl len) :: st) h = K _ _ _ _ (.inl (.inl (sv_u (len : Int))) :: st) h
  rw [sv_u_nat (by omega)]
theorem iv_bastz {k t len : Nat} {z : List (Nat × Nat)} {v : Int} (hM : ae_m mi = some M) (hd : decode M.2.2.1 pc = .ok (.bastore, 1)) (hk : dc_ok h) (ht : sv_ty k = some t) (hT : dc_tt[t]? = some (1, 2, len, z)) (hl : len < 2147483648) (hx : sv_I x) (hr : ae_exe n mi pc 0 0 lv (wk_i v :: wk_i x :: wk_r k :: st) h = some r) : (0 ≤ x ∧ x < len) ∧ ∃ h', dc_ok h' ∧ dc_m h' = dc_up (dc_m h) k x (dc_z v) ∧ ∃ n', n = n' + 1 ∧ ae_exe n' mi (pc + 1) 0 0 lv st h' = some r := by
  obtain ⟨A, g1⟩ := dc_a hk ht hT
  by_cases hi : 0 ≤ x ∧ x < len
  · have ex : sv_u x = x.toNat := sv_u_nn hi.1 (by omega)
    obtain ⟨q1, q2⟩ := dc_set_a (i := x) (z := Nat.mod (sv_u v) 2) hk ht hT (by decide) g1 hi.1 (dc_z_lt v)
    refine ⟨hi, _, q1, q2, iv_eq hM hd rfl (fun K C => ?_) hr⟩
    show ae_ast 1 (.inl (.inl (sv_u v)) :: .inl (.inl (sv_u x)) :: .inr (.inr (some k)) :: st) h (fun st h => K (Nat.add pc 1) 0 0 lv st h) = _
    unfold ae_ast; dsimp only
    rw [g1, ex]
    show cond (and (ae_tq 2 1) (ae_in (.inl x.toNat) len)) (ae_f (ae_wr 32 A x.toNat (Nat.mod (sv_u v) 2)) fun B => K (Nat.add pc 1) 0 0 lv st (ae_hs h k (.inl (2, len, .inl B)))) none = _
    rw [sv_in_i (show x.toNat < len by omega) hl, ae_f_eq]; rfl
  · exfalso
    obtain ⟨m, -, hr⟩ := iv0 hM hd rfl hr
    have hr : ae_ast 1 (wk_i v :: wk_i x :: wk_r k :: st) h (fun st h => ae_f (Nat.add pc 1) fun pc => ae_exe m mi pc 0 0 lv st h) = some r := hr
    unfold ae_ast at hr
    dsimp only at hr
    rw [g1] at hr
    dsimp only at hr
    rw [dc_in_f hx hl hi, Bool.and_false, cond_false] at hr
    cases hr
/-- ldc of a number -/
theorem iv_ldc {idx v z : Nat} {i : Instr} {len : Nat} (hi : (i = .ldc idx ∧ len = 2) ∨ (i = .ldc_w idx ∧ len = 3)) (hM : ae_m mi = some M) (hd : decode M.2.2.1 pc = .ok (i, len)) (hc : ae_cp M.1 idx = some (4, v, z)) (hv : v < 4294967296) (hr : ae_exe n mi pc 0 0 lv st h = some r) : ∃ n', n = n' + 1 ∧ ae_exe n' mi (pc + len) 0 0 lv (wk_i (sv_g v) :: st) h = some r := by
  rcases hi with ⟨e, el⟩ | ⟨e, el⟩ <;> subst e el
  · refine iv_eq hM hd rfl (fun K C => ?_) hr
    show (match ae_cp M.1 idx with | some (4, n, _) => K (Nat.add pc 2) 0 0 lv (ae_i n :: st) h | some (21, j, _) => K (Nat.add pc 2) 0 0 lv (.inr (.inr (some (Nat.add 256 j))) :: st) h | _ => none) = _
    rw [hc, wk_ig hv]; rfl
  · refine iv_eq hM hd rfl (fun K C => ?_) hr
    show (match ae_cp M.1 idx with | some (4, n, _) => K (Nat.add pc 3) 0 0 lv (ae_i n :: st) h | _ => none) = _
    rw [hc, wk_ig hv]; rfl
theorem iv_land {u v : Nat} (hM : ae_m mi = some M) (hd : decode M.2.2.1 pc = .ok (.land, 1)) (hr : ae_exe n mi pc 0 0 lv (wk_l u :: wk_l v :: st) h = some r) : ∃ n', n = n' + 1 ∧ ae_exe n' mi (pc + 1) 0 0 lv (wk_l (Nat.land v u) :: st) h = some r :=
  iv_eq hM hd rfl (fun K C => by
    show ae_f (Nat.land v u) (fun z => K (Nat.add pc 1) 0 0 lv (ae_j z :: st) h) = _
    rw [ae_f_eq]; rfl) hr
theorem iv_lsub {u v : Nat} (hM : ae_m mi = some M) (hd : decode M.2.2.1 pc = .ok (.lsub, 1)) (hr : ae_exe n mi pc 0 0 lv (wk_l u :: wk_l v :: st) h = some r) : ∃ n', n = n' + 1 ∧ ae_exe n' mi (pc + 1) 0 0 lv (wk_l (ae_lsub v u) :: st) h = some r :=
  iv_eq hM hd rfl (fun K C => by
    show ae_f (ae_lsub v u) (fun z => K (Nat.add pc 1) 0 0 lv (ae_j z :: st) h) = _
    rw [ae_f_eq]; rfl) hr
end
theorem dc_not_I {x : Int} (h : sv_I x) : sv_I (-x - 1) := by unfold sv_I at *; omega
theorem dc_land_lt {u v : Nat} (h : v < 18446744073709551616) : Nat.land v u < 18446744073709551616 := Nat.lt_of_le_of_lt (show v &&& u ≤ v from Nat.and_le_left) h
/-! Arrays.fill -/
theorem xm_285 : ae_m 285 = some (wk_M 285) := rfl
theorem xd_285_0 : decode (wk_M 285).2.2.1 0 = .ok (.iconst 0, 1) := zd_by (by decide +kernel)
theorem xd_285_1 : decode (wk_M 285).2.2.1 1 = .ok (.istore_n 2, 1) := zd_by (by decide +kernel)
theorem xd_285_2 : decode (wk_M 285).2.2.1 2 = .ok (.aload_n 0, 1) := zd_by (by decide +kernel)
theorem xd_285_3 : decode (wk_M 285).2.2.1 3 = .ok (.arraylength, 1) := zd_by (by decide +kernel)
theorem xd_285_4 : decode (wk_M 285).2.2.1 4 = .ok (.istore_n 3, 1) := zd_by (by decide +kernel)
theorem xd_285_5 : decode (wk_M 285).2.2.1 5 = .ok (.iload_n 2, 1) := zd_by (by decide +kernel)
theorem xd_285_6 : decode (wk_M 285).2.2.1 6 = .ok (.iload_n 3, 1) := zd_by (by decide +kernel)
theorem xd_285_7 : decode (wk_M 285).2.2.1 7 = .ok (.if_icmp .ge 13, 3) := zd_by (by decide +kernel)
theorem xd_285_10 : decode (wk_M 285).2.2.1 10 = .ok (.aload_n 0, 1) := zd_by (by decide +kernel)
theorem xd_285_11 : decode (wk_M 285).2.2.1 11 = .ok (.iload_n 2, 1) := zd_by (by decide +kernel)
theorem xd_285_12 : decode (wk_M 285).2.2.1 12 = .ok (.iload_n 1, 1) := zd_by (by decide +kernel)
theorem xd_285_13 : decode (wk_M 285).2.2.1 13 = .ok (.iastore, 1) := zd_by (by decide +kernel)
theorem xd_285_14 : decode (wk_M 285).2.2.1 14 = .ok (.iinc 2 1, 3) := zd_by (by decide +kernel)
theorem xd_285_17 : decode (wk_M 285).2.2.1 17 = .ok (.goto (-12), 3) := zd_by (by decide +kernel)
theorem xd_285_20 : decode (wk_M 285).2.2.1 20 = .ok (.return_, 1) := zd_by (by decide +kernel)
theorem iv_fill5 {k t len : Nat} {z : List (Nat × Nat)} {x : Int} (ht : sv_ty k = some t) (hT : dc_tt[t]? = some (1, 0, len, z)) (hl : len < 2147483648) (hx : sv_I x) : ∀ (n : Nat) (lv : ae_L) (h : ae_H) (r : ae_R) (i : Int), dc_ok h → 0 ≤ i → i ≤ len → ae_lk lv 0 = some (wk_r k) → ae_lk lv 1 = some (wk_i x) → ae_lk lv 2 = some (wk_i i) → ae_lk lv 3 = some (wk_i (len : Int)) → ae_exe n 285 5 0 0 lv [] h = some r → r.1 = none ∧ dc_ok r.2 ∧ dc_m r.2 = fun k' i' => if k' = k ∧ i ≤ i' ∧ i' < len then x else dc_m h k' i' := by
  intro n
  induction n using Nat.strongRecOn with
  | ind n ih =>
    intro lv h r i ok h0 h1 q0 q1 q2 q3 hr
    obtain ⟨n1, e1, hr⟩ := iv_iload_n xm_285 xd_285_5 q2 hr
    obtain ⟨n2, e2, hr⟩ := iv_iload_n xm_285 xd_285_6 q3 hr
    rcases iv_icmp 20 xm_285 xd_285_7 (by decide) (by unfold sv_I; omega) (by unfold sv_I; omega) hr with ⟨c, n3, e3, hr⟩ | ⟨c, n3, e3, hr⟩
    · have hr := iv_return xm_285 xd_285_20 hr rfl
      subst hr
      have c : i ≥ (len : Int) := c
      refine ⟨rfl, ok, funext fun k' => funext fun i' => ?_⟩
      rw [if_neg (by omega)]
    · have c : ¬ (i ≥ (len : Int)) := c
      obtain ⟨n4, e4, hr⟩ := iv_aload_n xm_285 xd_285_10 q0 hr
      obtain ⟨n5, e5, hr⟩ := iv_iload_n xm_285 xd_285_11 q2 hr
      obtain ⟨n6, e6, hr⟩ := iv_iload_n xm_285 xd_285_12 q1 hr
      obtain ⟨-, h', ok', em, n7, e7, hr⟩ := iv_iast xm_285 xd_285_13 ok ht hT hl (by unfold sv_I; omega) hx hr
      obtain ⟨lv', sl, n8, e8, hr⟩ := iw_iinc xm_285 xd_285_14 (by decide +kernel) (by decide) q2 hr
      obtain ⟨n9, e9, hr⟩ := iv_goto 5 xm_285 xd_285_17 (by decide) hr
      have s2 := sl.1
      rw [dc_w_eq (by unfold sv_I; omega)] at s2
      obtain ⟨g1, g2, g3⟩ := ih n9 (by omega) lv' h' r (i + 1) ok' (by omega) (by omega) (sl.2 0 _ q0 (by decide) (Or.inl rfl)) (sl.2 1 _ q1 (by decide) (Or.inl rfl)) s2 (sl.2 3 _ q3 (by decide) (Or.inl rfl)) hr
      refine ⟨g1, g2, ?_⟩
      rw [g3]
      funext k' i'
      rw [em]
      by_cases ek : k' = k
      · by_cases ei : i' = i
        · rw [if_neg (by omega), if_pos ⟨ek, by omega, by omega⟩, ek, ei, dc_up_s]
        · rw [dc_up_i ei]
          by_cases eo : i + 1 ≤ i' ∧ i' < len
          · rw [if_pos ⟨ek, eo⟩, if_pos ⟨ek, by omega, eo.2⟩]
          · rw [if_neg (fun z => eo z.2), if_neg (fun z => by omega)]
      · rw [dc_up_k ek, if_neg (fun z => ek z.1), if_neg (fun z => ek z.1)]
theorem iv_fill {k t len n : Nat} {z : List (Nat × Nat)} {x : Int} {h : ae_H} {r : ae_R} (ok : dc_ok h) (ht : sv_ty k = some t) (hT : dc_tt[t]? = some (1, 0, len, z)) (hl : len < 2147483648) (hx : sv_I x) (hr : ae_exe n 285 0 0 0 (ae_args [wk_r k, wk_i x] 0) [] h = some r) : r.1 = none ∧ dc_ok r.2 ∧ dc_m r.2 = dc_fill (dc_m h) k len x := by
  have q0 : ae_lk (ae_args [wk_r k, wk_i x] 0) 0 = some (wk_r k) := rfl
  have q1 : ae_lk (ae_args [wk_r k, wk_i x] 0) 1 = some (wk_i x) := rfl
  obtain ⟨n1, e1, hr⟩ := iv_iconst xm_285 xd_285_0 (by decide) hr
  obtain ⟨lv1, sl1, n2, e2, hr⟩ := iv_istore_n xm_285 xd_285_1 (by decide +kernel) hr
  have a0 := sl1.2 0 _ q0 (by decide) (Or.inl rfl)
  have a1 := sl1.2 1 _ q1 (by decide) (Or.inl rfl)
  have a2 := sl1.1
  obtain ⟨n3, e3, hr⟩ := iv_aload_n xm_285 xd_285_2 a0 hr
  obtain ⟨n4, e4, hr⟩ := iv_alen xm_285 xd_285_3 ok ht hT hl hr
  obtain ⟨lv2, sl2, n5, e5, hr⟩ := iv_istore_n xm_285 xd_285_4 (by decide +kernel) hr
  exact iv_fill5 ht hT hl hx n5 lv2 h r 0 ok (by omega) (by omega) (sl2.2 0 _ a0 (by decide) (Or.inl rfl)) (sl2.2 1 _ a1 (by decide) (Or.inl rfl)) (sl2.2 2 _ a2 (by decide) (Or.inl rfl)) sl2.1 hr
