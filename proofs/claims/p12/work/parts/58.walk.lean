/-! WALKS BY HAND over the runner: rows and fields as functions, an instruction a row -/
abbrev wk_i (x : Int) : ae_V := .inl (.inl (sv_u x))
abbrev wk_r (k : Nat) : ae_V := .inr (.inr (some k))
noncomputable def wk_R (h : ae_H) (k : Nat) (i : Int) : Int := match ae_hg h k with
  | some (.inl (_, _, .inl A)) => sv_g (ae_rd 32 A i.toNat)
  | _ => 0
noncomputable def wk_F (h : ae_H) (k j : Nat) : Option ae_V := match ae_hg h k with
  | some (.inr (_, fs)) => fs[j]?
  | _ => none
theorem wk_R_of {h : ae_H} {k t n A : Nat} (hg : ae_hg h k = some (.inl (t, n, .inl A))) (i : Int) : wk_R h k i = sv_g (ae_rd 32 A i.toNat) := by unfold wk_R; rw [hg]
theorem wk_F_of {h : ae_H} {k ci : Nat} {fs : List ae_V} (hg : ae_hg h k = some (.inr (ci, fs))) (j : Nat) : wk_F h k j = fs[j]? := by unfold wk_F; rw [hg]
theorem wk_R_I (h : ae_H) (k : Nat) (i : Int) : sv_I (wk_R h k i) := by
  unfold wk_R
  split
  · exact sv_g_I (ae_rd_lt 32 _ _)
  · unfold sv_I; omega
/-- a row's place was written -/
def wk_up (h h' : ae_H) (k : Nat) (i v : Int) : Prop := (∀ k' i', 0 ≤ i' → wk_R h' k' i' = if k' = k ∧ i' = i then v else wk_R h k' i') ∧ ∀ k' j, wk_F h' k' j = wk_F h k' j
/-- a field was written -/
def wk_uf (h h' : ae_H) (k j : Nat) (v : ae_V) : Prop := (∀ k' i', wk_R h' k' i' = wk_R h k' i') ∧ ∀ k' j', wk_F h' k' j' = if k' = k ∧ j' = j then some v else wk_F h k' j'
/-- a local was written -/
def wk_sl (lv : ae_L) (k : Nat) (v : ae_V) (lv' : ae_L) : Prop := ae_lk lv' k = some v ∧ ∀ (j : Nat) (c : ae_V), ae_lk lv j = some c → j ≠ k → (ae_cat c = 1 ∨ j + 1 ≠ k) → ae_lk lv' j = some c
theorem wk_st1 (lv : ae_L) (k : Nat) (v : ae_V) : wk_sl lv k v (ae_st1 lv k v) := by
  refine ⟨?_, fun j c hj hne hc => ?_⟩
  · show cond (Nat.beq k k) (some v) _ = _
    rw [Nat.beq_refl, cond_true]
  · show cond (Nat.beq k j) (some v) _ = _
    have hb : Nat.beq k j = false := by
      cases hb : Nat.beq k j with
      | false => rfl
      | true => exact absurd (Nat.eq_of_beq_eq_true hb).symm hne
    rw [hb, cond_false]
    refine ae_lk_fi hj ?_
    show (!(j == k) && !(j + 1 == k && ae_cat c == 2)) = true
    have e1 : (j == k) = false := beq_false_of_ne hne
    rw [e1]
    rcases hc with hc | hc
    · rw [hc]; simp
    · rw [beq_false_of_ne hc]; rfl
theorem wk_st2 {lv : ae_L} {k : Nat} {v : ae_V} : ae_lk (ae_st2 lv k v) k = some v ∧ ∀ (j : Nat) (c : ae_V), ae_lk lv j = some c → j ≠ k → j ≠ k + 1 → (ae_cat c = 1 ∨ j + 1 ≠ k) → ae_lk (ae_st2 lv k v) j = some c := by
  refine ⟨?_, fun j c hj hne hne2 hc => ?_⟩
  · show cond (Nat.beq k k) (some v) _ = _
    rw [Nat.beq_refl, cond_true]
  · show cond (Nat.beq k j) (some v) _ = _
    have hb : Nat.beq k j = false := by
      cases hb : Nat.beq k j with
      | false => rfl
      | true => exact absurd (Nat.eq_of_beq_eq_true hb).symm hne
    rw [hb, cond_false]
    refine ae_lk_fi hj ?_
    show (!(j == k) && (!(j == k + 1) && !(j + 1 == k && ae_cat c == 2))) = true
    have e1 : (j == k) = false := beq_false_of_ne hne
    have e2 : (j == k + 1) = false := beq_false_of_ne hne2
    rw [e1, e2]
    rcases hc with hc | hc
    · rw [hc]; simp
    · rw [beq_false_of_ne hc]; rfl
section
variable {Q : ae_R → Prop} {mi pc : Nat} {M : ae_M} {lv : ae_L} {st : List ae_V} {h : ae_H} {x y : Int}
theorem wk_iconst {n : Int} (hM : ae_m mi = some M) (hd : decode M.2.2.1 pc = .ok (.iconst n, 1)) (h1 : -1 ≤ n ∧ n ≤ 5) (g : sv_G Q mi (pc + 1) lv (wk_i n :: st) h) : sv_G Q mi pc lv st h :=
  sv_G_step hM hd rfl (fun K C => by
    show cond (and (decide (-1 ≤ n)) (decide (n ≤ 5))) (ae_f (ae_u n) fun z => K (Nat.add pc 1) 0 0 lv (ae_i z :: st) h) none = _
    rw [decide_eq_true h1.1, decide_eq_true h1.2, ae_f_eq, sv_u_ae (by omega) (by omega)]; rfl) g
theorem wk_bipush {n : Int} (hM : ae_m mi = some M) (hd : decode M.2.2.1 pc = .ok (.bipush n, 2)) (h1 : -128 ≤ n ∧ n ≤ 127) (g : sv_G Q mi (pc + 2) lv (wk_i n :: st) h) : sv_G Q mi pc lv st h :=
  sv_G_step hM hd rfl (fun K C => by
    show cond (and (decide (-128 ≤ n)) (decide (n ≤ 127))) (ae_f (ae_u n) fun z => K (Nat.add pc 2) 0 0 lv (ae_i z :: st) h) none = _
    rw [decide_eq_true h1.1, decide_eq_true h1.2, ae_f_eq, sv_u_ae (by omega) (by omega)]; rfl) g
theorem wk_sipush {n : Int} (hM : ae_m mi = some M) (hd : decode M.2.2.1 pc = .ok (.sipush n, 3)) (h1 : -32768 ≤ n ∧ n ≤ 32767) (g : sv_G Q mi (pc + 3) lv (wk_i n :: st) h) : sv_G Q mi pc lv st h :=
  sv_G_step hM hd rfl (fun K C => by
    show cond (and (decide (-32768 ≤ n)) (decide (n ≤ 32767))) (ae_f (ae_u n) fun z => K (Nat.add pc 3) 0 0 lv (ae_i z :: st) h) none = _
    rw [decide_eq_true h1.1, decide_eq_true h1.2, ae_f_eq, sv_u_ae (by omega) (by omega)]; rfl) g
theorem wk_iload_n {k : Fin 4} (hM : ae_m mi = some M) (hd : decode M.2.2.1 pc = .ok (.iload_n k, 1)) (hv : ae_lk lv k.val = some (wk_i x)) (g : sv_G Q mi (pc + 1) lv (wk_i x :: st) h) : sv_G Q mi pc lv st h :=
  sv_G_step hM hd rfl (fun K C => by
    show ae_iload lv k.val (fun v => K (Nat.add pc 1) 0 0 lv (v :: st) h) = _
    unfold ae_iload; rw [hv]) g
theorem wk_iload {k : Nat} (hM : ae_m mi = some M) (hd : decode M.2.2.1 pc = .ok (.iload k, 2)) (hv : ae_lk lv k = some (wk_i x)) (g : sv_G Q mi (pc + 2) lv (wk_i x :: st) h) : sv_G Q mi pc lv st h :=
  sv_G_step hM hd rfl (fun K C => by
    show ae_iload lv k (fun v => K (Nat.add pc 2) 0 0 lv (v :: st) h) = _
    unfold ae_iload; rw [hv]) g
theorem wk_aload_n {k : Fin 4} {o : Option Nat} (hM : ae_m mi = some M) (hd : decode M.2.2.1 pc = .ok (.aload_n k, 1)) (hv : ae_lk lv k.val = some (.inr (.inr o))) (g : sv_G Q mi (pc + 1) lv (.inr (.inr o) :: st) h) : sv_G Q mi pc lv st h :=
  sv_G_step hM hd rfl (fun K C => by
    show ae_aload lv k.val (fun v => K (Nat.add pc 1) 0 0 lv (v :: st) h) = _
    unfold ae_aload; rw [hv]) g
theorem wk_istore_n {k : Fin 4} (hM : ae_m mi = some M) (hd : decode M.2.2.1 pc = .ok (.istore_n k, 1)) (hk : Nat.blt k.val M.2.2.2.1 = true) (g : ∀ lv', wk_sl lv k.val (wk_i x) lv' → sv_G Q mi (pc + 1) lv' st h) : sv_G Q mi pc lv (wk_i x :: st) h :=
  sv_G_step hM hd rfl (fun K C => by
    show ae_store 0 M.2.2.2.1 k.val lv (wk_i x :: st) (fun lv st => K (Nat.add pc 1) 0 0 lv st h) = _
    unfold ae_store; rw [hk]; rfl) (g _ (wk_st1 lv k.val (wk_i x)))
theorem wk_istore {k : Nat} (hM : ae_m mi = some M) (hd : decode M.2.2.1 pc = .ok (.istore k, 2)) (hk : Nat.blt k M.2.2.2.1 = true) (g : ∀ lv', wk_sl lv k (wk_i x) lv' → sv_G Q mi (pc + 2) lv' st h) : sv_G Q mi pc lv (wk_i x :: st) h :=
  sv_G_step hM hd rfl (fun K C => by
    show ae_store 0 M.2.2.2.1 k lv (wk_i x :: st) (fun lv st => K (Nat.add pc 2) 0 0 lv st h) = _
    unfold ae_store; rw [hk]; rfl) (g _ (wk_st1 lv k (wk_i x)))
theorem wk_astore_n {k : Fin 4} {a : Nat} (hM : ae_m mi = some M) (hd : decode M.2.2.1 pc = .ok (.astore_n k, 1)) (hk : Nat.blt k.val M.2.2.2.1 = true) (g : ∀ lv', wk_sl lv k.val (wk_r a) lv' → sv_G Q mi (pc + 1) lv' st h) : sv_G Q mi pc lv (wk_r a :: st) h :=
  sv_G_step hM hd rfl (fun K C => by
    show ae_store 1 M.2.2.2.1 k.val lv (wk_r a :: st) (fun lv st => K (Nat.add pc 1) 0 0 lv st h) = _
    unfold ae_store; rw [hk]; rfl) (g _ (wk_st1 lv k.val (wk_r a)))
theorem wk_iinc {k : Nat} {n : Int} (hM : ae_m mi = some M) (hd : decode M.2.2.1 pc = .ok (.iinc k n, 3)) (hk : Nat.blt k M.2.2.2.1 = true) (h1 : -128 ≤ n ∧ n ≤ 127) (hv : ae_lk lv k = some (wk_i x)) (g : ∀ lv', wk_sl lv k (wk_i (x + n)) lv' → sv_G Q mi (pc + 3) lv' st h) : sv_G Q mi pc lv st h :=
  sv_G_step hM hd rfl (fun K C => by
    show cond (and (Nat.blt k M.2.2.2.1) (and (decide (-128 ≤ n)) (decide (n ≤ 127)))) (ae_iload lv k fun v => match v with
      | .inl (.inl x) => ae_f (ae_add x (ae_u n)) fun z => K (Nat.add pc 3) 0 0 (ae_st1 lv k (ae_i z)) st h
      | _ => K (Nat.add pc 3) 0 0 (ae_st1 lv k ae_top) st h) none = K (pc + 3) 0 0 (ae_st1 lv k (wk_i (x + n))) st h
    rw [hk, decide_eq_true h1.1, decide_eq_true h1.2, Bool.and_self, Bool.and_self, cond_true]
    unfold ae_iload
    rw [hv]
    show ae_f (ae_add (sv_u x) (ae_u n)) (fun z => K (Nat.add pc 3) 0 0 (ae_st1 lv k (ae_i z)) st h) = _
    rw [ae_f_eq, sv_u_ae (by omega) (by omega), sv_add_u]; rfl) (g _ (wk_st1 lv k (wk_i (x + n))))
theorem wk_iadd (hM : ae_m mi = some M) (hd : decode M.2.2.1 pc = .ok (.iadd, 1)) (g : sv_G Q mi (pc + 1) lv (wk_i (x + y) :: st) h) : sv_G Q mi pc lv (wk_i y :: wk_i x :: st) h :=
  sv_G_step hM hd rfl (fun K C => by
    show ae_f (ae_add (sv_u x) (sv_u y)) (fun z => K (Nat.add pc 1) 0 0 lv (ae_i z :: st) h) = _
    rw [ae_f_eq, sv_add_u]; rfl) g
theorem wk_isub (hM : ae_m mi = some M) (hd : decode M.2.2.1 pc = .ok (.isub, 1)) (g : sv_G Q mi (pc + 1) lv (wk_i (x - y) :: st) h) : sv_G Q mi pc lv (wk_i y :: wk_i x :: st) h :=
  sv_G_step hM hd rfl (fun K C => by
    show ae_f (ae_sub (sv_u x) (sv_u y)) (fun z => K (Nat.add pc 1) 0 0 lv (ae_i z :: st) h) = _
    rw [ae_f_eq, sv_sub_u]; rfl) g
theorem wk_imul (hM : ae_m mi = some M) (hd : decode M.2.2.1 pc = .ok (.imul, 1)) (g : sv_G Q mi (pc + 1) lv (wk_i (x * y) :: st) h) : sv_G Q mi pc lv (wk_i y :: wk_i x :: st) h :=
  sv_G_step hM hd rfl (fun K C => by
    show ae_f (ae_mul (sv_u x) (sv_u y)) (fun z => K (Nat.add pc 1) 0 0 lv (ae_i z :: st) h) = _
    rw [ae_f_eq, sv_mul_u]; rfl) g
theorem wk_ineg (hM : ae_m mi = some M) (hd : decode M.2.2.1 pc = .ok (.ineg, 1)) (g : sv_G Q mi (pc + 1) lv (wk_i (-x) :: st) h) : sv_G Q mi pc lv (wk_i x :: st) h :=
  sv_G_step hM hd rfl (fun K C => by
    show ae_f (ae_sub 0 (sv_u x)) (fun z => K (Nat.add pc 1) 0 0 lv (ae_i z :: st) h) = _
    rw [ae_f_eq, show (0 : Nat) = sv_u 0 from rfl, sv_sub_u, Int.zero_sub]; rfl) g
/-- an int that a number below 2^32 stands for -/
theorem wk_ig {z : Nat} (hz : z < 4294967296) : wk_i (sv_g z) = ae_i z := by
  show Sum.inl (Sum.inl (sv_u (sv_g z))) = _
  rw [sv_u_g hz]; rfl
theorem wk_iand (hM : ae_m mi = some M) (hd : decode M.2.2.1 pc = .ok (.iand, 1)) (g : sv_G Q mi (pc + 1) lv (wk_i (sv_g (sv_u x &&& sv_u y)) :: st) h) : sv_G Q mi pc lv (wk_i y :: wk_i x :: st) h :=
  sv_G_step hM hd rfl (fun K C => by
    show ae_f (sv_u x &&& sv_u y) (fun z => K (Nat.add pc 1) 0 0 lv (ae_i z :: st) h) = _
    rw [ae_f_eq, wk_ig (Nat.lt_of_le_of_lt Nat.and_le_right (sv_u_lt y))]) g
theorem wk_ior (hM : ae_m mi = some M) (hd : decode M.2.2.1 pc = .ok (.ior, 1)) (g : sv_G Q mi (pc + 1) lv (wk_i (sv_g (sv_u x ||| sv_u y)) :: st) h) : sv_G Q mi pc lv (wk_i y :: wk_i x :: st) h :=
  sv_G_step hM hd rfl (fun K C => by
    show ae_f (sv_u x ||| sv_u y) (fun z => K (Nat.add pc 1) 0 0 lv (ae_i z :: st) h) = _
    rw [ae_f_eq, wk_ig (show _ < 2 ^ 32 from Nat.or_lt_two_pow (sv_u_lt x) (sv_u_lt y))]) g
theorem wk_inot (hM : ae_m mi = some M) (hd : decode M.2.2.1 pc = .ok (.ixor, 1)) (g : sv_G Q mi (pc + 1) lv (wk_i (-x - 1) :: st) h) : sv_G Q mi pc lv (wk_i (-1) :: wk_i x :: st) h :=
  sv_G_step hM hd rfl (fun K C => by
    show ae_f (Nat.xor (sv_u x) (sv_u (-1))) (fun z => K (Nat.add pc 1) 0 0 lv (ae_i z :: st) h) = _
    have hlt := sv_u_lt x
    have hux := sv_uc x
    have hu2 := sv_uc (-x - 1)
    rw [ae_f_eq, show sv_u (-1) = 4294967295 from rfl, show Nat.xor (sv_u x) 4294967295 = 4294967295 - sv_u x from sv_xor_all hlt, show 4294967295 - sv_u x = sv_u (-x - 1) by omega]; rfl) g
theorem wk_ishr (hM : ae_m mi = some M) (hd : decode M.2.2.1 pc = .ok (.ishr, 1)) (hx : 0 ≤ x ∧ x < 2147483648) (hy : 0 ≤ y ∧ y < 32) (g : sv_G Q mi (pc + 1) lv (wk_i ((x.toNat >>> y.toNat : Nat) : Int) :: st) h) : sv_G Q mi pc lv (wk_i y :: wk_i x :: st) h :=
  sv_G_step hM hd rfl (fun K C => by
    show ae_f (ae_shr (sv_u x) (sv_u y)) (fun z => K (Nat.add pc 1) 0 0 lv (ae_i z :: st) h) = _
    have ex : sv_u x = x.toNat := sv_u_nn hx.1 (by omega)
    have ey : sv_u y = y.toNat := sv_u_nn hy.1 (by omega)
    have hb : Nat.ble 2147483648 x.toNat = false := by
      cases hb : Nat.ble 2147483648 x.toNat with
      | false => rfl
      | true => have := Nat.le_of_ble_eq_true hb; omega
    have hle : x.toNat >>> y.toNat ≤ x.toNat := Nat.shiftRight_le _ _
    rw [ae_f_eq, ex, ey]
    show K _ _ _ _ (ae_i (cond (Nat.ble 2147483648 x.toNat) _ (x.toNat >>> (y.toNat % 32))) :: st) h = K (pc + 1) 0 0 lv (Sum.inl (Sum.inl (sv_u _)) :: st) h
    rw [hb, cond_false, Nat.mod_eq_of_lt (by omega), sv_u_nat (by omega)]; rfl) g
theorem wk_shl1 (hM : ae_m mi = some M) (hd : decode M.2.2.1 pc = .ok (.ishl, 1)) (hy : 0 ≤ y ∧ y < 31) (g : sv_G Q mi (pc + 1) lv (wk_i ((2 ^ y.toNat : Nat) : Int) :: st) h) : sv_G Q mi pc lv (wk_i y :: wk_i 1 :: st) h :=
  sv_G_step hM hd rfl (fun K C => by
    show ae_f (ae_shl (sv_u 1) (sv_u y)) (fun z => K (Nat.add pc 1) 0 0 lv (ae_i z :: st) h) = _
    have ey : sv_u y = y.toNat := sv_u_nn hy.1 (by omega)
    have hp : 2 ^ y.toNat < 4294967296 := Nat.lt_of_lt_of_le (Nat.pow_lt_pow_right (by decide) (show y.toNat < 31 by omega)) (by decide)
    rw [ae_f_eq, show sv_u 1 = 1 from rfl, ey]
    show K _ _ _ _ (ae_i ((1 <<< (y.toNat % 32)) % 4294967296) :: st) h = K (pc + 1) 0 0 lv (Sum.inl (Sum.inl (sv_u _)) :: st) h
    rw [Nat.mod_eq_of_lt (show y.toNat < 32 by omega), Nat.shiftLeft_eq, Nat.one_mul, Nat.mod_eq_of_lt hp, sv_u_nat hp]; rfl) g
theorem wk_idiv (hM : ae_m mi = some M) (hd : decode M.2.2.1 pc = .ok (.idiv, 1)) (hx : 0 ≤ x ∧ x < 2147483648) (hy : 0 < y ∧ y < 2147483648) (g : sv_G Q mi (pc + 1) lv (wk_i (x / y) :: st) h) : sv_G Q mi pc lv (wk_i y :: wk_i x :: st) h :=
  sv_G_step hM hd rfl (fun K C => by
    have ex : sv_u x = x.toNat := sv_u_nn hx.1 (by omega)
    have ey : sv_u y = y.toNat := sv_u_nn (by omega) (by omega)
    show cond (and (Nat.blt 0 (sv_u y)) (Nat.blt (sv_u y) 2147483648)) (ae_f (ae_idiv (sv_u x) (sv_u y)) fun z => K (Nat.add pc 1) 0 0 lv (ae_i z :: st) h) none = _
    have b1 : Nat.blt 0 (sv_u y) = true := Nat.ble_eq_true_of_le (by rw [ey]; omega)
    have b2 : Nat.blt (sv_u y) 2147483648 = true := Nat.ble_eq_true_of_le (by rw [ey]; omega)
    have hb : Nat.ble 2147483648 (sv_u x) = false := by
      cases hb : Nat.ble 2147483648 (sv_u x) with
      | false => rfl
      | true => have := Nat.le_of_ble_eq_true hb; omega
    have hle : x.toNat / y.toNat ≤ x.toNat := Nat.div_le_self _ _
    have e : x / y = ((x.toNat / y.toNat : Nat) : Int) := by
      rw [Int.natCast_ediv, Int.toNat_of_nonneg hx.1, Int.toNat_of_nonneg (by omega)]
    rw [b1, b2, Bool.and_self, cond_true, ae_f_eq]
    unfold ae_idiv
    rw [hb, cond_false, e]
    show K _ _ _ _ (ae_i (sv_u x / sv_u y) :: st) h = K (pc + 1) 0 0 lv (Sum.inl (Sum.inl (sv_u _)) :: st) h
    rw [sv_u_nat (by omega), ex, ey]; rfl) g
theorem wk_dup {v : ae_V} (hM : ae_m mi = some M) (hd : decode M.2.2.1 pc = .ok (.dup, 1)) (hv : ae_cat v = 1) (g : sv_G Q mi (pc + 1) lv (v :: v :: st) h) : sv_G Q mi pc lv (v :: st) h :=
  sv_G_step hM hd rfl (fun K C => by
    show cond (Nat.beq (ae_cat v) 1) (K (Nat.add pc 1) 0 0 lv (v :: v :: st) h) none = _
    rw [hv]; rfl) g
theorem wk_dup2 {v w : ae_V} (hM : ae_m mi = some M) (hd : decode M.2.2.1 pc = .ok (.dup2, 1)) (hv : ae_cat v = 1) (hw : ae_cat w = 1) (g : sv_G Q mi (pc + 1) lv (v :: w :: v :: w :: st) h) : sv_G Q mi pc lv (v :: w :: st) h :=
  sv_G_step hM hd rfl (fun K C => by
    show cond (and (Nat.beq (ae_cat v) 1) (Nat.beq (ae_cat w) 1)) (K (Nat.add pc 1) 0 0 lv (v :: w :: v :: w :: st) h) none = _
    rw [hv, hw]; rfl) g
theorem wk_pop {v : ae_V} (hM : ae_m mi = some M) (hd : decode M.2.2.1 pc = .ok (.pop, 1)) (hv : ae_cat v = 1) (g : sv_G Q mi (pc + 1) lv st h) : sv_G Q mi pc lv (v :: st) h :=
  sv_G_step hM hd rfl (fun K C => by
    show cond (Nat.beq (ae_cat v) 1) (K (Nat.add pc 1) 0 0 lv st h) none = _
    rw [hv]; rfl) g
theorem wk_goto {off : Int} (t : Nat) (hM : ae_m mi = some M) (hd : decode M.2.2.1 pc = .ok (.goto off, 3)) (ht : (pc : Int) + off = (t : Int)) (g : sv_G Q mi t lv st h) : sv_G Q mi pc lv st h :=
  sv_G_step hM hd rfl (fun K C => by
    show ae_tgt pc off (fun t => K t 0 0 lv st h) = _
    unfold ae_tgt; rw [ht]) g
theorem wk_icmp {c : Jvm.ClassFile.Cond} {off : Int} (t : Nat) (hM : ae_m mi = some M) (hd : decode M.2.2.1 pc = .ok (.if_icmp c off, 3)) (ht : (pc : Int) + off = (t : Int)) (hx : sv_I x) (hy : sv_I y) (g1 : sv_holds c x y → sv_G Q mi t lv st h) (g2 : ¬ sv_holds c x y → sv_G Q mi (pc + 3) lv st h) : sv_G Q mi pc lv (wk_i y :: wk_i x :: st) h := by
  obtain ⟨c1, c2⟩ := sv_cmp_u (c := c) hx hy
  by_cases hc : sv_holds c x y
  · refine sv_G_step hM hd rfl (fun K C => ?_) (g1 hc)
    show (match ae_cmp c (ae_rg (.inl (sv_u x))) (ae_rg (.inl (sv_u y))) with
      | some true => ae_tgt pc off fun t => K t 0 0 lv st h
      | some false => ae_tgt pc off fun _ => K (Nat.add pc 3) 0 0 lv st h
      | none => none) = _
    rw [c1 hc]
    show ae_tgt pc off (fun t => K t 0 0 lv st h) = _
    unfold ae_tgt; rw [ht]
  · refine sv_G_step hM hd rfl (fun K C => ?_) (g2 hc)
    show (match ae_cmp c (ae_rg (.inl (sv_u x))) (ae_rg (.inl (sv_u y))) with
      | some true => ae_tgt pc off fun t => K t 0 0 lv st h
      | some false => ae_tgt pc off fun _ => K (Nat.add pc 3) 0 0 lv st h
      | none => none) = _
    rw [c2 hc]
    show ae_tgt pc off (fun _ => K (Nat.add pc 3) 0 0 lv st h) = _
    unfold ae_tgt; rw [ht]
theorem wk_if {c : Jvm.ClassFile.Cond} {off : Int} (t : Nat) (hM : ae_m mi = some M) (hd : decode M.2.2.1 pc = .ok (.ifCond c off, 3)) (ht : (pc : Int) + off = (t : Int)) (hx : sv_I x) (g1 : sv_holds c x 0 → sv_G Q mi t lv st h) (g2 : ¬ sv_holds c x 0 → sv_G Q mi (pc + 3) lv st h) : sv_G Q mi pc lv (wk_i x :: st) h := by
  obtain ⟨c1, c2⟩ := sv_cmp_0 (c := c) hx
  by_cases hc : sv_holds c x 0
  · refine sv_G_step hM hd rfl (fun K C => ?_) (g1 hc)
    show (match ae_cmp c (ae_rg (.inl (sv_u x))) (2147483648, 2147483648) with
      | some true => ae_tgt pc off fun t => K t 0 0 lv st h
      | some false => ae_tgt pc off fun _ => K (Nat.add pc 3) 0 0 lv st h
      | none => none) = _
    rw [c1 hc]
    show ae_tgt pc off (fun t => K t 0 0 lv st h) = _
    unfold ae_tgt; rw [ht]
  · refine sv_G_step hM hd rfl (fun K C => ?_) (g2 hc)
    show (match ae_cmp c (ae_rg (.inl (sv_u x))) (2147483648, 2147483648) with
      | some true => ae_tgt pc off fun t => K t 0 0 lv st h
      | some false => ae_tgt pc off fun _ => K (Nat.add pc 3) 0 0 lv st h
      | none => none) = _
    rw [c2 hc]
    show ae_tgt pc off (fun _ => K (Nat.add pc 3) 0 0 lv st h) = _
    unfold ae_tgt; rw [ht]
theorem wk_ireturn (hM : ae_m mi = some M) (hd : decode M.2.2.1 pc = .ok (.ireturn, 1)) (hr : M.2.2.2.2.1 = some .int) (hq : Q (some (wk_i x), h)) : sv_G Q mi pc lv [wk_i x] h :=
  sv_G_ret hM hd rfl (fun K C => by
    show cond (ae_rm M 0 0) (match M.2.2.2.2.1 with
      | some .int => some (some (wk_i x), h)
      | some .boolean => (match (Sum.inl (sv_u x) : Nat ⊕ (Nat × Nat)) with
        | .inl n => cond (Nat.ble n 1) (some (some (wk_i x), h)) none
        | .inr _ => none)
      | _ => none) none = _
    rw [hr]; rfl) hq
theorem wk_zreturn (hM : ae_m mi = some M) (hd : decode M.2.2.1 pc = .ok (.ireturn, 1)) (hr : M.2.2.2.2.1 = some .boolean) (hx : x = 0 ∨ x = 1) (hq : Q (some (wk_i x), h)) : sv_G Q mi pc lv [wk_i x] h :=
  sv_G_ret hM hd rfl (fun K C => by
    show cond (ae_rm M 0 0) (match M.2.2.2.2.1 with
      | some .int => some (some (wk_i x), h)
      | some .boolean => (match (Sum.inl (sv_u x) : Nat ⊕ (Nat × Nat)) with
        | .inl n => cond (Nat.ble n 1) (some (some (wk_i x), h)) none
        | .inr _ => none)
      | _ => none) none = _
    rw [hr]
    rcases hx with hx | hx <;> subst hx <;> rfl) hq
theorem wk_return (hM : ae_m mi = some M) (hd : decode M.2.2.1 pc = .ok (.return_, 1)) (hr : M.2.2.2.2.1 = none) (hq : Q (none, h)) : sv_G Q mi pc lv [] h :=
  sv_G_ret hM hd rfl (fun K C => by
    show cond (ae_rm M 0 0) (match ([] : List ae_V), M.2.2.2.2.1 with
      | [], none => some (none, h)
      | _, _ => none) none = _
    rw [hr]; rfl) hq
end
