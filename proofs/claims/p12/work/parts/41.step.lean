/-! ONE INSTRUCTION WITHOUT HEAP AND CALLS -/
theorem sv_u_ae {n : Int} (h1 : -2147483648 ≤ n) (h2 : n < 2147483648) : ae_u n = sv_u n := by
  have h := sv_uc n
  cases n with
  | ofNat t => show t = _; have h : ((sv_u (Int.ofNat t) : Nat) : Int) = (t : Int) % 4294967296 := h; have h2 : (t : Int) < 2147483648 := h2; omega
  | negSucc t =>
    show 4294967295 - t = _
    have e : Int.negSucc t = -(t : Int) - 1 := by omega
    rw [e] at h h1 ⊢
    omega
noncomputable def sx_cst (n : Int) (S : sv_S) (K : sv_S → Bool) : Bool := sv_fi n fun n => sx_psh S (0, 0, n, []) K
/-- a jump's place -/
def sx_tgt (pc : Nat) (off : Int) (K : Nat → Bool) : Bool := match (pc : Int) + off with
  | .ofNat t => K t
  | .negSucc _ => false
noncomputable def sx_sto (b nL i : Nat) (S : sv_S) (K : sv_S → Bool) : Bool := cond (Nat.blt i nL) (match S.2.2.1 with
  | v :: rest => cond (Nat.beq b 2) (cond (Nat.beq v.1 4) (cond (Nat.blt (Nat.succ i) nL) (K (S.1, sx_st2 S.2.1 i v, rest, S.2.2.2)) false) false) (cond (cond (Nat.beq b 0) (Nat.beq v.1 0) (and (Nat.ble 1 v.1) (or (Nat.ble v.1 3) (Nat.beq v.1 6)))) (K (S.1, sx_st1 S.2.1 i v, rest, S.2.2.2)) false)
  | [] => false) false
/-- all numbers lo + j of a switch -/
noncomputable def sx_sw (pc : Nat) (a : sv_A) (x : sv_L) (K : Nat → sv_A → Bool) (offs : List Int) : Int → Bool := List.rec (motive := fun _ => Int → Bool) (fun _ => true) (fun off _ ih lo => and (sv_fi lo fun lo => sv_cd a .eq x (lo, []) fun a => sx_tgt pc off fun t => K t a) (ih (lo + 1))) offs
noncomputable def sx_1 (i : Instr) (M : ae_M) (pc : Nat) (S : sv_S) (K : Nat → sv_S → Bool) : Bool := match i with
  | .iconst n => cond (and (decide (-1 ≤ n)) (decide (n ≤ 5))) (sx_cst n S (K (Nat.add pc 1))) false
  | .bipush n => cond (and (decide (-128 ≤ n)) (decide (n ≤ 127))) (sx_cst n S (K (Nat.add pc 2))) false
  | .sipush n => cond (and (decide (-32768 ≤ n)) (decide (n ≤ 32767))) (sx_cst n S (K (Nat.add pc 3))) false
  | .lconst n => sx_psh S (4, 0, Int.ofNat n.val, []) (K (Nat.add pc 1))
  | .aconst_null => sx_psh S (2, 0, 0, []) (K (Nat.add pc 1))
  | .ldc idx => (match ae_cp M.1 idx with
    | some (4, n, _) => cond (Nat.blt n 2147483648) (sx_psh S (0, 0, Int.ofNat n, []) (K (Nat.add pc 2))) (cond (Nat.blt n 4294967296) (sv_fi (Int.ofNat n - 4294967296) fun z => sx_psh S (0, 0, z, []) (K (Nat.add pc 2))) false)
    | some (21, j, _) => sv_fn (Nat.add 256 j) fun t => sx_psh S (6, t, 0, []) (K (Nat.add pc 2))
    | _ => false)
  | .ldc_w idx => (match ae_cp M.1 idx with
    | some (4, n, _) => cond (Nat.blt n 2147483648) (sx_psh S (0, 0, Int.ofNat n, []) (K (Nat.add pc 3))) (cond (Nat.blt n 4294967296) (sv_fi (Int.ofNat n - 4294967296) fun z => sx_psh S (0, 0, z, []) (K (Nat.add pc 3))) false)
    | _ => false)
  | .ldc2_w idx => (match ae_cp M.1 idx with
    | some (5, n, _) => cond (Nat.blt n 9223372036854775808) (sx_psh S (4, 0, Int.ofNat n, []) (K (Nat.add pc 3))) (cond (Nat.blt n 18446744073709551616) (sx_lng S S.2.2.1 (K (Nat.add pc 3))) false)
    | _ => false)
  | .getstatic idx => (match ae_cp M.1 idx with
    | some (20, j, _) => sv_fn (Nat.add 256 j) fun t => sx_psh S (6, t, 0, []) (K (Nat.add pc 3))
    | _ => false)
  | .iload_n k => (match ae_lk S.2.1 k.val with | some v => cond (Nat.beq v.1 0) (sx_psh S v (K (Nat.add pc 1))) false | none => false)
  | .iload k => (match ae_lk S.2.1 k with | some v => cond (Nat.beq v.1 0) (sx_psh S v (K (Nat.add pc 2))) false | none => false)
  | .lload_n k => (match ae_lk S.2.1 k.val with | some v => cond (Nat.beq v.1 4) (sx_psh S v (K (Nat.add pc 1))) false | none => false)
  | .lload k => (match ae_lk S.2.1 k with | some v => cond (Nat.beq v.1 4) (sx_psh S v (K (Nat.add pc 2))) false | none => false)
  | .aload_n k => (match ae_lk S.2.1 k.val with | some v => cond (and (Nat.ble 1 v.1) (or (Nat.ble v.1 3) (Nat.beq v.1 6))) (sx_psh S v (K (Nat.add pc 1))) false | none => false)
  | .aload k => (match ae_lk S.2.1 k with | some v => cond (and (Nat.ble 1 v.1) (or (Nat.ble v.1 3) (Nat.beq v.1 6))) (sx_psh S v (K (Nat.add pc 2))) false | none => false)
  | .istore_n k => sx_sto 0 M.2.2.2.1 k.val S (K (Nat.add pc 1))
  | .istore k => sx_sto 0 M.2.2.2.1 k S (K (Nat.add pc 2))
  | .lstore_n k => sx_sto 2 M.2.2.2.1 k.val S (K (Nat.add pc 1))
  | .lstore k => sx_sto 2 M.2.2.2.1 k S (K (Nat.add pc 2))
  | .astore_n k => sx_sto 1 M.2.2.2.1 k.val S (K (Nat.add pc 1))
  | .astore k => sx_sto 1 M.2.2.2.1 k S (K (Nat.add pc 2))
  | .iinc k n => cond (and (Nat.blt k M.2.2.2.1) (and (decide (-128 ≤ n)) (decide (n ≤ 127)))) (match ae_lk S.2.1 k with
    | some (0, _, e) => sv_ac n e fun e => sv_nm S.1 e fun a e => K (Nat.add pc 3) (a, sx_st1 S.2.1 k (0, 0, e), S.2.2)
    | _ => false) false
  | .iadd => sx_bin sv_addK S (K (Nat.add pc 1))
  | .isub => sx_bin sv_subK S (K (Nat.add pc 1))
  | .imul => sx_bin sv_mulK S (K (Nat.add pc 1))
  | .iand => sx_bin sv_andC S (K (Nat.add pc 1))
  | .ior => sx_bin sv_orC S (K (Nat.add pc 1))
  | .ixor => sx_bin sv_xorK S (K (Nat.add pc 1))
  | .ishl => sx_bin sv_shlK S (K (Nat.add pc 1))
  | .ishr => sx_bin sv_shrK S (K (Nat.add pc 1))
  | .iushr => sx_bin sv_shrK S (K (Nat.add pc 1))
  | .idiv => sx_bin sv_divK S (K (Nat.add pc 1))
  | .irem => sx_bin sv_remK S (K (Nat.add pc 1))
  | .ineg => (match S.2.2.1 with
    | (0, _, x) :: rest => sv_subK S.1 (0, []) x fun a e => K (Nat.add pc 1) (a, S.2.1, (0, 0, e) :: rest, S.2.2.2)
    | _ => false)
  | .i2b => (match S.2.2.1 with
    | (0, _, x) :: rest => cond (and (sv_ac 128 x fun e => sv_p 3 S.1 e) (sv_ma (-1) x (127, []) fun e => sv_p 3 S.1 e)) (K (Nat.add pc 1) (S.1, S.2.1, (0, 0, x) :: rest, S.2.2.2)) (sv_nw S.1 (-128) 127 fun a e => K (Nat.add pc 1) (a, S.2.1, (0, 0, e) :: rest, S.2.2.2))
    | _ => false)
  | .i2l => (match S.2.2.1 with
    | (0, _, x) :: rest => K (Nat.add pc 1) (S.1, S.2.1, (4, 0, x) :: rest, S.2.2.2)
    | _ => false)
  | .l2i => (match S.2.2.1 with
    | (4, _, _) :: rest => sv_tp S.1 fun a e => K (Nat.add pc 1) (a, S.2.1, (0, 0, e) :: rest, S.2.2.2)
    | _ => false)
  | .ladd | .lsub | .land | .lor => (match S.2.2.1 with
    | (4, _, _) :: (4, _, _) :: rest => sx_lng S rest (K (Nat.add pc 1))
    | _ => false)
  | .lushr | .lshl | .lshr => (match S.2.2.1 with
    | (0, _, y) :: (4, _, _) :: rest => cond (and (sv_p 3 S.1 y) (sv_ma (-1) y (63, []) fun e => sv_p 3 S.1 e)) (sx_lng S rest (K (Nat.add pc 1))) false
    | _ => false)
  | .lcmp => (match S.2.2.1 with
    | (4, _, y) :: (4, _, x) :: rest => sv_ma (-1) y x fun d => K (Nat.add pc 1) (S.1, S.2.1, (5, 0, d) :: rest, S.2.2.2)
    | _ => false)
  | .dup => (match S.2.2.1 with
    | v :: rest => cond (Nat.beq v.1 4) false (K (Nat.add pc 1) (S.1, S.2.1, v :: v :: rest, S.2.2.2))
    | _ => false)
  | .dup2 => (match S.2.2.1 with
    | v :: w :: rest => cond (or (Nat.beq v.1 4) (Nat.beq w.1 4)) false (K (Nat.add pc 1) (S.1, S.2.1, v :: w :: v :: w :: rest, S.2.2.2))
    | _ => false)
  | .pop => (match S.2.2.1 with
    | v :: rest => cond (Nat.beq v.1 4) false (K (Nat.add pc 1) (S.1, S.2.1, rest, S.2.2.2))
    | _ => false)
  | .goto off => sx_tgt pc off fun t => K t S
  | .if_icmp c off => (match S.2.2.1 with
    | (0, _, y) :: (0, _, x) :: rest => and (sv_cd S.1 c x y fun a => sx_tgt pc off fun t => K t (a, S.2.1, rest, S.2.2.2)) (and (sx_tgt pc off fun _ => true) (sv_cd S.1 (sv_ng c) x y fun a => K (Nat.add pc 3) (a, S.2.1, rest, S.2.2.2)))
    | _ => false)
  | .ifCond c off => (match S.2.2.1 with
    | (0, _, x) :: rest | (5, _, x) :: rest => and (sv_cd S.1 c x (0, []) fun a => sx_tgt pc off fun t => K t (a, S.2.1, rest, S.2.2.2)) (and (sx_tgt pc off fun _ => true) (sv_cd S.1 (sv_ng c) x (0, []) fun a => K (Nat.add pc 3) (a, S.2.1, rest, S.2.2.2)))
    | _ => false)
  | .ifnull off => (match S.2.2.1 with
    | (1, _, _) :: rest => K (Nat.add pc 3) (S.1, S.2.1, rest, S.2.2.2)
    | (2, _, _) :: rest => sx_tgt pc off fun t => K t (S.1, S.2.1, rest, S.2.2.2)
    | (3, _, x) :: rest => and (sv_cd S.1 .eq x (-1, []) fun a => sx_tgt pc off fun t => K t (a, S.2.1, rest, S.2.2.2)) (sv_as S.1 x fun a => K (Nat.add pc 3) (a, S.2.1, rest, S.2.2.2))
    | _ => false)
  | .ifnonnull off => (match S.2.2.1 with
    | (1, _, _) :: rest => sx_tgt pc off fun t => K t (S.1, S.2.1, rest, S.2.2.2)
    | (2, _, _) :: rest => K (Nat.add pc 3) (S.1, S.2.1, rest, S.2.2.2)
    | (3, _, x) :: rest => and (sv_as S.1 x fun a => sx_tgt pc off fun t => K t (a, S.2.1, rest, S.2.2.2)) (sv_cd S.1 .eq x (-1, []) fun a => K (Nat.add pc 3) (a, S.2.1, rest, S.2.2.2))
    | _ => false)
  | .tableswitch dflt lo hi offs => (match S.2.2.1 with
    | (0, _, x) :: rest => cond (decide (hi = lo + (offs.size : Int) - 1)) (and (sx_sw pc S.1 x (fun t a => K t (a, S.2.1, rest, S.2.2.2)) offs.toList lo) (and (sv_fi lo fun lo => sv_cd S.1 .lt x (lo, []) fun a => sx_tgt pc dflt fun t => K t (a, S.2.1, rest, S.2.2.2)) (sv_fi hi fun hi => sv_cd S.1 .gt x (hi, []) fun a => sx_tgt pc dflt fun t => K t (a, S.2.1, rest, S.2.2.2)))) false
    | _ => false)
  | _ => false
