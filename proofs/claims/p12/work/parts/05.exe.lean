noncomputable def ae_m (k : Nat) : Option ae_M := match ae_nth ae_mls (Nat.div k 40) with
  | none => none
  | some l => ae_nth l (Nat.mod k 40)
noncomputable def ae_cp (own idx : Nat) : Option (Nat × Nat × Nat) := match ae_nth ae_cps own with
  | none => none
  | some l => ae_lk l idx
noncomputable def ae_nf (ci : Nat) : Option (List ae_V) := ae_nth ae_nfs ci
noncomputable def ae_fk (ci k : Nat) : Option Nat := match ae_nth ae_fks ci with
  | none => none
  | some l => ae_nth l k
def ae_idiv (x y : Nat) : Nat := cond (Nat.ble 2147483648 x) (Nat.mod (Nat.sub 4294967296 (Nat.div (Nat.sub 4294967296 x) y)) 4294967296) (Nat.div x y)
def ae_irem (x y : Nat) : Nat := cond (Nat.ble 2147483648 x) (Nat.mod (Nat.sub 4294967296 (Nat.mod (Nat.sub 4294967296 x) y)) 4294967296) (Nat.mod x y)
def ae_lshl (a b : Nat) : Nat := Nat.mod (Nat.shiftLeft a b) 18446744073709551616
def ae_lshr (a b : Nat) : Nat := cond (Nat.ble 9223372036854775808 a) (Nat.sub 18446744073709551615 (Nat.shiftRight (Nat.sub 18446744073709551615 a) b)) (Nat.shiftRight a b)
/-- a stretch of n places of A from sp on, laid into B from dp on -/
def ae_blit (A sp B dp n : Nat) : Nat := Nat.add (Nat.shiftLeft (Nat.shiftRight B (Nat.mul 32 (Nat.add dp n))) (Nat.mul 32 (Nat.add dp n))) (Nat.add (Nat.shiftLeft (Nat.mod (Nat.shiftRight A (Nat.mul 32 sp)) (Nat.pow 2 (Nat.mul 32 n))) (Nat.mul 32 dp)) (Nat.mod B (Nat.pow 2 (Nat.mul 32 dp))))
abbrev ae_K : Type := Nat → Nat → Nat → ae_L → List ae_V → ae_H → Option ae_R
def ae_st1 (lv : ae_L) (i : Nat) (v : ae_V) : ae_L := (i, v) :: lv.filter (fun q => !(q.1 == i) && !(q.1 + 1 == i && ae_cat q.2 == 2))
def ae_st2 (lv : ae_L) (i : Nat) (v : ae_V) : ae_L := (i, v) :: lv.filter (fun q => !(q.1 == i) && (!(q.1 == i + 1) && !(q.1 + 1 == i && ae_cat q.2 == 2)))
/-- two ints: a known answer, or any -/
noncomputable def ae_ii (f : Nat → Nat → Nat) (st : List ae_V) (K : List ae_V → Option ae_R) : Option ae_R := match st with
  | .inl (.inl y) :: .inl (.inl x) :: rest => ae_f (f x y) fun z => K (ae_i z :: rest)
  | .inl _ :: .inl _ :: rest => K (ae_top :: rest)
  | _ => none
/-- a product: of a known number with one whose bounds are known, within the ints -/
noncomputable def ae_im (st : List ae_V) (K : List ae_V → Option ae_R) : Option ae_R := match st with
  | .inl (.inl y) :: .inl (.inr g) :: rest => cond (and (Nat.ble 2147483648 g.1) (and (Nat.ble g.2 4294967295) (Nat.blt (Nat.mul (Nat.sub g.2 2147483648) y) 2147483648))) (K (.inl (.inr (Nat.add 2147483648 (Nat.mul (Nat.sub g.1 2147483648) y), Nat.add 2147483648 (Nat.mul (Nat.sub g.2 2147483648) y))) :: rest)) (K (ae_top :: rest))
  | _ => ae_ii ae_mul st K
noncomputable def ae_ll (f : Nat → Nat → Nat) (st : List ae_V) (K : List ae_V → Option ae_R) : Option ae_R := match st with
  | .inr (.inl y) :: .inr (.inl x) :: rest => ae_f (f x y) fun z => K (ae_j z :: rest)
  | _ => none
noncomputable def ae_li (f : Nat → Nat → Nat) (st : List ae_V) (K : List ae_V → Option ae_R) : Option ae_R := match st with
  | .inl (.inl y) :: .inr (.inl x) :: rest => cond (Nat.blt y 64) (ae_f (f x y) fun z => K (ae_j z :: rest)) none
  | _ => none
/-- a jump: the target is a place -/
def ae_tgt (pc : Nat) (off : Int) (K : Nat → Option ae_R) : Option ae_R := match (pc : Int) + off with
  | .ofNat t => K t
  | .negSucc _ => none
def ae_u (n : Int) : Nat := match n with
  | .ofNat t => t
  | .negSucc t => Nat.sub 4294967295 t
noncomputable def ae_iload (lv : ae_L) (i : Nat) (K : ae_V → Option ae_R) : Option ae_R := match ae_lk lv i with
  | some (.inl x) => K (.inl x)
  | _ => none
noncomputable def ae_lload (lv : ae_L) (i : Nat) (K : ae_V → Option ae_R) : Option ae_R := match ae_lk lv i with
  | some (.inr (.inl x)) => K (.inr (.inl x))
  | _ => none
noncomputable def ae_aload (lv : ae_L) (i : Nat) (K : ae_V → Option ae_R) : Option ae_R := match ae_lk lv i with
  | some (.inr (.inr x)) => K (.inr (.inr x))
  | _ => none
noncomputable def ae_store (b nL i : Nat) (lv : ae_L) (st : List ae_V) (K : ae_L → List ae_V → Option ae_R) : Option ae_R := cond (Nat.blt i nL) (match st with
  | .inl x :: rest => cond (Nat.beq b 0) (K (ae_st1 lv i (.inl x)) rest) none
  | .inr (.inr x) :: rest => cond (Nat.beq b 1) (K (ae_st1 lv i (.inr (.inr x))) rest) none
  | .inr (.inl x) :: rest => cond (Nat.beq b 2) (cond (Nat.blt (Nat.succ i) nL) (K (ae_st2 lv i (.inr (.inl x))) rest) none) none
  | [] => none) none
/-- may the field of this kind hold the value -/
def ae_fit (k : Nat) (v : ae_V) : Bool := match v with
  | .inl (.inl n) => or (Nat.beq k 0) (and (Nat.beq k 1) (Nat.ble n 1))
  | .inl (.inr _) => Nat.beq k 0
  | .inr (.inl _) => Nat.beq k 3
  | .inr (.inr _) => Nat.beq k 4
/-- an index: its number where it is known and within -/
def ae_in (x : Nat ⊕ (Nat × Nat)) (n : Nat) : Bool := match x with
  | .inl i => and (Nat.blt i n) (Nat.blt n 2147483648)
  | .inr r => and (and (Nat.ble 2147483648 r.1) (Nat.blt r.2 (Nat.add 2147483648 n))) (Nat.blt n 2147483648)
/-- baload and bastore serve bytes and booleans -/
def ae_tq (t tag : Nat) : Bool := or (Nat.beq t tag) (and (Nat.beq tag 1) (Nat.beq t 2))
noncomputable def ae_ldx (st : List ae_V) (K : List ae_V → Option ae_R) : Option ae_R := match st with
  | .inl (.inl i) :: .inr (.inr (some a)) :: rest => cond (and (Nat.ble 256 a) (Nat.blt a 259)) (match ae_nth ae_exs (Nat.sub a 256) with
    | some l => (match ae_nth l i with
      | some z => K (ae_i z :: rest)
      | none => none)
    | none => none) none
  | _ => none
noncomputable def ae_ald (tag : Nat) (st : List ae_V) (h : ae_H) (K : List ae_V → Option ae_R) : Option ae_R := match st with
  | .inl i :: .inr (.inr (some a)) :: rest => (match ae_hg h a with
    | some (.inl (t, n, x)) => cond (and (ae_tq t tag) (ae_in i n)) (match x, i with
      | .inl A, .inl j => cond (Nat.beq tag 3) (ae_f (ae_rd 64 A j) fun z => K (ae_j z :: rest)) (ae_f (ae_rd 32 A j) fun z => K (ae_i z :: rest))
      | .inr (.inr l), .inl j => (match ae_nth l j with
        | some r => cond (Nat.beq tag 4) (K (.inr (.inr r) :: rest)) none
        | none => none)
      | .inl A, .inr _ => cond (Nat.ble tag 1) (cond (Nat.beq A 0) (K (ae_i 0 :: rest)) (K (ae_top :: rest))) none
      | .inr (.inl _), _ => cond (Nat.ble tag 1) (K (ae_top :: rest)) none
      | .inr (.inr _), .inr _ => none) none
    | _ => none)
  | _ => none
/-- storing an int into an int or byte array -/
noncomputable def ae_ast (tag : Nat) (st : List ae_V) (h : ae_H) (K : List ae_V → ae_H → Option ae_R) : Option ae_R := match st with
  | .inl v :: .inl i :: .inr (.inr (some a)) :: rest => (match ae_hg h a with
    | some (.inl (t, n, x)) => cond (and (ae_tq t tag) (ae_in i n)) (match x with
      | .inl A => (match v, i with
        | .inl z, .inl j => ae_f (ae_wr 32 A j (cond (Nat.beq t 0) z (cond (Nat.beq t 1) (ae_b8 z) (Nat.mod z 2)))) fun B => K rest (ae_hs h a (.inl (t, n, .inl B)))
        | _, _ => K rest (ae_hs h a (.inl (t, n, .inr (.inl ())))))
      | .inr (.inl _) => K rest (ae_hs h a (.inl (t, n, .inr (.inl ()))))
      | .inr (.inr _) => none) none
    | _ => none)
  | _ => none
noncomputable def ae_last (st : List ae_V) (h : ae_H) (K : List ae_V → ae_H → Option ae_R) : Option ae_R := match st with
  | .inr (.inl v) :: .inl (.inl j) :: .inr (.inr (some a)) :: rest => (match ae_hg h a with
    | some (.inl (t, n, .inl A)) => cond (and (Nat.beq t 3) (ae_in (.inl j) n)) (ae_f (ae_wr 64 A j v) fun B => K rest (ae_hs h a (.inl (t, n, .inl B)))) none
    | _ => none)
  | _ => none
noncomputable def ae_aast (st : List ae_V) (h : ae_H) (K : List ae_V → ae_H → Option ae_R) : Option ae_R := match st with
  | .inr (.inr (some v)) :: .inl (.inl j) :: .inr (.inr (some a)) :: rest => (match ae_hg h a, ae_hg h v with
    | some (.inl (t, n, .inr (.inr l))), some (.inr (ci, _)) => cond (and (Nat.beq t 4) (and (Nat.beq ci 0) (ae_in (.inl j) n))) (K rest (ae_hs h a (.inl (t, n, .inr (.inr (ae_set l (some v) j)))))) none
    | _, _ => none)
  | _ => none
/-- new cells: within the method's room -/
noncomputable def ae_mk (M : ae_M) (ce sl n : Nat) (h : ae_H) (c : ae_C) (K : Nat → Nat → ae_V → ae_H → Option ae_R) : Option ae_R :=
  cond (and (Nat.blt h.1 256) (and (Nat.ble (Nat.succ ce) M.2.2.2.2.2.2.2.2.2.1) (Nat.ble (Nat.add sl n) M.2.2.2.2.2.2.2.2.2.2))) (ae_f (Nat.succ ce) fun ce2 => ae_f (Nat.add sl n) fun sl2 => ae_f h.1 fun k => K ce2 sl2 (.inr (.inr (some k))) (ae_hp h c)) none
def ae_atag (t : ArrayType) : Option Nat := match t with
  | .int => some 0
  | .byte => some 1
  | .boolean => some 2
  | .long => some 3
  | _ => none
/-- what stands outside the own heap, by its number from 256 on -/
noncomputable def ae_xt (a : Nat) : Option (List Nat) := cond (Nat.ble 256 a) (ae_nth ae_exs (Nat.sub a 256)) none
/-- the arguments off the stack -/
noncomputable def ae_pop (n : Nat) : List ae_V → List ae_V → Option (List ae_V × List ae_V) := Nat.rec (motive := fun _ => List ae_V → List ae_V → Option (List ae_V × List ae_V)) (fun acc st => some (acc, st)) (fun _ ih acc st => match st with
  | v :: rest => ih (v :: acc) rest
  | [] => none) n
noncomputable def ae_args : List ae_V → Nat → ae_L := fun vs => List.rec (motive := fun _ => Nat → ae_L) (fun _ => []) (fun v _ ih i => (i, v) :: ih (Nat.add i (ae_cat v))) vs
def ae_catS (st : List ae_V) : Nat := (st.map ae_cat).sum
/-- copying whole stretches between known rows of one kind, ints or bytes -/
noncomputable def ae_cpy (st : List ae_V) (h : ae_H) (K : List ae_V → ae_H → Option ae_R) : Option ae_R := match st with
  | .inl (.inl n) :: .inl (.inl dp) :: .inr (.inr (some d)) :: .inl (.inl sp) :: .inr (.inr (some s)) :: rest => (match ae_hg h s, ae_hg h d with
    | some (.inl (t, n0, .inl A)), some (.inl (t1, n1, .inl B)) => cond (and (Nat.ble t 1) (and (Nat.beq t1 t) (and (Nat.ble (Nat.add sp n) n0) (and (Nat.ble (Nat.add dp n) n1) (and (Nat.blt n0 2147483648) (Nat.blt n1 2147483648)))))) (ae_f (ae_blit A sp B dp n) fun B2 => K rest (ae_hs h d (.inl (t1, n1, .inl B2)))) none
    | _, _ => none)
  | _ => none
/-- the method's cells and slots are within its room -/
def ae_rm (M : ae_M) (ce sl : Nat) : Bool := and (Nat.ble ce M.2.2.2.2.2.2.2.2.2.1) (Nat.ble sl M.2.2.2.2.2.2.2.2.2.2)
/-- the receiver is an object of the method's class -/
noncomputable def ae_rcv (vir : Nat) (as : List ae_V) (h : ae_H) (own : Nat) : Bool := cond (Nat.beq vir 0) true (match as with
  | .inr (.inr (some k)) :: _ => (match ae_hg h k with
    | some (.inr (ci, _)) => Nat.beq ci own
    | _ => false)
  | _ => false)
noncomputable def ae_call (M : ae_M) (vir : Nat) (idx pc ce sl : Nat) (lv : ae_L) (st : List ae_V) (h : ae_H) (K : ae_K) (C : Nat → List ae_V → ae_H → Option ae_R) : Option ae_R := match ae_cp M.1 idx with
  | some (1, mj, _) | some (2, mj, _) => (match ae_m mj with
    | some N => cond (and (Nat.beq N.2.2.2.2.2.1 vir) (and (Nat.blt N.2.2.2.2.2.2.2.1 M.2.2.2.2.2.2.2.1) (and (Nat.ble (Nat.add (Nat.add 19 N.2.2.2.1) N.2.2.2.2.2.2.2.2.1) M.2.2.2.2.2.2.2.2.1) (and (Nat.ble (Nat.add ce N.2.2.2.2.2.2.2.2.2.1) M.2.2.2.2.2.2.2.2.2.1) (Nat.ble (Nat.add sl N.2.2.2.2.2.2.2.2.2.2) M.2.2.2.2.2.2.2.2.2.2))))) (match ae_pop (cond (Nat.beq vir 0) N.2.2.2.2.2.2.1 (Nat.succ N.2.2.2.2.2.2.1)) [] st with
      | some (as, rest) => cond (and (and (Nat.ble (ae_catS rest) 8) (Nat.ble (ae_catS as) N.2.2.2.1)) (ae_rcv vir as h N.1)) (match C mj as h with
        | some (some v, h2) => ae_f (Nat.add ce N.2.2.2.2.2.2.2.2.2.1) fun ce2 => ae_f (Nat.add sl N.2.2.2.2.2.2.2.2.2.2) fun sl2 => K (Nat.add pc 3) ce2 sl2 lv (v :: rest) h2
        | some (none, h2) => ae_f (Nat.add ce N.2.2.2.2.2.2.2.2.2.1) fun ce2 => ae_f (Nat.add sl N.2.2.2.2.2.2.2.2.2.2) fun sl2 => K (Nat.add pc 3) ce2 sl2 lv rest h2
        | none => none) none
      | none => none) none
    | none => none)
  | some (6, _, _) => cond (and (Nat.beq vir 2) (Nat.ble 1 M.2.2.2.2.2.2.2.1)) (match st with
    | .inr (.inr (some _)) :: rest => cond (Nat.ble (Nat.add (ae_catS rest) 12) M.2.2.2.2.2.2.2.2.1) (K (Nat.add pc 3) ce sl lv rest h) none
    | _ => none) none
  | some (7, _, _) => cond (and (Nat.beq vir 0) (and (Nat.ble 1 M.2.2.2.2.2.2.2.1) (Nat.ble 60 M.2.2.2.2.2.2.2.2.1))) (ae_cpy st h fun st h => cond (Nat.ble (ae_catS st) 8) (K (Nat.add pc 3) ce sl lv st h) none) none
  | some (9, _, _) => cond (and (Nat.beq vir 0) (and (Nat.ble 1 M.2.2.2.2.2.2.2.1) (ae_rm M ce sl))) (match st with
    | .inl (.inl y) :: .inl (.inl x) :: rest => cond (Nat.ble (Nat.add (ae_catS rest) 13) M.2.2.2.2.2.2.2.2.1) (K (Nat.add pc 3) ce sl lv (ae_i (cond (Nat.blt (ae_bs x) (ae_bs y)) y x) :: rest) h) none
    | _ => none) none
  | some (10, _, _) => cond (and (Nat.beq vir 0) (and (Nat.ble 1 M.2.2.2.2.2.2.2.1) (ae_rm M ce sl))) (match st with
    | .inl (.inl x) :: rest => cond (Nat.ble (Nat.add (ae_catS rest) 13) M.2.2.2.2.2.2.2.2.1) (K (Nat.add pc 3) ce sl lv (ae_i (cond (Nat.ble 2147483648 x) (ae_sub 0 x) x) :: rest) h) none
    | _ => none) none
  | some (22, _, _) => cond (and (Nat.beq vir 1) (and (Nat.ble 4 M.2.2.2.2.2.2.2.1) (ae_rm M ce sl))) (match st with
    | .inr (.inr (some a)) :: rest => (match ae_xt a with
      | some l => cond (and (Nat.ble 259 a) (Nat.ble (Nat.add (ae_catS rest) 60) M.2.2.2.2.2.2.2.2.1)) (K (Nat.add pc 3) ce sl lv (ae_i l.length :: rest) h) none
      | none => none)
    | _ => none) none
  | some (23, _, _) => cond (and (Nat.beq vir 1) (and (Nat.ble 4 M.2.2.2.2.2.2.2.1) (ae_rm M ce sl))) (match st with
    | .inl (.inl i) :: .inr (.inr (some a)) :: rest => (match ae_xt a with
      | some l => (match ae_nth l i with
        | some z => cond (and (Nat.ble 259 a) (Nat.ble (Nat.add (ae_catS rest) 60) M.2.2.2.2.2.2.2.2.1)) (K (Nat.add pc 3) ce sl lv (ae_i z :: rest) h) none
        | none => none)
      | none => none)
    | _ => none) none
  | some (8, _, _) => cond (and (Nat.beq vir 0) (and (Nat.ble 1 M.2.2.2.2.2.2.2.1) (ae_rm M ce sl))) (match st with
    | .inl (.inl y) :: .inl (.inl x) :: rest => cond (Nat.ble (Nat.add (ae_catS rest) 13) M.2.2.2.2.2.2.2.2.1) (K (Nat.add pc 3) ce sl lv (ae_i (cond (Nat.blt (ae_bs y) (ae_bs x)) y x) :: rest) h) none
    | _ => none) none
  | _ => none
/-- how long an instruction is -/
def ae_ln (i : Instr) (len : Nat) : Nat := match i with
  | .tableswitch _ _ _ _ => len
  | .bipush _ | .iload _ | .lload _ | .aload _ | .istore _ | .lstore _ | .astore _ | .ldc _ | .newarray _ => 2
  | .sipush _ | .ldc_w _ | .ldc2_w _ | .iinc _ _ | .goto _ | .if_icmp _ _ | .ifCond _ _ | .ifnull _ | .ifnonnull _ | .getstatic _ | .getfield _ | .putfield _ | .new _ | .anewarray _ | .invokespecial _ | .invokevirtual _ | .invokestatic _ => 3
  | _ => 1
noncomputable def ae_step (i : Instr) (M : ae_M) (pc ce sl : Nat) (lv : ae_L) (st : List ae_V) (h : ae_H) (K : ae_K) (C : Nat → List ae_V → ae_H → Option ae_R) : Option ae_R := match i with
  | .iconst n => cond (and (decide (-1 ≤ n)) (decide (n ≤ 5))) (ae_f (ae_u n) fun z => K (Nat.add pc 1) ce sl lv (ae_i z :: st) h) none
  | .bipush n => cond (and (decide (-128 ≤ n)) (decide (n ≤ 127))) (ae_f (ae_u n) fun z => K (Nat.add pc 2) ce sl lv (ae_i z :: st) h) none
  | .sipush n => cond (and (decide (-32768 ≤ n)) (decide (n ≤ 32767))) (ae_f (ae_u n) fun z => K (Nat.add pc 3) ce sl lv (ae_i z :: st) h) none
  | .lconst n => K (Nat.add pc 1) ce sl lv (ae_j n.val :: st) h
  | .aconst_null => K (Nat.add pc 1) ce sl lv (.inr (.inr none) :: st) h
  | .ldc idx => (match ae_cp M.1 idx with | some (4, n, _) => K (Nat.add pc 2) ce sl lv (ae_i n :: st) h | some (21, j, _) => K (Nat.add pc 2) ce sl lv (.inr (.inr (some (Nat.add 256 j))) :: st) h | _ => none)
  | .getstatic idx => (match ae_cp M.1 idx with | some (20, j, _) => K (Nat.add pc 3) ce sl lv (.inr (.inr (some (Nat.add 256 j))) :: st) h | _ => none)
  | .ldc_w idx => (match ae_cp M.1 idx with | some (4, n, _) => K (Nat.add pc 3) ce sl lv (ae_i n :: st) h | _ => none)
  | .ldc2_w idx => (match ae_cp M.1 idx with | some (5, n, _) => K (Nat.add pc 3) ce sl lv (ae_j n :: st) h | _ => none)
  | .iload_n k => ae_iload lv k.val fun v => K (Nat.add pc 1) ce sl lv (v :: st) h
  | .iload k => ae_iload lv k fun v => K (Nat.add pc 2) ce sl lv (v :: st) h
  | .lload_n k => ae_lload lv k.val fun v => K (Nat.add pc 1) ce sl lv (v :: st) h
  | .lload k => ae_lload lv k fun v => K (Nat.add pc 2) ce sl lv (v :: st) h
  | .aload_n k => ae_aload lv k.val fun v => K (Nat.add pc 1) ce sl lv (v :: st) h
  | .aload k => ae_aload lv k fun v => K (Nat.add pc 2) ce sl lv (v :: st) h
  | .istore_n k => ae_store 0 M.2.2.2.1 k.val lv st fun lv st => K (Nat.add pc 1) ce sl lv st h
  | .istore k => ae_store 0 M.2.2.2.1 k lv st fun lv st => K (Nat.add pc 2) ce sl lv st h
  | .lstore_n k => ae_store 2 M.2.2.2.1 k.val lv st fun lv st => K (Nat.add pc 1) ce sl lv st h
  | .lstore k => ae_store 2 M.2.2.2.1 k lv st fun lv st => K (Nat.add pc 2) ce sl lv st h
  | .astore_n k => ae_store 1 M.2.2.2.1 k.val lv st fun lv st => K (Nat.add pc 1) ce sl lv st h
  | .astore k => ae_store 1 M.2.2.2.1 k lv st fun lv st => K (Nat.add pc 2) ce sl lv st h
  | .iinc k n => cond (and (Nat.blt k M.2.2.2.1) (and (decide (-128 ≤ n)) (decide (n ≤ 127)))) (ae_iload lv k fun v => match v with
    | .inl (.inl x) => ae_f (ae_add x (ae_u n)) fun z => K (Nat.add pc 3) ce sl (ae_st1 lv k (ae_i z)) st h
    | _ => K (Nat.add pc 3) ce sl (ae_st1 lv k ae_top) st h) none
  | .iadd => ae_ii ae_add st fun st => K (Nat.add pc 1) ce sl lv st h
  | .isub => ae_ii ae_sub st fun st => K (Nat.add pc 1) ce sl lv st h
  | .imul => ae_im st fun st => K (Nat.add pc 1) ce sl lv st h
  | .iand => ae_ii ae_and st fun st => K (Nat.add pc 1) ce sl lv st h
  | .ior => ae_ii ae_or st fun st => K (Nat.add pc 1) ce sl lv st h
  | .ixor => ae_ii ae_xor st fun st => K (Nat.add pc 1) ce sl lv st h
  | .ishl => ae_ii ae_shl st fun st => K (Nat.add pc 1) ce sl lv st h
  | .ishr => ae_ii ae_shr st fun st => K (Nat.add pc 1) ce sl lv st h
  | .iushr => ae_ii ae_ushr st fun st => K (Nat.add pc 1) ce sl lv st h
  | .idiv => (match st with
    | .inl (.inl y) :: .inl (.inl x) :: rest => cond (and (Nat.blt 0 y) (Nat.blt y 2147483648)) (ae_f (ae_idiv x y) fun z => K (Nat.add pc 1) ce sl lv (ae_i z :: rest) h) none
    | _ => none)
  | .irem => (match st with
    | .inl (.inl y) :: .inl (.inl x) :: rest => cond (and (Nat.blt 0 y) (Nat.blt y 2147483648)) (ae_f (ae_irem x y) fun z => K (Nat.add pc 1) ce sl lv (ae_i z :: rest) h) none
    | _ => none)
  | .ineg => (match st with
    | .inl (.inl x) :: rest => ae_f (ae_sub 0 x) fun z => K (Nat.add pc 1) ce sl lv (ae_i z :: rest) h
    | _ => none)
  | .i2b => (match st with
    | .inl (.inl x) :: rest => ae_f (ae_b8 x) fun z => K (Nat.add pc 1) ce sl lv (ae_i z :: rest) h
    | .inl _ :: rest => K (Nat.add pc 1) ce sl lv (ae_top :: rest) h
    | _ => none)
  | .i2l => (match st with
    | .inl (.inl x) :: rest => ae_f (ae_i2l x) fun z => K (Nat.add pc 1) ce sl lv (ae_j z :: rest) h
    | _ => none)
  | .l2i => (match st with
    | .inr (.inl x) :: rest => ae_f (Nat.mod x 4294967296) fun z => K (Nat.add pc 1) ce sl lv (ae_i z :: rest) h
    | _ => none)
  | .ladd => ae_ll ae_ladd st fun st => K (Nat.add pc 1) ce sl lv st h
  | .lsub => ae_ll ae_lsub st fun st => K (Nat.add pc 1) ce sl lv st h
  | .land => ae_ll Nat.land st fun st => K (Nat.add pc 1) ce sl lv st h
  | .lor => ae_ll Nat.lor st fun st => K (Nat.add pc 1) ce sl lv st h
  | .lushr => ae_li ae_lushr st fun st => K (Nat.add pc 1) ce sl lv st h
  | .lshl => ae_li ae_lshl st fun st => K (Nat.add pc 1) ce sl lv st h
  | .lshr => ae_li ae_lshr st fun st => K (Nat.add pc 1) ce sl lv st h
  | .lcmp => (match st with
    | .inr (.inl y) :: .inr (.inl x) :: rest => ae_f (ae_lcmp x y) fun z => K (Nat.add pc 1) ce sl lv (ae_i z :: rest) h
    | _ => none)
  | .dup => (match st with
    | v :: rest => cond (Nat.beq (ae_cat v) 1) (K (Nat.add pc 1) ce sl lv (v :: v :: rest) h) none
    | _ => none)
  | .dup2 => (match st with
    | v :: w :: rest => cond (and (Nat.beq (ae_cat v) 1) (Nat.beq (ae_cat w) 1)) (K (Nat.add pc 1) ce sl lv (v :: w :: v :: w :: rest) h) none
    | _ => none)
  | .pop => (match st with
    | v :: rest => cond (Nat.beq (ae_cat v) 1) (K (Nat.add pc 1) ce sl lv rest h) none
    | _ => none)
  | .goto off => ae_tgt pc off fun t => K t ce sl lv st h
  | .if_icmp c off => (match st with
    | .inl y :: .inl x :: rest => (match ae_cmp c (ae_rg x) (ae_rg y) with
      | some true => ae_tgt pc off fun t => K t ce sl lv rest h
      | some false => ae_tgt pc off fun _ => K (Nat.add pc 3) ce sl lv rest h
      | none => none)
    | _ => none)
  | .ifCond c off => (match st with
    | .inl x :: rest => (match ae_cmp c (ae_rg x) (2147483648, 2147483648) with
      | some true => ae_tgt pc off fun t => K t ce sl lv rest h
      | some false => ae_tgt pc off fun _ => K (Nat.add pc 3) ce sl lv rest h
      | none => none)
    | _ => none)
  | .ifnull off => (match st with
    | .inr (.inr none) :: rest => ae_tgt pc off fun t => K t ce sl lv rest h
    | .inr (.inr (some _)) :: rest => K (Nat.add pc 3) ce sl lv rest h
    | _ => none)
  | .ifnonnull off => (match st with
    | .inr (.inr none) :: rest => K (Nat.add pc 3) ce sl lv rest h
    | .inr (.inr (some _)) :: rest => ae_tgt pc off fun t => K t ce sl lv rest h
    | _ => none)
  | .tableswitch dflt lo hi offs => (match st with
    | .inl x :: rest => cond (or (decide (((ae_rg x).2 : Int) - 2147483648 < lo)) (decide (hi < ((ae_rg x).1 : Int) - 2147483648))) (ae_tgt pc dflt fun t => K t ce sl lv rest h) (cond (and (Nat.beq (ae_rg x).1 (ae_rg x).2) (and (decide (lo ≤ ((ae_rg x).1 : Int) - 2147483648)) (decide (((ae_rg x).1 : Int) - 2147483648 ≤ hi)))) (match offs[(((ae_rg x).1 : Int) - 2147483648 - lo).toNat]? with
      | some off => ae_tgt pc off fun t => K t ce sl lv rest h
      | none => none) none)
    | _ => none)
  | .getfield idx => (match st with
    | .inr (.inr (some a)) :: rest => (match ae_cp M.1 idx, ae_hg h a with
      | some (0, ci, k), some (.inr (cj, fs)) => cond (Nat.beq ci cj) (match ae_nth fs k with
        | some v => K (Nat.add pc 3) ce sl lv (v :: rest) h
        | none => none) none
      | _, _ => none)
    | _ => none)
  | .putfield idx => (match st with
    | v :: .inr (.inr (some a)) :: rest => (match ae_cp M.1 idx, ae_hg h a with
      | some (0, ci, k), some (.inr (cj, fs)) => cond (Nat.beq ci cj) (match ae_fk ci k, ae_nth fs k with
        | some fk, some _ => cond (and (cond (Nat.ble 10 fk) (and (Nat.beq M.2.2.2.2.2.1 2) (Nat.beq M.1 ci)) true) (cond (Nat.ble 10 fk) (ae_fit (Nat.sub fk 10) v) (ae_fit fk v))) (K (Nat.add pc 3) ce sl lv rest (ae_hs h a (.inr (cj, ae_set fs v k)))) none
        | _, _ => none) none
      | _, _ => none)
    | _ => none)
  | .iaload => (match st with
    | _ :: .inr (.inr (some a)) :: _ => cond (Nat.ble 256 a) (ae_ldx st fun st => K (Nat.add pc 1) ce sl lv st h) (ae_ald 0 st h fun st => K (Nat.add pc 1) ce sl lv st h)
    | _ => none)
  | .baload => ae_ald 1 st h fun st => K (Nat.add pc 1) ce sl lv st h
  | .laload => ae_ald 3 st h fun st => K (Nat.add pc 1) ce sl lv st h
  | .aaload => ae_ald 4 st h fun st => K (Nat.add pc 1) ce sl lv st h
  | .iastore => ae_ast 0 st h fun st h => K (Nat.add pc 1) ce sl lv st h
  | .bastore => ae_ast 1 st h fun st h => K (Nat.add pc 1) ce sl lv st h
  | .lastore => ae_last st h fun st h => K (Nat.add pc 1) ce sl lv st h
  | .aastore => ae_aast st h fun st h => K (Nat.add pc 1) ce sl lv st h
  | .arraylength => (match st with
    | .inr (.inr (some a)) :: rest => (match ae_hg h a with
      | some (.inl (_, n, _)) => cond (Nat.blt n 2147483648) (K (Nat.add pc 1) ce sl lv (ae_i n :: rest) h) none
      | _ => none)
    | _ => none)
  | .newarray at_ => (match st with
    | .inl (.inl n) :: rest => (match ae_atag at_ with
      | some tag => cond (Nat.ble n 60000000) (ae_mk M ce sl n h (.inl (tag, n, .inl 0)) fun ce sl v h => K (Nat.add pc 2) ce sl lv (v :: rest) h) none
      | none => none)
    | _ => none)
  | .anewarray idx => (match st with
    | .inl (.inl n) :: rest => (match ae_cp M.1 idx with
      | some (3, 0, _) => cond (Nat.ble n 1000) (ae_mk M ce sl n h (.inl (4, n, .inr (.inr (List.replicate n none)))) fun ce sl v h => K (Nat.add pc 3) ce sl lv (v :: rest) h) none
      | _ => none)
    | _ => none)
  | .new idx => (match ae_cp M.1 idx with
    | some (3, ci, _) => (match ae_nf ci with
      | some fs => ae_mk M ce sl fs.length h (.inr (ci, fs)) fun ce sl v h => K (Nat.add pc 3) ce sl lv (v :: st) h
      | none => none)
    | _ => none)
  | .ireturn => cond (ae_rm M ce sl) (match st with
    | [.inl x] => (match M.2.2.2.2.1 with
      | some .int => some (some (.inl x), h)
      | some .boolean => (match x with
        | .inl n => cond (Nat.ble n 1) (some (some (.inl x), h)) none
        | .inr _ => none)
      | _ => none)
    | _ => none) none
  | .return_ => cond (ae_rm M ce sl) (match st, M.2.2.2.2.1 with
    | [], none => some (none, h)
    | _, _ => none) none
  | .lreturn => cond (ae_rm M ce sl) (match st, M.2.2.2.2.1 with
    | [.inr (.inl x)], some .long => some (some (.inr (.inl x)), h)
    | _, _ => none) none
  | .invokespecial idx => ae_call M 2 idx pc ce sl lv st h K C
  | .invokevirtual idx => ae_call M 1 idx pc ce sl lv st h K C
  | .invokestatic idx => ae_call M 0 idx pc ce sl lv st h K C
  | _ => none
/-- the runner: fuel, method, place, cells and slots made, locals, stack, heap -/
noncomputable def ae_exe : Nat → Nat → Nat → Nat → Nat → ae_L → List ae_V → ae_H → Option ae_R := fun n => Nat.rec (motive := fun _ => Nat → Nat → Nat → Nat → ae_L → List ae_V → ae_H → Option ae_R) (fun _ _ _ _ _ _ _ => none) (fun _ ih mi pc ce sl lv st h => match ae_m mi with
  | none => none
  | some M => match decode M.2.2.1 pc with
    | .error _ => none
    | .ok (i, len) => cond (Nat.beq len (ae_ln i len)) (ae_step i M pc ce sl lv st h (fun pc ce sl lv st h => ae_f pc fun pc => ih mi pc ce sl lv st h) (fun mj as h => ih mj 0 0 0 (ae_args as 0) [] h)) none) n
