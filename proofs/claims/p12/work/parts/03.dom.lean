/-! The runner's values: a known int by its number below 2^32, an int of which bounds are known (shifted by 2^31), a known long, null or a thing by its number -/
abbrev ae_V : Type := (Nat ⊕ (Nat × Nat)) ⊕ (Nat ⊕ Option Nat)
/-- what an array holds: packed in one number, unknown, or references -/
abbrev ae_X : Type := Nat ⊕ (Unit ⊕ List (Option Nat))
/-- a cell: an array (tag, length, contents) or an object (class, fields) -/
abbrev ae_C : Type := (Nat × Nat × ae_X) ⊕ (Nat × List ae_V)
def ae_T : Nat → Type
  | 0 => Option ae_C
  | n + 1 => ae_T n × ae_T n
abbrev ae_H : Type := Nat × ae_T 8
abbrev ae_L : Type := List (Nat × ae_V)
abbrev ae_R : Type := Option ae_V × ae_H
noncomputable def ae_tg : (n : Nat) → ae_T n → Nat → Option ae_C := fun n => Nat.rec (motive := fun n => ae_T n → Nat → Option ae_C) (fun t _ => t) (fun n ih t k => cond (Nat.ble (Nat.pow 2 n) (Nat.mod k (Nat.pow 2 (Nat.succ n)))) (ih t.2 k) (ih t.1 k)) n
noncomputable def ae_ts : (n : Nat) → ae_T n → Nat → ae_C → ae_T n := fun n => Nat.rec (motive := fun n => ae_T n → Nat → ae_C → ae_T n) (fun _ _ c => some c) (fun n ih t k c => cond (Nat.ble (Nat.pow 2 n) (Nat.mod k (Nat.pow 2 (Nat.succ n)))) (t.1, ih t.2 k c) (ih t.1 k c, t.2)) n
def ae_t0 : (n : Nat) → ae_T n
  | 0 => none
  | n + 1 => (ae_t0 n, ae_t0 n)
noncomputable def ae_hg (h : ae_H) (k : Nat) : Option ae_C := cond (Nat.ble 256 k) none (ae_tg 8 h.2 k)
noncomputable def ae_hs (h : ae_H) (k : Nat) (c : ae_C) : ae_H := (h.1, ae_ts 8 h.2 k c)
noncomputable def ae_hp (h : ae_H) (c : ae_C) : ae_H := (Nat.succ h.1, ae_ts 8 h.2 h.1 c)
/-- a number is worked out before it is used -/
noncomputable def ae_f {α : Type} (n : Nat) (k : Nat → Option α) : Option α := Nat.rec (motive := fun _ => Option α) (k 0) (fun m _ => k (Nat.succ m)) n
noncomputable def ae_nth {α : Type} (l : List α) : Nat → Option α := List.rec (motive := fun _ => Nat → Option α) (fun _ => none) (fun a _ ih n => Nat.rec (motive := fun _ => Option α) (some a) (fun m _ => ih m) n) l
noncomputable def ae_set {α : Type} (l : List α) (v : α) : Nat → List α := List.rec (motive := fun _ => Nat → List α) (fun _ => []) (fun a t ih n => Nat.rec (motive := fun _ => List α) (v :: t) (fun m _ => a :: ih m) n) l
noncomputable def ae_lk {α : Type} (l : List (Nat × α)) (i : Nat) : Option α := List.rec (motive := fun _ => Option α) none (fun q _ ih => cond (Nat.beq q.1 i) (some q.2) ih) l
-- packed rows
def ae_rd (w A i : Nat) : Nat := Nat.mod (Nat.shiftRight A (Nat.mul w i)) (Nat.pow 2 w)
def ae_wr (w A i v : Nat) : Nat := Nat.add (Nat.shiftLeft (Nat.shiftRight A (Nat.mul w (Nat.succ i))) (Nat.mul w (Nat.succ i))) (Nat.add (Nat.shiftLeft v (Nat.mul w i)) (Nat.mod A (Nat.pow 2 (Nat.mul w i))))
-- numbers
def ae_top : ae_V := .inl (.inr (0, 4294967295))
def ae_i (n : Nat) : ae_V := .inl (.inl n)
def ae_j (n : Nat) : ae_V := .inr (.inl n)
def ae_bs (n : Nat) : Nat := Nat.mod (Nat.add n 2147483648) 4294967296
def ae_rg (x : Nat ⊕ (Nat × Nat)) : Nat × Nat := match x with
  | .inl n => (ae_bs n, ae_bs n)
  | .inr r => r
def ae_add (a b : Nat) : Nat := Nat.mod (Nat.add a b) 4294967296
def ae_sub (a b : Nat) : Nat := Nat.mod (Nat.add a (Nat.sub 4294967296 b)) 4294967296
def ae_mul (a b : Nat) : Nat := Nat.mod (Nat.mul a b) 4294967296
def ae_and (a b : Nat) : Nat := Nat.land a b
def ae_or (a b : Nat) : Nat := Nat.lor a b
def ae_xor (a b : Nat) : Nat := Nat.xor a b
def ae_shl (a b : Nat) : Nat := Nat.mod (Nat.shiftLeft a (Nat.mod b 32)) 4294967296
def ae_ushr (a b : Nat) : Nat := Nat.shiftRight a (Nat.mod b 32)
def ae_shr (a b : Nat) : Nat := cond (Nat.ble 2147483648 a) (Nat.sub 4294967295 (Nat.shiftRight (Nat.sub 4294967295 a) (Nat.mod b 32))) (Nat.shiftRight a (Nat.mod b 32))
def ae_b8 (a : Nat) : Nat := cond (Nat.ble 128 (Nat.mod a 256)) (Nat.add (Nat.mod a 256) 4294967040) (Nat.mod a 256)
def ae_i2l (a : Nat) : Nat := cond (Nat.ble 2147483648 a) (Nat.add a 18446744069414584320) a
def ae_ladd (a b : Nat) : Nat := Nat.mod (Nat.add a b) 18446744073709551616
def ae_lsub (a b : Nat) : Nat := Nat.mod (Nat.add a (Nat.sub 18446744073709551616 b)) 18446744073709551616
def ae_lushr (a b : Nat) : Nat := Nat.shiftRight a b
def ae_lbs (n : Nat) : Nat := Nat.mod (Nat.add n 9223372036854775808) 18446744073709551616
def ae_lcmp (a b : Nat) : Nat := cond (Nat.beq (ae_lbs a) (ae_lbs b)) 0 (cond (Nat.ble (ae_lbs a) (ae_lbs b)) 4294967295 1)
/-- a comparison, where the bounds decide it -/
def ae_lt (x y : Nat × Nat) : Option Bool := cond (Nat.blt x.2 y.1) (some true) (cond (Nat.ble y.2 x.1) (some false) none)
def ae_eq (x y : Nat × Nat) : Option Bool := cond (and (Nat.beq x.1 x.2) (and (Nat.beq y.1 y.2) (Nat.beq x.1 y.1))) (some true) (cond (or (Nat.blt x.2 y.1) (Nat.blt y.2 x.1)) (some false) none)
def ae_cmp (c : Jvm.ClassFile.Cond) (x y : Nat × Nat) : Option Bool := match c with
  | .eq => ae_eq x y
  | .ne => (ae_eq x y).map not
  | .lt => ae_lt x y
  | .ge => (ae_lt x y).map not
  | .gt => ae_lt y x
  | .le => (ae_lt y x).map not
def ae_cat (v : ae_V) : Nat := match v with
  | .inr (.inl _) => 2
  | _ => 1
