/-! A QUICKER DECODER: the bytes dropped once, the opcode by a tree -/
noncomputable def zd_dr (p : Nat) : List UInt8 → List UInt8 := Nat.rec (motive := fun _ => List UInt8 → List UInt8) (fun l => l) (fun _ ih l => match l with
  | [] => []
  | _ :: r => ih r) p
theorem zd_dr_eq : ∀ (p : Nat) (l : List UInt8), zd_dr p l = l.drop p
  | 0, l => rfl
  | p + 1, [] => rfl
  | p + 1, _ :: r => zd_dr_eq p r
noncomputable def zd_f {α : Type} (n : Nat) (k : Nat → α) : α := Nat.rec (motive := fun _ => α) (k 0) (fun m _ => k (Nat.succ m)) n
theorem zd_f_eq {α : Type} (n : Nat) (k : Nat → α) : zd_f n k = k n := by cases n <;> rfl
def zd_1 (mk : Nat → Instr) (rs : List UInt8) : Option (Instr × Nat) := match rs with
  | a :: _ => some (mk a.toNat, 2)
  | _ => none
def zd_2 (mk : Nat → Instr) (rs : List UInt8) : Option (Instr × Nat) := match rs with
  | a :: b :: _ => some (mk (a.toNat * 256 + b.toNat), 3)
  | _ => none
def zd_s1 (mk : Int → Instr) (rs : List UInt8) : Option (Instr × Nat) := match rs with
  | a :: _ => some (mk (Reader.signed 8 a.toNat), 2)
  | _ => none
def zd_s2 (mk : Int → Instr) (rs : List UInt8) : Option (Instr × Nat) := match rs with
  | a :: b :: _ => some (mk (Reader.signed 16 (a.toNat * 256 + b.toNat)), 3)
  | _ => none
def zd_ii (rs : List UInt8) : Option (Instr × Nat) := match rs with
  | a :: b :: _ => some (.iinc a.toNat (Reader.signed 8 b.toNat), 3)
  | _ => none
theorem zd_bind {α β : Type} {r : Decoder α} {g : α → Decoder β} {c : ByteArray} {p s : Nat} {a : α} (h : r c p = .ok (a, s)) : (r >>= g) c p = g a c s := by
  show (r c p >>= fun (x : α × Nat) => g x.1 c x.2) = g a c s
  rw [h]
  rfl
theorem zd_map {α β : Type} {r : Decoder α} {f : α → β} {c : ByteArray} {p s : Nat} {a : α} (h : r c p = .ok (a, s)) : (f <$> r) c p = .ok (f a, s) := by
  show Except.map (fun x : α × Nat => (f x.1, x.2)) (r c p) = .ok (f a, s)
  rw [h]
  rfl
theorem zd_tail {l : List UInt8} {p : Nat} {a : UInt8} {r : List UInt8} (h : l.drop p = a :: r) : l.drop (p + 1) = r := by
  have := congrArg List.tail h
  rw [List.tail_drop] at this
  exact this
theorem zd_u1 {l : List UInt8} {p : Nat} {b : UInt8} {r : List UInt8} (h : l.drop p = b :: r) : (Reader.u1 : Decoder Nat) (ByteArray.mk (Array.mk l)) p = .ok (b.toNat, p + 1) := by
  have hp : p < l.length := by
    rcases Nat.lt_or_ge p l.length with q | q
    · exact q
    · rw [List.drop_eq_nil_of_le q] at h
      cases h
  have hx : l[p] = b := by
    have q := List.drop_eq_getElem_cons hp
    rw [h] at q
    exact (List.cons.inj q).1.symm
  have hs : p < (ByteArray.mk (Array.mk l)).size := hp
  show (if h : p < (ByteArray.mk (Array.mk l)).size then (do set (p + 1); Pure.pure ((ByteArray.mk (Array.mk l))[p]'h).toNat : Decoder Nat) else throw (HasTruncated.truncated p)) (ByteArray.mk (Array.mk l)) p = _
  rw [dif_pos hs]
  show Except.ok (((ByteArray.mk (Array.mk l))[p]'hs).toNat, p + 1) = _
  rw [show (ByteArray.mk (Array.mk l))[p]'hs = b from hx]
theorem zd_u2 {l : List UInt8} {p : Nat} {a b : UInt8} {r : List UInt8} (h : l.drop p = a :: b :: r) : (Reader.u2 : Decoder Nat) (ByteArray.mk (Array.mk l)) p = .ok (a.toNat * 256 + b.toNat, p + 1 + 1) := by
  show ((Reader.u1 : Decoder Nat) >>= fun hi => (Reader.u1 : Decoder Nat) >>= fun lo => (Pure.pure (hi * 256 + lo) : Decoder Nat)) (ByteArray.mk (Array.mk l)) p = _
  rw [zd_bind (zd_u1 h), zd_bind (zd_u1 (zd_tail h))]
  rfl
theorem zd_dec1 {c : ByteArray} {p q n : Nat} {i : Instr} (e : (Decoder.instr p) c p = .ok (i, q)) (hn : q - p = n) : decode c p = .ok (i, n) := by
  subst hn
  show ((Decoder.instr p) c p >>= fun (x : Instr × Nat) => (Pure.pure (x.1, x.2 - p) : Except DecodeError (Instr × Nat))) = _
  rw [e]
  rfl
section
variable {F : Nat → Nat → Decoder Instr} {l : List UInt8} {p k : Nat} {b : UInt8} {rs : List UInt8} {r : Instr × Nat}
theorem zd_n0 (hF : ∀ p, Decoder.instr p = (Reader.u1 >>= F p)) (hu : l.drop p = b :: rs) (hk : b.toNat = k) {i : Instr} (hi : F p k = Pure.pure i) (h : some (i, 1) = some r) : decode (ByteArray.mk (Array.mk l)) p = .ok r := by
  cases h
  refine zd_dec1 (q := p + 1) ?_ (by omega)
  rw [hF p, zd_bind (zd_u1 hu), hk, hi]
  rfl
theorem zd_1_ok (hF : ∀ p, Decoder.instr p = (Reader.u1 >>= F p)) (hu : l.drop p = b :: rs) (hk : b.toNat = k) {mk : Nat → Instr} (hi : F p k = (Reader.u1 >>= fun x => Pure.pure (mk x))) (h : zd_1 mk rs = some r) : decode (ByteArray.mk (Array.mk l)) p = .ok r := by
  rcases rs with - | ⟨a, rs⟩
  · cases h
  · have h : some (mk a.toNat, 2) = some r := h
    cases h
    refine zd_dec1 (q := p + 1 + 1) ?_ (by omega)
    rw [hF p, zd_bind (zd_u1 hu), hk, hi, zd_bind (zd_u1 (zd_tail hu))]
    rfl
theorem zd_2_ok (hF : ∀ p, Decoder.instr p = (Reader.u1 >>= F p)) (hu : l.drop p = b :: rs) (hk : b.toNat = k) {mk : Nat → Instr} (hi : F p k = (Reader.u2 >>= fun x => Pure.pure (mk x))) (h : zd_2 mk rs = some r) : decode (ByteArray.mk (Array.mk l)) p = .ok r := by
  rcases rs with - | ⟨a, - | ⟨a2, rs⟩⟩
  · cases h
  · cases h
  · have h : some (mk (a.toNat * 256 + a2.toNat), 3) = some r := h
    cases h
    refine zd_dec1 (q := p + 1 + 1 + 1) ?_ (by omega)
    rw [hF p, zd_bind (zd_u1 hu), hk, hi, zd_bind (zd_u2 (zd_tail hu))]
    rfl
theorem zd_s1_ok (hF : ∀ p, Decoder.instr p = (Reader.u1 >>= F p)) (hu : l.drop p = b :: rs) (hk : b.toNat = k) {mk : Int → Instr} (hi : F p k = (Reader.s1 >>= fun x => Pure.pure (mk x))) (h : zd_s1 mk rs = some r) : decode (ByteArray.mk (Array.mk l)) p = .ok r := by
  rcases rs with - | ⟨a, rs⟩
  · cases h
  · have h : some (mk (Reader.signed 8 a.toNat), 2) = some r := h
    cases h
    refine zd_dec1 (q := p + 1 + 1) ?_ (by omega)
    have e : (Reader.s1 : Decoder Int) (ByteArray.mk (Array.mk l)) (p + 1) = .ok (Reader.signed 8 a.toNat, p + 1 + 1) := zd_map (zd_u1 (zd_tail hu))
    rw [hF p, zd_bind (zd_u1 hu), hk, hi, zd_bind e]
    rfl
theorem zd_s2_ok (hF : ∀ p, Decoder.instr p = (Reader.u1 >>= F p)) (hu : l.drop p = b :: rs) (hk : b.toNat = k) {mk : Int → Instr} (hi : F p k = (Reader.s2 >>= fun x => Pure.pure (mk x))) (h : zd_s2 mk rs = some r) : decode (ByteArray.mk (Array.mk l)) p = .ok r := by
  rcases rs with - | ⟨a, - | ⟨a2, rs⟩⟩
  · cases h
  · cases h
  · have h : some (mk (Reader.signed 16 (a.toNat * 256 + a2.toNat)), 3) = some r := h
    cases h
    refine zd_dec1 (q := p + 1 + 1 + 1) ?_ (by omega)
    have e : (Reader.s2 : Decoder Int) (ByteArray.mk (Array.mk l)) (p + 1) = .ok (Reader.signed 16 (a.toNat * 256 + a2.toNat), p + 1 + 1 + 1) := zd_map (zd_u2 (zd_tail hu))
    rw [hF p, zd_bind (zd_u1 hu), hk, hi, zd_bind e]
    rfl
theorem zd_ii_ok (hF : ∀ p, Decoder.instr p = (Reader.u1 >>= F p)) (hu : l.drop p = b :: rs) (hk : b.toNat = k) (hi : F p k = (Reader.u1 >>= fun x => Reader.s1 >>= fun y => Pure.pure (Instr.iinc x y))) (h : zd_ii rs = some r) : decode (ByteArray.mk (Array.mk l)) p = .ok r := by
  rcases rs with - | ⟨a, - | ⟨a2, rs⟩⟩
  · cases h
  · cases h
  · have h : some (Instr.iinc a.toNat (Reader.signed 8 a2.toNat), 3) = some r := h
    cases h
    refine zd_dec1 (q := p + 1 + 1 + 1) ?_ (by omega)
    have e : (Reader.s1 : Decoder Int) (ByteArray.mk (Array.mk l)) (p + 1 + 1) = .ok (Reader.signed 8 a2.toNat, p + 1 + 1 + 1) := zd_map (zd_u1 (zd_tail (zd_tail hu)))
    rw [hF p, zd_bind (zd_u1 hu), hk, hi, zd_bind (zd_u1 (zd_tail hu)), zd_bind e]
    rfl
end
set_option maxRecDepth 20000 in
theorem zd_ex : ∃ F : Nat → Nat → Decoder Instr, (∀ p, Decoder.instr p = (Reader.u1 >>= F p)) ∧ (∀ p, F p 2 = Pure.pure (.iconst (-1) : Instr)) ∧ (∀ p, F p 3 = Pure.pure (.iconst 0 : Instr)) ∧ (∀ p, F p 4 = Pure.pure (.iconst 1 : Instr)) ∧ (∀ p, F p 5 = Pure.pure (.iconst 2 : Instr)) ∧ (∀ p, F p 6 = Pure.pure (.iconst 3 : Instr)) ∧ (∀ p, F p 7 = Pure.pure (.iconst 4 : Instr)) ∧ (∀ p, F p 8 = Pure.pure (.iconst 5 : Instr)) ∧ (∀ p, F p 9 = Pure.pure (.lconst 0 : Instr)) ∧ (∀ p, F p 10 = Pure.pure (.lconst 1 : Instr)) ∧ (∀ p, F p 16 = (Reader.s1 >>= fun x => Pure.pure (.bipush x : Instr))) ∧ (∀ p, F p 17 = (Reader.s2 >>= fun x => Pure.pure (.sipush x : Instr))) ∧ (∀ p, F p 20 = (Reader.u2 >>= fun x => Pure.pure (.ldc2_w x : Instr))) ∧ (∀ p, F p 21 = (Reader.u1 >>= fun x => Pure.pure (.iload x : Instr))) ∧ (∀ p, F p 26 = Pure.pure (.iload_n 0 : Instr)) ∧ (∀ p, F p 27 = Pure.pure (.iload_n 1 : Instr)) ∧ (∀ p, F p 28 = Pure.pure (.iload_n 2 : Instr)) ∧ (∀ p, F p 29 = Pure.pure (.iload_n 3 : Instr)) ∧ (∀ p, F p 30 = Pure.pure (.lload_n 0 : Instr)) ∧ (∀ p, F p 31 = Pure.pure (.lload_n 1 : Instr)) ∧ (∀ p, F p 32 = Pure.pure (.lload_n 2 : Instr)) ∧ (∀ p, F p 33 = Pure.pure (.lload_n 3 : Instr)) ∧ (∀ p, F p 42 = Pure.pure (.aload_n 0 : Instr)) ∧ (∀ p, F p 43 = Pure.pure (.aload_n 1 : Instr)) ∧ (∀ p, F p 44 = Pure.pure (.aload_n 2 : Instr)) ∧ (∀ p, F p 45 = Pure.pure (.aload_n 3 : Instr)) ∧ (∀ p, F p 46 = Pure.pure (.iaload : Instr)) ∧ (∀ p, F p 51 = Pure.pure (.baload : Instr)) ∧ (∀ p, F p 54 = (Reader.u1 >>= fun x => Pure.pure (.istore x : Instr))) ∧ (∀ p, F p 59 = Pure.pure (.istore_n 0 : Instr)) ∧ (∀ p, F p 60 = Pure.pure (.istore_n 1 : Instr)) ∧ (∀ p, F p 61 = Pure.pure (.istore_n 2 : Instr)) ∧ (∀ p, F p 62 = Pure.pure (.istore_n 3 : Instr)) ∧ (∀ p, F p 63 = Pure.pure (.lstore_n 0 : Instr)) ∧ (∀ p, F p 64 = Pure.pure (.lstore_n 1 : Instr)) ∧ (∀ p, F p 65 = Pure.pure (.lstore_n 2 : Instr)) ∧ (∀ p, F p 66 = Pure.pure (.lstore_n 3 : Instr)) ∧ (∀ p, F p 79 = Pure.pure (.iastore : Instr)) ∧ (∀ p, F p 89 = Pure.pure (.dup : Instr)) ∧ (∀ p, F p 92 = Pure.pure (.dup2 : Instr)) ∧ (∀ p, F p 96 = Pure.pure (.iadd : Instr)) ∧ (∀ p, F p 100 = Pure.pure (.isub : Instr)) ∧ (∀ p, F p 104 = Pure.pure (.imul : Instr)) ∧ (∀ p, F p 112 = Pure.pure (.irem : Instr)) ∧ (∀ p, F p 122 = Pure.pure (.ishr : Instr)) ∧ (∀ p, F p 126 = Pure.pure (.iand : Instr)) ∧ (∀ p, F p 132 = (Reader.u1 >>= fun x => Reader.s1 >>= fun y => Pure.pure (Instr.iinc x y))) ∧ (∀ p, F p 148 = Pure.pure (.lcmp : Instr)) ∧ (∀ p, F p 153 = (Reader.s2 >>= fun x => Pure.pure (.ifCond .eq x : Instr))) ∧ (∀ p, F p 154 = (Reader.s2 >>= fun x => Pure.pure (.ifCond .ne x : Instr))) ∧ (∀ p, F p 155 = (Reader.s2 >>= fun x => Pure.pure (.ifCond .lt x : Instr))) ∧ (∀ p, F p 156 = (Reader.s2 >>= fun x => Pure.pure (.ifCond .ge x : Instr))) ∧ (∀ p, F p 157 = (Reader.s2 >>= fun x => Pure.pure (.ifCond .gt x : Instr))) ∧ (∀ p, F p 158 = (Reader.s2 >>= fun x => Pure.pure (.ifCond .le x : Instr))) ∧ (∀ p, F p 159 = (Reader.s2 >>= fun x => Pure.pure (.if_icmp .eq x : Instr))) ∧ (∀ p, F p 160 = (Reader.s2 >>= fun x => Pure.pure (.if_icmp .ne x : Instr))) ∧ (∀ p, F p 161 = (Reader.s2 >>= fun x => Pure.pure (.if_icmp .lt x : Instr))) ∧ (∀ p, F p 162 = (Reader.s2 >>= fun x => Pure.pure (.if_icmp .ge x : Instr))) ∧ (∀ p, F p 163 = (Reader.s2 >>= fun x => Pure.pure (.if_icmp .gt x : Instr))) ∧ (∀ p, F p 164 = (Reader.s2 >>= fun x => Pure.pure (.if_icmp .le x : Instr))) ∧ (∀ p, F p 167 = (Reader.s2 >>= fun x => Pure.pure (.goto x : Instr))) ∧ (∀ p, F p 172 = Pure.pure (.ireturn : Instr)) ∧ (∀ p, F p 177 = Pure.pure (.return_ : Instr)) ∧ (∀ p, F p 180 = (Reader.u2 >>= fun x => Pure.pure (.getfield x : Instr))) ∧ (∀ p, F p 181 = (Reader.u2 >>= fun x => Pure.pure (.putfield x : Instr))) ∧ (∀ p, F p 182 = (Reader.u2 >>= fun x => Pure.pure (.invokevirtual x : Instr))) ∧ (∀ p, F p 184 = (Reader.u2 >>= fun x => Pure.pure (.invokestatic x : Instr))) :=
  ⟨_, fun p => rfl, fun p => rfl, fun p => rfl, fun p => rfl, fun p => rfl, fun p => rfl, fun p => rfl, fun p => rfl, fun p => rfl, fun p => rfl, fun p => rfl, fun p => rfl, fun p => rfl, fun p => rfl, fun p => rfl, fun p => rfl, fun p => rfl, fun p => rfl, fun p => rfl, fun p => rfl, fun p => rfl, fun p => rfl, fun p => rfl, fun p => rfl, fun p => rfl, fun p => rfl, fun p => rfl, fun p => rfl, fun p => rfl, fun p => rfl, fun p => rfl, fun p => rfl, fun p => rfl, fun p => rfl, fun p => rfl, fun p => rfl, fun p => rfl, fun p => rfl, fun p => rfl, fun p => rfl, fun p => rfl, fun p => rfl, fun p => rfl, fun p => rfl, fun p => rfl, fun p => rfl, fun p => rfl, fun p => rfl, fun p => rfl, fun p => rfl, fun p => rfl, fun p => rfl, fun p => rfl, fun p => rfl, fun p => rfl, fun p => rfl, fun p => rfl, fun p => rfl, fun p => rfl, fun p => rfl, fun p => rfl, fun p => rfl, fun p => rfl, fun p => rfl, fun p => rfl, fun p => rfl, fun p => rfl⟩
noncomputable def zd_t (k : Nat) (rs : List UInt8) : Option (Instr × Nat) := cond (Nat.blt k 64) (cond (Nat.blt k 29) (cond (Nat.blt k 10) (cond (Nat.blt k 6) (cond (Nat.blt k 4) (cond (Nat.blt k 3) (cond (Nat.beq k 2) (some ((.iconst (-1)), 1)) none) (cond (Nat.beq k 3) (some ((.iconst 0), 1)) none)) (cond (Nat.blt k 5) (cond (Nat.beq k 4) (some ((.iconst 1), 1)) none) (cond (Nat.beq k 5) (some ((.iconst 2), 1)) none))) (cond (Nat.blt k 8) (cond (Nat.blt k 7) (cond (Nat.beq k 6) (some ((.iconst 3), 1)) none) (cond (Nat.beq k 7) (some ((.iconst 4), 1)) none)) (cond (Nat.blt k 9) (cond (Nat.beq k 8) (some ((.iconst 5), 1)) none) (cond (Nat.beq k 9) (some ((.lconst 0), 1)) none)))) (cond (Nat.blt k 21) (cond (Nat.blt k 17) (cond (Nat.blt k 16) (cond (Nat.beq k 10) (some ((.lconst 1), 1)) none) (cond (Nat.beq k 16) (zd_s1 (fun x : Int => .bipush x) rs) none)) (cond (Nat.blt k 20) (cond (Nat.beq k 17) (zd_s2 (fun x : Int => .sipush x) rs) none) (cond (Nat.beq k 20) (zd_2 (fun x : Nat => .ldc2_w x) rs) none))) (cond (Nat.blt k 27) (cond (Nat.blt k 26) (cond (Nat.beq k 21) (zd_1 (fun x : Nat => .iload x) rs) none) (cond (Nat.beq k 26) (some ((.iload_n 0), 1)) none)) (cond (Nat.blt k 28) (cond (Nat.beq k 27) (some ((.iload_n 1), 1)) none) (cond (Nat.beq k 28) (some ((.iload_n 2), 1)) none))))) (cond (Nat.blt k 45) (cond (Nat.blt k 33) (cond (Nat.blt k 31) (cond (Nat.blt k 30) (cond (Nat.beq k 29) (some ((.iload_n 3), 1)) none) (cond (Nat.beq k 30) (some ((.lload_n 0), 1)) none)) (cond (Nat.blt k 32) (cond (Nat.beq k 31) (some ((.lload_n 1), 1)) none) (cond (Nat.beq k 32) (some ((.lload_n 2), 1)) none))) (cond (Nat.blt k 43) (cond (Nat.blt k 42) (cond (Nat.beq k 33) (some ((.lload_n 3), 1)) none) (cond (Nat.beq k 42) (some ((.aload_n 0), 1)) none)) (cond (Nat.blt k 44) (cond (Nat.beq k 43) (some ((.aload_n 1), 1)) none) (cond (Nat.beq k 44) (some ((.aload_n 2), 1)) none)))) (cond (Nat.blt k 59) (cond (Nat.blt k 51) (cond (Nat.blt k 46) (cond (Nat.beq k 45) (some ((.aload_n 3), 1)) none) (cond (Nat.beq k 46) (some (.iaload, 1)) none)) (cond (Nat.blt k 54) (cond (Nat.beq k 51) (some (.baload, 1)) none) (cond (Nat.beq k 54) (zd_1 (fun x : Nat => .istore x) rs) none))) (cond (Nat.blt k 61) (cond (Nat.blt k 60) (cond (Nat.beq k 59) (some ((.istore_n 0), 1)) none) (cond (Nat.beq k 60) (some ((.istore_n 1), 1)) none)) (cond (Nat.blt k 62) (cond (Nat.beq k 61) (some ((.istore_n 2), 1)) none) (cond (Nat.blt k 63) (cond (Nat.beq k 62) (some ((.istore_n 3), 1)) none) (cond (Nat.beq k 63) (some ((.lstore_n 0), 1)) none))))))) (cond (Nat.blt k 155) (cond (Nat.blt k 104) (cond (Nat.blt k 89) (cond (Nat.blt k 66) (cond (Nat.blt k 65) (cond (Nat.beq k 64) (some ((.lstore_n 1), 1)) none) (cond (Nat.beq k 65) (some ((.lstore_n 2), 1)) none)) (cond (Nat.blt k 79) (cond (Nat.beq k 66) (some ((.lstore_n 3), 1)) none) (cond (Nat.beq k 79) (some (.iastore, 1)) none))) (cond (Nat.blt k 96) (cond (Nat.blt k 92) (cond (Nat.beq k 89) (some (.dup, 1)) none) (cond (Nat.beq k 92) (some (.dup2, 1)) none)) (cond (Nat.blt k 100) (cond (Nat.beq k 96) (some (.iadd, 1)) none) (cond (Nat.beq k 100) (some (.isub, 1)) none)))) (cond (Nat.blt k 132) (cond (Nat.blt k 122) (cond (Nat.blt k 112) (cond (Nat.beq k 104) (some (.imul, 1)) none) (cond (Nat.beq k 112) (some (.irem, 1)) none)) (cond (Nat.blt k 126) (cond (Nat.beq k 122) (some (.ishr, 1)) none) (cond (Nat.beq k 126) (some (.iand, 1)) none))) (cond (Nat.blt k 153) (cond (Nat.blt k 148) (cond (Nat.beq k 132) (zd_ii rs) none) (cond (Nat.beq k 148) (some (.lcmp, 1)) none)) (cond (Nat.blt k 154) (cond (Nat.beq k 153) (zd_s2 (fun x : Int => .ifCond .eq x) rs) none) (cond (Nat.beq k 154) (zd_s2 (fun x : Int => .ifCond .ne x) rs) none))))) (cond (Nat.blt k 163) (cond (Nat.blt k 159) (cond (Nat.blt k 157) (cond (Nat.blt k 156) (cond (Nat.beq k 155) (zd_s2 (fun x : Int => .ifCond .lt x) rs) none) (cond (Nat.beq k 156) (zd_s2 (fun x : Int => .ifCond .ge x) rs) none)) (cond (Nat.blt k 158) (cond (Nat.beq k 157) (zd_s2 (fun x : Int => .ifCond .gt x) rs) none) (cond (Nat.beq k 158) (zd_s2 (fun x : Int => .ifCond .le x) rs) none))) (cond (Nat.blt k 161) (cond (Nat.blt k 160) (cond (Nat.beq k 159) (zd_s2 (fun x : Int => .if_icmp .eq x) rs) none) (cond (Nat.beq k 160) (zd_s2 (fun x : Int => .if_icmp .ne x) rs) none)) (cond (Nat.blt k 162) (cond (Nat.beq k 161) (zd_s2 (fun x : Int => .if_icmp .lt x) rs) none) (cond (Nat.beq k 162) (zd_s2 (fun x : Int => .if_icmp .ge x) rs) none)))) (cond (Nat.blt k 177) (cond (Nat.blt k 167) (cond (Nat.blt k 164) (cond (Nat.beq k 163) (zd_s2 (fun x : Int => .if_icmp .gt x) rs) none) (cond (Nat.beq k 164) (zd_s2 (fun x : Int => .if_icmp .le x) rs) none)) (cond (Nat.blt k 172) (cond (Nat.beq k 167) (zd_s2 (fun x : Int => .goto x) rs) none) (cond (Nat.beq k 172) (some (.ireturn, 1)) none))) (cond (Nat.blt k 181) (cond (Nat.blt k 180) (cond (Nat.beq k 177) (some (.return_, 1)) none) (cond (Nat.beq k 180) (zd_2 (fun x : Nat => .getfield x) rs) none)) (cond (Nat.blt k 182) (cond (Nat.beq k 181) (zd_2 (fun x : Nat => .putfield x) rs) none) (cond (Nat.blt k 184) (cond (Nat.beq k 182) (zd_2 (fun x : Nat => .invokevirtual x) rs) none) (cond (Nat.beq k 184) (zd_2 (fun x : Nat => .invokestatic x) rs) none)))))))
set_option maxRecDepth 20000 in
theorem zd_t_ok {l : List UInt8} {p k : Nat} {b : UInt8} {rs : List UInt8} {r : Instr × Nat} (hu : l.drop p = b :: rs) (hk : b.toNat = k) (h : zd_t k rs = some r) : decode (ByteArray.mk (Array.mk l)) p = .ok r := by
  obtain ⟨F, hF, q2, q3, q4, q5, q6, q7, q8, q9, q10, q16, q17, q20, q21, q26, q27, q28, q29, q30, q31, q32, q33, q42, q43, q44, q45, q46, q51, q54, q59, q60, q61, q62, q63, q64, q65, q66, q79, q89, q92, q96, q100, q104, q112, q122, q126, q132, q148, q153, q154, q155, q156, q157, q158, q159, q160, q161, q162, q163, q164, q167, q172, q177, q180, q181, q182, q184⟩ := zd_ex
  unfold zd_t at h
  cases e : Nat.blt k 64 with
  | true =>
    rw [e, cond_true] at h
    cases e : Nat.blt k 29 with
    | true =>
      rw [e, cond_true] at h
      cases e : Nat.blt k 10 with
      | true =>
        rw [e, cond_true] at h
        cases e : Nat.blt k 6 with
        | true =>
          rw [e, cond_true] at h
          cases e : Nat.blt k 4 with
          | true =>
            rw [e, cond_true] at h
            cases e : Nat.blt k 3 with
            | true =>
              rw [e, cond_true] at h
              cases e : Nat.beq k 2 with
              | false => rw [e, cond_false] at h; cases h
              | true => rw [e, cond_true] at h; exact zd_n0 hF hu (hk.trans (Nat.eq_of_beq_eq_true e)) (q2 p) h
            | false =>
              rw [e, cond_false] at h
              cases e : Nat.beq k 3 with
              | false => rw [e, cond_false] at h; cases h
              | true => rw [e, cond_true] at h; exact zd_n0 hF hu (hk.trans (Nat.eq_of_beq_eq_true e)) (q3 p) h
          | false =>
            rw [e, cond_false] at h
            cases e : Nat.blt k 5 with
            | true =>
              rw [e, cond_true] at h
              cases e : Nat.beq k 4 with
              | false => rw [e, cond_false] at h; cases h
              | true => rw [e, cond_true] at h; exact zd_n0 hF hu (hk.trans (Nat.eq_of_beq_eq_true e)) (q4 p) h
            | false =>
              rw [e, cond_false] at h
              cases e : Nat.beq k 5 with
              | false => rw [e, cond_false] at h; cases h
              | true => rw [e, cond_true] at h; exact zd_n0 hF hu (hk.trans (Nat.eq_of_beq_eq_true e)) (q5 p) h
        | false =>
          rw [e, cond_false] at h
          cases e : Nat.blt k 8 with
          | true =>
            rw [e, cond_true] at h
            cases e : Nat.blt k 7 with
            | true =>
              rw [e, cond_true] at h
              cases e : Nat.beq k 6 with
              | false => rw [e, cond_false] at h; cases h
              | true => rw [e, cond_true] at h; exact zd_n0 hF hu (hk.trans (Nat.eq_of_beq_eq_true e)) (q6 p) h
            | false =>
              rw [e, cond_false] at h
              cases e : Nat.beq k 7 with
              | false => rw [e, cond_false] at h; cases h
              | true => rw [e, cond_true] at h; exact zd_n0 hF hu (hk.trans (Nat.eq_of_beq_eq_true e)) (q7 p) h
          | false =>
            rw [e, cond_false] at h
            cases e : Nat.blt k 9 with
            | true =>
              rw [e, cond_true] at h
              cases e : Nat.beq k 8 with
              | false => rw [e, cond_false] at h; cases h
              | true => rw [e, cond_true] at h; exact zd_n0 hF hu (hk.trans (Nat.eq_of_beq_eq_true e)) (q8 p) h
            | false =>
              rw [e, cond_false] at h
              cases e : Nat.beq k 9 with
              | false => rw [e, cond_false] at h; cases h
              | true => rw [e, cond_true] at h; exact zd_n0 hF hu (hk.trans (Nat.eq_of_beq_eq_true e)) (q9 p) h
      | false =>
        rw [e, cond_false] at h
        cases e : Nat.blt k 21 with
        | true =>
          rw [e, cond_true] at h
          cases e : Nat.blt k 17 with
          | true =>
            rw [e, cond_true] at h
            cases e : Nat.blt k 16 with
            | true =>
              rw [e, cond_true] at h
              cases e : Nat.beq k 10 with
              | false => rw [e, cond_false] at h; cases h
              | true => rw [e, cond_true] at h; exact zd_n0 hF hu (hk.trans (Nat.eq_of_beq_eq_true e)) (q10 p) h
            | false =>
              rw [e, cond_false] at h
              cases e : Nat.beq k 16 with
              | false => rw [e, cond_false] at h; cases h
              | true => rw [e, cond_true] at h; exact zd_s1_ok hF hu (hk.trans (Nat.eq_of_beq_eq_true e)) (q16 p) h
          | false =>
            rw [e, cond_false] at h
            cases e : Nat.blt k 20 with
            | true =>
              rw [e, cond_true] at h
              cases e : Nat.beq k 17 with
              | false => rw [e, cond_false] at h; cases h
              | true => rw [e, cond_true] at h; exact zd_s2_ok hF hu (hk.trans (Nat.eq_of_beq_eq_true e)) (q17 p) h
            | false =>
              rw [e, cond_false] at h
              cases e : Nat.beq k 20 with
              | false => rw [e, cond_false] at h; cases h
              | true => rw [e, cond_true] at h; exact zd_2_ok hF hu (hk.trans (Nat.eq_of_beq_eq_true e)) (q20 p) h
        | false =>
          rw [e, cond_false] at h
          cases e : Nat.blt k 27 with
          | true =>
            rw [e, cond_true] at h
            cases e : Nat.blt k 26 with
            | true =>
              rw [e, cond_true] at h
              cases e : Nat.beq k 21 with
              | false => rw [e, cond_false] at h; cases h
              | true => rw [e, cond_true] at h; exact zd_1_ok hF hu (hk.trans (Nat.eq_of_beq_eq_true e)) (q21 p) h
            | false =>
              rw [e, cond_false] at h
              cases e : Nat.beq k 26 with
              | false => rw [e, cond_false] at h; cases h
              | true => rw [e, cond_true] at h; exact zd_n0 hF hu (hk.trans (Nat.eq_of_beq_eq_true e)) (q26 p) h
          | false =>
            rw [e, cond_false] at h
            cases e : Nat.blt k 28 with
            | true =>
              rw [e, cond_true] at h
              cases e : Nat.beq k 27 with
              | false => rw [e, cond_false] at h; cases h
              | true => rw [e, cond_true] at h; exact zd_n0 hF hu (hk.trans (Nat.eq_of_beq_eq_true e)) (q27 p) h
            | false =>
              rw [e, cond_false] at h
              cases e : Nat.beq k 28 with
              | false => rw [e, cond_false] at h; cases h
              | true => rw [e, cond_true] at h; exact zd_n0 hF hu (hk.trans (Nat.eq_of_beq_eq_true e)) (q28 p) h
    | false =>
      rw [e, cond_false] at h
      cases e : Nat.blt k 45 with
      | true =>
        rw [e, cond_true] at h
        cases e : Nat.blt k 33 with
        | true =>
          rw [e, cond_true] at h
          cases e : Nat.blt k 31 with
          | true =>
            rw [e, cond_true] at h
            cases e : Nat.blt k 30 with
            | true =>
              rw [e, cond_true] at h
              cases e : Nat.beq k 29 with
              | false => rw [e, cond_false] at h; cases h
              | true => rw [e, cond_true] at h; exact zd_n0 hF hu (hk.trans (Nat.eq_of_beq_eq_true e)) (q29 p) h
            | false =>
              rw [e, cond_false] at h
              cases e : Nat.beq k 30 with
              | false => rw [e, cond_false] at h; cases h
              | true => rw [e, cond_true] at h; exact zd_n0 hF hu (hk.trans (Nat.eq_of_beq_eq_true e)) (q30 p) h
          | false =>
            rw [e, cond_false] at h
            cases e : Nat.blt k 32 with
            | true =>
              rw [e, cond_true] at h
              cases e : Nat.beq k 31 with
              | false => rw [e, cond_false] at h; cases h
              | true => rw [e, cond_true] at h; exact zd_n0 hF hu (hk.trans (Nat.eq_of_beq_eq_true e)) (q31 p) h
            | false =>
              rw [e, cond_false] at h
              cases e : Nat.beq k 32 with
              | false => rw [e, cond_false] at h; cases h
              | true => rw [e, cond_true] at h; exact zd_n0 hF hu (hk.trans (Nat.eq_of_beq_eq_true e)) (q32 p) h
        | false =>
          rw [e, cond_false] at h
          cases e : Nat.blt k 43 with
          | true =>
            rw [e, cond_true] at h
            cases e : Nat.blt k 42 with
            | true =>
              rw [e, cond_true] at h
              cases e : Nat.beq k 33 with
              | false => rw [e, cond_false] at h; cases h
              | true => rw [e, cond_true] at h; exact zd_n0 hF hu (hk.trans (Nat.eq_of_beq_eq_true e)) (q33 p) h
            | false =>
              rw [e, cond_false] at h
              cases e : Nat.beq k 42 with
              | false => rw [e, cond_false] at h; cases h
              | true => rw [e, cond_true] at h; exact zd_n0 hF hu (hk.trans (Nat.eq_of_beq_eq_true e)) (q42 p) h
          | false =>
            rw [e, cond_false] at h
            cases e : Nat.blt k 44 with
            | true =>
              rw [e, cond_true] at h
              cases e : Nat.beq k 43 with
              | false => rw [e, cond_false] at h; cases h
              | true => rw [e, cond_true] at h; exact zd_n0 hF hu (hk.trans (Nat.eq_of_beq_eq_true e)) (q43 p) h
            | false =>
              rw [e, cond_false] at h
              cases e : Nat.beq k 44 with
              | false => rw [e, cond_false] at h; cases h
              | true => rw [e, cond_true] at h; exact zd_n0 hF hu (hk.trans (Nat.eq_of_beq_eq_true e)) (q44 p) h
      | false =>
        rw [e, cond_false] at h
        cases e : Nat.blt k 59 with
        | true =>
          rw [e, cond_true] at h
          cases e : Nat.blt k 51 with
          | true =>
            rw [e, cond_true] at h
            cases e : Nat.blt k 46 with
            | true =>
              rw [e, cond_true] at h
              cases e : Nat.beq k 45 with
              | false => rw [e, cond_false] at h; cases h
              | true => rw [e, cond_true] at h; exact zd_n0 hF hu (hk.trans (Nat.eq_of_beq_eq_true e)) (q45 p) h
            | false =>
              rw [e, cond_false] at h
              cases e : Nat.beq k 46 with
              | false => rw [e, cond_false] at h; cases h
              | true => rw [e, cond_true] at h; exact zd_n0 hF hu (hk.trans (Nat.eq_of_beq_eq_true e)) (q46 p) h
          | false =>
            rw [e, cond_false] at h
            cases e : Nat.blt k 54 with
            | true =>
              rw [e, cond_true] at h
              cases e : Nat.beq k 51 with
              | false => rw [e, cond_false] at h; cases h
              | true => rw [e, cond_true] at h; exact zd_n0 hF hu (hk.trans (Nat.eq_of_beq_eq_true e)) (q51 p) h
            | false =>
              rw [e, cond_false] at h
              cases e : Nat.beq k 54 with
              | false => rw [e, cond_false] at h; cases h
              | true => rw [e, cond_true] at h; exact zd_1_ok hF hu (hk.trans (Nat.eq_of_beq_eq_true e)) (q54 p) h
        | false =>
          rw [e, cond_false] at h
          cases e : Nat.blt k 61 with
          | true =>
            rw [e, cond_true] at h
            cases e : Nat.blt k 60 with
            | true =>
              rw [e, cond_true] at h
              cases e : Nat.beq k 59 with
              | false => rw [e, cond_false] at h; cases h
              | true => rw [e, cond_true] at h; exact zd_n0 hF hu (hk.trans (Nat.eq_of_beq_eq_true e)) (q59 p) h
            | false =>
              rw [e, cond_false] at h
              cases e : Nat.beq k 60 with
              | false => rw [e, cond_false] at h; cases h
              | true => rw [e, cond_true] at h; exact zd_n0 hF hu (hk.trans (Nat.eq_of_beq_eq_true e)) (q60 p) h
          | false =>
            rw [e, cond_false] at h
            cases e : Nat.blt k 62 with
            | true =>
              rw [e, cond_true] at h
              cases e : Nat.beq k 61 with
              | false => rw [e, cond_false] at h; cases h
              | true => rw [e, cond_true] at h; exact zd_n0 hF hu (hk.trans (Nat.eq_of_beq_eq_true e)) (q61 p) h
            | false =>
              rw [e, cond_false] at h
              cases e : Nat.blt k 63 with
              | true =>
                rw [e, cond_true] at h
                cases e : Nat.beq k 62 with
                | false => rw [e, cond_false] at h; cases h
                | true => rw [e, cond_true] at h; exact zd_n0 hF hu (hk.trans (Nat.eq_of_beq_eq_true e)) (q62 p) h
              | false =>
                rw [e, cond_false] at h
                cases e : Nat.beq k 63 with
                | false => rw [e, cond_false] at h; cases h
                | true => rw [e, cond_true] at h; exact zd_n0 hF hu (hk.trans (Nat.eq_of_beq_eq_true e)) (q63 p) h
  | false =>
    rw [e, cond_false] at h
    cases e : Nat.blt k 155 with
    | true =>
      rw [e, cond_true] at h
      cases e : Nat.blt k 104 with
      | true =>
        rw [e, cond_true] at h
        cases e : Nat.blt k 89 with
        | true =>
          rw [e, cond_true] at h
          cases e : Nat.blt k 66 with
          | true =>
            rw [e, cond_true] at h
            cases e : Nat.blt k 65 with
            | true =>
              rw [e, cond_true] at h
              cases e : Nat.beq k 64 with
              | false => rw [e, cond_false] at h; cases h
              | true => rw [e, cond_true] at h; exact zd_n0 hF hu (hk.trans (Nat.eq_of_beq_eq_true e)) (q64 p) h
            | false =>
              rw [e, cond_false] at h
              cases e : Nat.beq k 65 with
              | false => rw [e, cond_false] at h; cases h
              | true => rw [e, cond_true] at h; exact zd_n0 hF hu (hk.trans (Nat.eq_of_beq_eq_true e)) (q65 p) h
          | false =>
            rw [e, cond_false] at h
            cases e : Nat.blt k 79 with
            | true =>
              rw [e, cond_true] at h
              cases e : Nat.beq k 66 with
              | false => rw [e, cond_false] at h; cases h
              | true => rw [e, cond_true] at h; exact zd_n0 hF hu (hk.trans (Nat.eq_of_beq_eq_true e)) (q66 p) h
            | false =>
              rw [e, cond_false] at h
              cases e : Nat.beq k 79 with
              | false => rw [e, cond_false] at h; cases h
              | true => rw [e, cond_true] at h; exact zd_n0 hF hu (hk.trans (Nat.eq_of_beq_eq_true e)) (q79 p) h
        | false =>
          rw [e, cond_false] at h
          cases e : Nat.blt k 96 with
          | true =>
            rw [e, cond_true] at h
            cases e : Nat.blt k 92 with
            | true =>
              rw [e, cond_true] at h
              cases e : Nat.beq k 89 with
              | false => rw [e, cond_false] at h; cases h
              | true => rw [e, cond_true] at h; exact zd_n0 hF hu (hk.trans (Nat.eq_of_beq_eq_true e)) (q89 p) h
            | false =>
              rw [e, cond_false] at h
              cases e : Nat.beq k 92 with
              | false => rw [e, cond_false] at h; cases h
              | true => rw [e, cond_true] at h; exact zd_n0 hF hu (hk.trans (Nat.eq_of_beq_eq_true e)) (q92 p) h
          | false =>
            rw [e, cond_false] at h
            cases e : Nat.blt k 100 with
            | true =>
              rw [e, cond_true] at h
              cases e : Nat.beq k 96 with
              | false => rw [e, cond_false] at h; cases h
              | true => rw [e, cond_true] at h; exact zd_n0 hF hu (hk.trans (Nat.eq_of_beq_eq_true e)) (q96 p) h
            | false =>
              rw [e, cond_false] at h
              cases e : Nat.beq k 100 with
              | false => rw [e, cond_false] at h; cases h
              | true => rw [e, cond_true] at h; exact zd_n0 hF hu (hk.trans (Nat.eq_of_beq_eq_true e)) (q100 p) h
      | false =>
        rw [e, cond_false] at h
        cases e : Nat.blt k 132 with
        | true =>
          rw [e, cond_true] at h
          cases e : Nat.blt k 122 with
          | true =>
            rw [e, cond_true] at h
            cases e : Nat.blt k 112 with
            | true =>
              rw [e, cond_true] at h
              cases e : Nat.beq k 104 with
              | false => rw [e, cond_false] at h; cases h
              | true => rw [e, cond_true] at h; exact zd_n0 hF hu (hk.trans (Nat.eq_of_beq_eq_true e)) (q104 p) h
            | false =>
              rw [e, cond_false] at h
              cases e : Nat.beq k 112 with
              | false => rw [e, cond_false] at h; cases h
              | true => rw [e, cond_true] at h; exact zd_n0 hF hu (hk.trans (Nat.eq_of_beq_eq_true e)) (q112 p) h
          | false =>
            rw [e, cond_false] at h
            cases e : Nat.blt k 126 with
            | true =>
              rw [e, cond_true] at h
              cases e : Nat.beq k 122 with
              | false => rw [e, cond_false] at h; cases h
              | true => rw [e, cond_true] at h; exact zd_n0 hF hu (hk.trans (Nat.eq_of_beq_eq_true e)) (q122 p) h
            | false =>
              rw [e, cond_false] at h
              cases e : Nat.beq k 126 with
              | false => rw [e, cond_false] at h; cases h
              | true => rw [e, cond_true] at h; exact zd_n0 hF hu (hk.trans (Nat.eq_of_beq_eq_true e)) (q126 p) h
        | false =>
          rw [e, cond_false] at h
          cases e : Nat.blt k 153 with
          | true =>
            rw [e, cond_true] at h
            cases e : Nat.blt k 148 with
            | true =>
              rw [e, cond_true] at h
              cases e : Nat.beq k 132 with
              | false => rw [e, cond_false] at h; cases h
              | true => rw [e, cond_true] at h; exact zd_ii_ok hF hu (hk.trans (Nat.eq_of_beq_eq_true e)) (q132 p) h
            | false =>
              rw [e, cond_false] at h
              cases e : Nat.beq k 148 with
              | false => rw [e, cond_false] at h; cases h
              | true => rw [e, cond_true] at h; exact zd_n0 hF hu (hk.trans (Nat.eq_of_beq_eq_true e)) (q148 p) h
          | false =>
            rw [e, cond_false] at h
            cases e : Nat.blt k 154 with
            | true =>
              rw [e, cond_true] at h
              cases e : Nat.beq k 153 with
              | false => rw [e, cond_false] at h; cases h
              | true => rw [e, cond_true] at h; exact zd_s2_ok hF hu (hk.trans (Nat.eq_of_beq_eq_true e)) (q153 p) h
            | false =>
              rw [e, cond_false] at h
              cases e : Nat.beq k 154 with
              | false => rw [e, cond_false] at h; cases h
              | true => rw [e, cond_true] at h; exact zd_s2_ok hF hu (hk.trans (Nat.eq_of_beq_eq_true e)) (q154 p) h
    | false =>
      rw [e, cond_false] at h
      cases e : Nat.blt k 163 with
      | true =>
        rw [e, cond_true] at h
        cases e : Nat.blt k 159 with
        | true =>
          rw [e, cond_true] at h
          cases e : Nat.blt k 157 with
          | true =>
            rw [e, cond_true] at h
            cases e : Nat.blt k 156 with
            | true =>
              rw [e, cond_true] at h
              cases e : Nat.beq k 155 with
              | false => rw [e, cond_false] at h; cases h
              | true => rw [e, cond_true] at h; exact zd_s2_ok hF hu (hk.trans (Nat.eq_of_beq_eq_true e)) (q155 p) h
            | false =>
              rw [e, cond_false] at h
              cases e : Nat.beq k 156 with
              | false => rw [e, cond_false] at h; cases h
              | true => rw [e, cond_true] at h; exact zd_s2_ok hF hu (hk.trans (Nat.eq_of_beq_eq_true e)) (q156 p) h
          | false =>
            rw [e, cond_false] at h
            cases e : Nat.blt k 158 with
            | true =>
              rw [e, cond_true] at h
              cases e : Nat.beq k 157 with
              | false => rw [e, cond_false] at h; cases h
              | true => rw [e, cond_true] at h; exact zd_s2_ok hF hu (hk.trans (Nat.eq_of_beq_eq_true e)) (q157 p) h
            | false =>
              rw [e, cond_false] at h
              cases e : Nat.beq k 158 with
              | false => rw [e, cond_false] at h; cases h
              | true => rw [e, cond_true] at h; exact zd_s2_ok hF hu (hk.trans (Nat.eq_of_beq_eq_true e)) (q158 p) h
        | false =>
          rw [e, cond_false] at h
          cases e : Nat.blt k 161 with
          | true =>
            rw [e, cond_true] at h
            cases e : Nat.blt k 160 with
            | true =>
              rw [e, cond_true] at h
              cases e : Nat.beq k 159 with
              | false => rw [e, cond_false] at h; cases h
              | true => rw [e, cond_true] at h; exact zd_s2_ok hF hu (hk.trans (Nat.eq_of_beq_eq_true e)) (q159 p) h
            | false =>
              rw [e, cond_false] at h
              cases e : Nat.beq k 160 with
              | false => rw [e, cond_false] at h; cases h
              | true => rw [e, cond_true] at h; exact zd_s2_ok hF hu (hk.trans (Nat.eq_of_beq_eq_true e)) (q160 p) h
          | false =>
            rw [e, cond_false] at h
            cases e : Nat.blt k 162 with
            | true =>
              rw [e, cond_true] at h
              cases e : Nat.beq k 161 with
              | false => rw [e, cond_false] at h; cases h
              | true => rw [e, cond_true] at h; exact zd_s2_ok hF hu (hk.trans (Nat.eq_of_beq_eq_true e)) (q161 p) h
            | false =>
              rw [e, cond_false] at h
              cases e : Nat.beq k 162 with
              | false => rw [e, cond_false] at h; cases h
              | true => rw [e, cond_true] at h; exact zd_s2_ok hF hu (hk.trans (Nat.eq_of_beq_eq_true e)) (q162 p) h
      | false =>
        rw [e, cond_false] at h
        cases e : Nat.blt k 177 with
        | true =>
          rw [e, cond_true] at h
          cases e : Nat.blt k 167 with
          | true =>
            rw [e, cond_true] at h
            cases e : Nat.blt k 164 with
            | true =>
              rw [e, cond_true] at h
              cases e : Nat.beq k 163 with
              | false => rw [e, cond_false] at h; cases h
              | true => rw [e, cond_true] at h; exact zd_s2_ok hF hu (hk.trans (Nat.eq_of_beq_eq_true e)) (q163 p) h
            | false =>
              rw [e, cond_false] at h
              cases e : Nat.beq k 164 with
              | false => rw [e, cond_false] at h; cases h
              | true => rw [e, cond_true] at h; exact zd_s2_ok hF hu (hk.trans (Nat.eq_of_beq_eq_true e)) (q164 p) h
          | false =>
            rw [e, cond_false] at h
            cases e : Nat.blt k 172 with
            | true =>
              rw [e, cond_true] at h
              cases e : Nat.beq k 167 with
              | false => rw [e, cond_false] at h; cases h
              | true => rw [e, cond_true] at h; exact zd_s2_ok hF hu (hk.trans (Nat.eq_of_beq_eq_true e)) (q167 p) h
            | false =>
              rw [e, cond_false] at h
              cases e : Nat.beq k 172 with
              | false => rw [e, cond_false] at h; cases h
              | true => rw [e, cond_true] at h; exact zd_n0 hF hu (hk.trans (Nat.eq_of_beq_eq_true e)) (q172 p) h
        | false =>
          rw [e, cond_false] at h
          cases e : Nat.blt k 181 with
          | true =>
            rw [e, cond_true] at h
            cases e : Nat.blt k 180 with
            | true =>
              rw [e, cond_true] at h
              cases e : Nat.beq k 177 with
              | false => rw [e, cond_false] at h; cases h
              | true => rw [e, cond_true] at h; exact zd_n0 hF hu (hk.trans (Nat.eq_of_beq_eq_true e)) (q177 p) h
            | false =>
              rw [e, cond_false] at h
              cases e : Nat.beq k 180 with
              | false => rw [e, cond_false] at h; cases h
              | true => rw [e, cond_true] at h; exact zd_2_ok hF hu (hk.trans (Nat.eq_of_beq_eq_true e)) (q180 p) h
          | false =>
            rw [e, cond_false] at h
            cases e : Nat.blt k 182 with
            | true =>
              rw [e, cond_true] at h
              cases e : Nat.beq k 181 with
              | false => rw [e, cond_false] at h; cases h
              | true => rw [e, cond_true] at h; exact zd_2_ok hF hu (hk.trans (Nat.eq_of_beq_eq_true e)) (q181 p) h
            | false =>
              rw [e, cond_false] at h
              cases e : Nat.blt k 184 with
              | true =>
                rw [e, cond_true] at h
                cases e : Nat.beq k 182 with
                | false => rw [e, cond_false] at h; cases h
                | true => rw [e, cond_true] at h; exact zd_2_ok hF hu (hk.trans (Nat.eq_of_beq_eq_true e)) (q182 p) h
              | false =>
                rw [e, cond_false] at h
                cases e : Nat.beq k 184 with
                | false => rw [e, cond_false] at h; cases h
                | true => rw [e, cond_true] at h; exact zd_2_ok hF hu (hk.trans (Nat.eq_of_beq_eq_true e)) (q184 p) h
noncomputable def zd_o (L : List UInt8) : Option (Instr × Nat) := match L with
  | [] => none
  | b :: rs => zd_f b.toNat fun k => zd_t k rs
noncomputable def zd_dec (c : ByteArray) (p : Nat) : Except DecodeError (Instr × Nat) := match zd_o (zd_dr p c.data.toList) with
  | some r => .ok r
  | none => decode c p
theorem zd_dec_eq (c : ByteArray) (p : Nat) : zd_dec c p = decode c p := by
  obtain ⟨⟨l⟩⟩ := c
  unfold zd_dec
  cases h : zd_o (zd_dr p (ByteArray.mk (Array.mk l)).data.toList) with
  | none => rfl
  | some r =>
    have h : zd_o (zd_dr p l) = some r := h
    rw [zd_dr_eq] at h
    refine Eq.symm ?_
    cases hu : l.drop p with
    | nil => rw [hu] at h; cases h
    | cons b rs =>
      rw [hu] at h
      have h : zd_f b.toNat (fun k => zd_t k rs) = some r := h
      rw [zd_f_eq] at h
      exact zd_t_ok hu rfl h
theorem zd_by {c : ByteArray} {p : Nat} {r : Except DecodeError (Instr × Nat)} (h : zd_dec c p = r) : decode c p = r := (zd_dec_eq c p).symm.trans h
