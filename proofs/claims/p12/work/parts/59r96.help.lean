theorem ae_ble {a b : Nat} (h : Nat.ble a b = true) : a ≤ b := Nat.le_of_ble_eq_true h
theorem ae_blt {a b : Nat} (h : Nat.blt a b = true) : a < b := Nat.le_of_ble_eq_true h
theorem ae_beq {a b : Nat} (h : Nat.beq a b = true) : a = b := Nat.eq_of_beq_eq_true h
theorem ae_cond {α : Type} {b : Bool} {x : Option α} {r : α} (h : cond b x none = some r) : b = true ∧ x = some r := by
  cases b with
  | true => exact ⟨rfl, h⟩
  | false => cases h
theorem ae_band {a b : Bool} (h : and a b = true) : a = true ∧ b = true := by
  cases a <;> cases b <;> first | exact ⟨rfl, rfl⟩ | cases h
section
variable {ad : Nat → Option Nat} {st : List ae_V} {stC : List Value} {r : ae_R}
theorem ae_sr_i {i : Nat ⊕ (Nat × Nat)} {vs : List ae_V} {xs : List Value} (h : ae_sr ad (.inl i :: vs) xs) : ∃ (y : Int32) (xs' : List Value), xs = .int y :: xs' ∧ ae_ir i y ∧ ae_sr ad vs xs' := by
  obtain ⟨x, xs', e, ⟨y, e2, h1⟩, h2⟩ := h
  exact ⟨y, xs', by rw [e, e2], h1, h2⟩
theorem ae_sr_l {n : Nat} {vs : List ae_V} {xs : List Value} (h : ae_sr ad (.inr (.inl n) :: vs) xs) : ∃ xs' : List Value, xs = .long (lN n) :: xs' ∧ n < 18446744073709551616 ∧ ae_sr ad vs xs' := by
  obtain ⟨x, xs', e, ⟨e2, h1⟩, h2⟩ := h
  exact ⟨xs', by rw [e, e2], h1, h2⟩
theorem ae_sr_n {vs : List ae_V} {xs : List Value} (h : ae_sr ad (.inr (.inr none) :: vs) xs) : ∃ xs' : List Value, xs = .null :: xs' ∧ ae_sr ad vs xs' := by
  obtain ⟨x, xs', e, e2, h2⟩ := h
  exact ⟨xs', by rw [e, show x = .null from e2], h2⟩
theorem ae_sr_r {k : Nat} {vs : List ae_V} {xs : List Value} (h : ae_sr ad (.inr (.inr (some k)) :: vs) xs) : ∃ (a : Nat) (xs' : List Value), xs = .ref a :: xs' ∧ ad k = some a ∧ ae_sr ad vs xs' := by
  obtain ⟨x, xs', e, ⟨a, h1, e2⟩, h2⟩ := h
  exact ⟨a, xs', by rw [e, e2], h1, h2⟩
theorem ae_vr_i {n : Nat} (h : n < 4294967296) : ae_vr ad (ae_i n) (.int (nI n)) := ⟨nI n, rfl, rfl, h⟩
theorem ae_vr_j {n : Nat} (h : n < 18446744073709551616) : ae_vr ad (ae_j n) (.long (lN n)) := ⟨rfl, h⟩
theorem ae_vr_top (y : Int32) : ae_vr ad ae_top (.int y) := ⟨y, rfl, ae_ir_top y⟩
theorem ae_sr_c {v : ae_V} {x : Value} {vs : List ae_V} {xs : List Value} (hv : ae_vr ad v x) (h : ae_sr ad vs xs) : ae_sr ad (v :: vs) (x :: xs) := ⟨x, xs, rfl, hv, h⟩
theorem ae_ii_ok {f : Nat → Nat → Nat} {op : Int32 → Int32 → Int32} (hop : ∀ a b, a < 4294967296 → b < 4294967296 → op (nI a) (nI b) = nI (f a b) ∧ f a b < 4294967296) {K : List ae_V → Option ae_R} (h : ae_ii f st K = some r) (hs : ae_sr ad st stC) :
    ∃ (x y : Int32) (restC : List Value) (st' : List ae_V), stC = .int y :: .int x :: restC ∧ K st' = some r ∧ ae_sr ad st' (.int (op x y) :: restC) := by
  unfold ae_ii at h
  split at h
  · next y x rest =>
    rw [ae_f_eq] at h
    obtain ⟨Y, xs1, rfl, ⟨rfl, hy⟩, hs1⟩ := ae_sr_i hs
    obtain ⟨X, xs, rfl, ⟨rfl, hx⟩, hs2⟩ := ae_sr_i hs1
    obtain ⟨e1, e2⟩ := hop x y hx hy
    exact ⟨nI x, nI y, xs, _, rfl, h, by rw [e1]; exact ae_sr_c (ae_vr_i e2) hs2⟩
  · next y x rest hne =>
    obtain ⟨Y, xs1, rfl, -, hs1⟩ := ae_sr_i hs
    obtain ⟨X, xs, rfl, -, hs⟩ := ae_sr_i hs1
    exact ⟨X, Y, xs, _, rfl, h, ae_sr_c (ae_vr_top _) hs⟩
  · cases h
theorem ae_ll_ok {f : Nat → Nat → Nat} {op : Int64 → Int64 → Int64} (hop : ∀ a b, a < 18446744073709551616 → b < 18446744073709551616 → op (lN a) (lN b) = lN (f a b) ∧ f a b < 18446744073709551616) {K : List ae_V → Option ae_R} (h : ae_ll f st K = some r) (hs : ae_sr ad st stC) :
    ∃ (x y : Int64) (restC : List Value) (st' : List ae_V), stC = .long y :: .long x :: restC ∧ K st' = some r ∧ ae_sr ad st' (.long (op x y) :: restC) := by
  unfold ae_ll at h
  split at h
  · next y x rest =>
    rw [ae_f_eq] at h
    obtain ⟨xs1, rfl, hy, hs1⟩ := ae_sr_l hs
    obtain ⟨xs, rfl, hx, hs⟩ := ae_sr_l hs1
    obtain ⟨e1, e2⟩ := hop x y hx hy
    exact ⟨lN x, lN y, xs, _, rfl, h, by rw [e1]; exact ae_sr_c (ae_vr_j e2) hs⟩
  · cases h
theorem ae_tgt_ok {pc : Nat} {off : Int} {K : Nat → Option ae_R} (h : ae_tgt pc off K = some r) : ∃ t : Nat, (pc : Int) + off = (t : Int) ∧ K t = some r := by
  unfold ae_tgt at h
  split at h
  · next t ht => exact ⟨t, ht, h⟩
  · cases h
def ae_hd (c : Jvm.ClassFile.Cond) (x y : Int32) : Prop := match c with
  | .eq => x = y
  | .ne => ¬ x = y
  | .lt => x < y
  | .ge => y ≤ x
  | .gt => y < x
  | .le => x ≤ y
theorem ae_lt_ok {a b : Nat × Nat} {x y : Int32} {t : Bool} (h1 : a.1 ≤ ae_bi x ∧ ae_bi x ≤ a.2) (h2 : b.1 ≤ ae_bi y ∧ ae_bi y ≤ b.2) (h : ae_lt a b = some t) : t = true ↔ x < y := by
  rw [ae_lt_iff]
  unfold ae_lt at h
  cases q : Nat.blt a.2 b.1 with
  | true =>
    rw [q] at h
    have := ae_blt q
    cases h
    simp only [true_iff]
    omega
  | false =>
    rw [q] at h
    cases q2 : Nat.ble b.2 a.1 with
    | true =>
      rw [q2] at h
      have := ae_ble q2
      cases h
      simp only [Bool.false_eq_true, false_iff]
      omega
    | false => rw [q2] at h; cases h
theorem ae_eq_ok {a b : Nat × Nat} {x y : Int32} {t : Bool} (h1 : a.1 ≤ ae_bi x ∧ ae_bi x ≤ a.2) (h2 : b.1 ≤ ae_bi y ∧ ae_bi y ≤ b.2) (h : ae_eq a b = some t) : t = true ↔ x = y := by
  rw [ae_eq_iff]
  unfold ae_eq at h
  cases q : and (Nat.beq a.1 a.2) (and (Nat.beq b.1 b.2) (Nat.beq a.1 b.1)) with
  | true =>
    rw [q] at h
    obtain ⟨q1, q2⟩ := ae_band q
    obtain ⟨q2, q3⟩ := ae_band q2
    have := ae_beq q1
    have := ae_beq q2
    have := ae_beq q3
    cases h
    simp only [true_iff]
    omega
  | false =>
    rw [q] at h
    cases q2 : or (Nat.blt a.2 b.1) (Nat.blt b.2 a.1) with
    | true =>
      rw [q2] at h
      rw [Bool.or_eq_true] at q2
      cases h
      simp only [Bool.false_eq_true, false_iff]
      rcases q2 with q2 | q2
      · have := ae_blt q2; omega
      · have := ae_blt q2; omega
    | false => rw [q2] at h; cases h
theorem ae_map_not {o : Option Bool} {t : Bool} (h : o.map not = some t) : o = some (not t) := by
  cases o with
  | none => cases h
  | some b => cases b <;> cases h <;> rfl
theorem ae_cmp_ok {c : Jvm.ClassFile.Cond} {a b : Nat × Nat} {x y : Int32} {t : Bool} (h1 : a.1 ≤ ae_bi x ∧ ae_bi x ≤ a.2) (h2 : b.1 ≤ ae_bi y ∧ ae_bi y ≤ b.2) (h : ae_cmp c a b = some t) : t = true ↔ ae_hd c x y := by
  cases c with
  | eq => exact ae_eq_ok h1 h2 h
  | ne =>
    have := ae_eq_ok h1 h2 (ae_map_not h)
    show _ ↔ ¬ x = y
    rw [← this]; cases t <;> simp
  | lt => exact ae_lt_ok h1 h2 h
  | ge =>
    have := ae_lt_ok h1 h2 (ae_map_not h)
    show _ ↔ y ≤ x
    rw [ae_le_iff]
    rw [ae_lt_iff] at this
    cases t <;> simp at this ⊢ <;> omega
  | gt => exact ae_lt_ok h2 h1 h
  | le =>
    have := ae_lt_ok h2 h1 (ae_map_not h)
    show _ ↔ x ≤ y
    rw [ae_le_iff]
    rw [ae_lt_iff] at this
    cases t <;> simp at this ⊢ <;> omega
theorem ae_in_ok {i : Nat ⊕ (Nat × Nat)} {y : Int32} {n : Nat} (h : ae_in i n = true) (hi : ae_ir i y) : vp_in y n ∧ n < 2147483648 ∧ (∀ j, i = .inl j → y.toNatClampNeg = j ∧ j < n) := by
  unfold ae_in at h
  cases i with
  | inl j =>
    obtain ⟨h1, h2⟩ := ae_band h
    have h1 := ae_blt h1
    have h2 := ae_blt h2
    obtain ⟨rfl, -⟩ := hi
    exact ⟨vp_in_nI h1 (by omega), h2, fun k hk => by cases hk; exact ⟨nI_clamp (by omega), h1⟩⟩
  | inr q =>
    obtain ⟨h1, h2⟩ := ae_band h
    obtain ⟨h1, h3⟩ := ae_band h1
    have h1 := ae_ble h1
    have h3 : q.2 < 2147483648 + n := ae_blt h3
    have h2 := ae_blt h2
    have hb := ae_bi_eq y
    obtain ⟨g1, g2⟩ := hi
    exact ⟨vp_in_iff.mpr ⟨by omega, by omega⟩, h2, fun k hk => by cases hk⟩
theorem ae_u_lt {n : Int} {b : Nat} (h1 : -(b : Int) ≤ n) (h2 : n ≤ (b : Int)) (hb : b < 2147483648) : ae_u n < 4294967296 := by
  unfold ae_u
  cases n with
  | ofNat t => show t < _; have : (t : Int) ≤ b := h2; omega
  | negSucc t => show 4294967295 - t < _; omega
theorem ae_u_ok (n : Int) (h1 : -2147483648 ≤ n) (h2 : n ≤ 2147483647) : Int32.ofInt n = nI (ae_u n) := by
  apply Int32.toInt_inj.mp
  rw [ae_toInt, Int32.toInt_ofInt]
  unfold ae_u
  cases n with
  | ofNat t => rfl
  | negSucc t =>
    show (Int.negSucc t).bmod 4294967296 = ((4294967295 - t : Nat) : Int).bmod 4294967296
    rw [ae_bm, ae_bm]
    split <;> split <;> omega
theorem ae_dv_ok (ty : FieldType) (h : ty ≠ .float ∧ ty ≠ .double) : ae_vr ad (ae_dv ty) (defaultValue ty) := by
  cases ty with
  | float => exact absurd rfl h.1
  | double => exact absurd rfl h.2
  | long => exact ⟨rfl, by decide⟩
  | object c => rfl
  | array t => rfl
  | byte => exact ⟨0, rfl, rfl, by decide⟩
  | char => exact ⟨0, rfl, rfl, by decide⟩
  | short => exact ⟨0, rfl, rfl, by decide⟩
  | boolean => exact ⟨0, rfl, rfl, by decide⟩
  | int => exact ⟨0, rfl, rfl, by decide⟩
theorem ae_dvs_ok {ty : Nat → FieldType} : ∀ (L : List Nat), (∀ k ∈ L, ty k ≠ .float ∧ ty k ≠ .double) → ae_sr ad (L.map (fun k => ae_dv (ty k))) (L.map (fun k => defaultValue (ty k)))
  | [], _ => rfl
  | k :: L, h => ⟨_, _, rfl, ae_dv_ok _ (h k List.mem_cons_self), ae_dvs_ok L (fun j hj => h j (List.mem_cons_of_mem _ hj))⟩
theorem ae_kb_f (fk : Nat) (fin : Bool) : ae_kb fk .float fin = false := by
  unfold ae_kb
  generalize (cond (Nat.ble 10 fk) (Nat.sub fk 10) fk) = z
  match z with
  | 0 => simp
  | 1 => simp
  | 2 => simp
  | 3 => simp
  | 4 => simp
  | n + 5 => simp
theorem ae_kb_d (fk : Nat) (fin : Bool) : ae_kb fk .double fin = false := by
  unfold ae_kb
  generalize (cond (Nat.ble 10 fk) (Nat.sub fk 10) fk) = z
  match z with
  | 0 => simp
  | 1 => simp
  | 2 => simp
  | 3 => simp
  | 4 => simp
  | n + 5 => simp
theorem ae_kb_nf {fk : Nat} {ty : FieldType} {fin : Bool} (h : ae_kb fk ty fin = true) : ty ≠ .float ∧ ty ≠ .double :=
  ⟨(fun e => by rw [e, ae_kb_f] at h; exact absurd h (by decide)), (fun e => by rw [e, ae_kb_d] at h; exact absurd h (by decide))⟩
theorem ae_ub8 (n : Int) (h1 : -128 ≤ n) (h2 : n ≤ 127) : (Int8.ofInt n).toInt32 = nI (ae_u n) := by
  rw [← ae_u_ok n (by omega) (by omega)]
  apply Int32.toInt_inj.mp
  rw [Int8.toInt_toInt32, Int8.toInt_ofInt, Int32.toInt_ofInt]
  show n.bmod 256 = n.bmod 4294967296
  rw [ae_bm]
  have e : n.bmod 256 = if n % 256 < 128 then n % 256 else n % 256 - 256 := rfl
  rw [e]
  split <;> split <;> omega
theorem ae_ub16 (n : Int) (h1 : -32768 ≤ n) (h2 : n ≤ 32767) : (Int16.ofInt n).toInt32 = nI (ae_u n) := by
  rw [← ae_u_ok n (by omega) (by omega)]
  apply Int32.toInt_inj.mp
  rw [Int16.toInt_toInt32, Int16.toInt_ofInt, Int32.toInt_ofInt]
  show n.bmod 65536 = n.bmod 4294967296
  rw [ae_bm]
  have e : n.bmod 65536 = if n % 65536 < 32768 then n % 65536 else n % 65536 - 65536 := rfl
  rw [e]
  split <;> split <;> omega
/-- a value that a field may hold -/
theorem ae_fit_ok {fk : Nat} {ty : FieldType} {fin : Bool} {v : ae_V} {x : Value} (hk : ae_kb fk ty fin = true) (hf : cond (Nat.ble 10 fk) (ae_fit (Nat.sub fk 10) v) (ae_fit fk v) = true) (hv : ae_vr ad v x) : narrow ty x = x ∧ fits ty x = true := by
  unfold ae_kb at hk
  obtain ⟨-, hk⟩ := ae_band hk
  have hf : ae_fit (cond (Nat.ble 10 fk) (Nat.sub fk 10) fk) v = true := by
    cases q : Nat.ble 10 fk <;> rw [q] at hf <;> exact hf
  generalize (cond (Nat.ble 10 fk) (Nat.sub fk 10) fk) = z at hk hf
  match v, hv, hf with
  | .inl (.inl n), ⟨y, hx, hy, hn⟩, hf =>
    subst hx; subst hy
    have hf : or (Nat.beq z 0) (and (Nat.beq z 1) (Nat.ble n 1)) = true := hf
    rw [Bool.or_eq_true] at hf
    rcases hf with q | q
    · have := ae_beq q
      subst this
      cases ty <;> first | exact ⟨rfl, rfl⟩ | exact absurd hk (by simp)
    · obtain ⟨q1, q2⟩ := ae_band q
      have := ae_beq q1
      subst this
      have q3 := ae_ble q2
      have hn : n = 0 ∨ n = 1 := by omega
      cases ty with
      | boolean => rcases hn with rfl | rfl <;> exact ⟨by decide, by decide⟩
      | _ => exact absurd hk (by simp)
  | .inl (.inr g), ⟨y, hx, hy⟩, hf =>
    subst hx
    have := ae_beq (show Nat.beq z 0 = true from hf)
    subst this
    cases ty <;> first | exact ⟨rfl, rfl⟩ | exact absurd hk (by simp)
  | .inr (.inl n), ⟨hx, hn⟩, hf =>
    subst hx
    have := ae_beq (show Nat.beq z 3 = true from hf)
    subst this
    cases ty <;> first | exact ⟨rfl, rfl⟩ | exact absurd hk (by simp)
  | .inr (.inr none), hx, hf =>
    have hx : x = .null := hx
    subst hx
    have := ae_beq (show Nat.beq z 4 = true from hf)
    subst this
    cases ty <;> first | exact ⟨rfl, rfl⟩ | exact absurd hk (by simp)
  | .inr (.inr (some k)), ⟨a, h1, hx⟩, hf =>
    subst hx
    have := ae_beq (show Nat.beq z 4 = true from hf)
    subst this
    cases ty <;> first | exact ⟨rfl, rfl⟩ | exact absurd hk (by simp)
theorem ae_iload_ok {lv : ae_L} {lvC : List (Nat × Value)} {i : Nat} {K : ae_V → Option ae_R} (h : ae_iload lv i K = some r) (hl : ae_lr ad lv lvC) : ∃ (x : Nat ⊕ (Nat × Nat)) (k : Nat) (y : Int32), K (.inl x) = some r ∧ lvC[k]? = some (i, .int y) ∧ ae_ir x y := by
  unfold ae_iload at h
  split at h
  · next x hx =>
    obtain ⟨k, y, g1, ⟨z, e, g2⟩⟩ := ae_lr_mem hl (ae_lk_mem hx)
    exact ⟨x, k, z, h, by rw [g1, e], g2⟩
  · cases h
theorem ae_lload_ok {lv : ae_L} {lvC : List (Nat × Value)} {i : Nat} {K : ae_V → Option ae_R} (h : ae_lload lv i K = some r) (hl : ae_lr ad lv lvC) : ∃ (n : Nat) (k : Nat), K (.inr (.inl n)) = some r ∧ lvC[k]? = some (i, .long (lN n)) ∧ n < 18446744073709551616 := by
  unfold ae_lload at h
  split at h
  · next x hx =>
    obtain ⟨k, y, g1, ⟨e, g2⟩⟩ := ae_lr_mem hl (ae_lk_mem hx)
    exact ⟨x, k, h, by rw [g1, e], g2⟩
  · cases h
theorem ae_aload_ok {lv : ae_L} {lvC : List (Nat × Value)} {i : Nat} {K : ae_V → Option ae_R} (h : ae_aload lv i K = some r) (hl : ae_lr ad lv lvC) : (K (.inr (.inr none)) = some r ∧ ∃ k : Nat, lvC[k]? = some (i, .null)) ∨ ∃ (n k a : Nat), K (.inr (.inr (some n))) = some r ∧ lvC[k]? = some (i, .ref a) ∧ ad n = some a := by
  unfold ae_aload at h
  split at h
  · next x hx =>
    obtain ⟨k, y, g1, g2⟩ := ae_lr_mem hl (ae_lk_mem hx)
    match x, h, g2 with
    | none, h, g2 => exact Or.inl ⟨h, k, by rw [g1, show y = .null from g2]⟩
    | some n, h, ⟨a, g3, e⟩ => exact Or.inr ⟨n, k, a, h, by rw [g1, e], g3⟩
  · cases h
end
