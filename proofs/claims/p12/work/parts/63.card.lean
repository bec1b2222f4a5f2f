/-! DIGITS OF CARDS (wip/p2/hand/g63.py) -/
def wk_mask : Nat := 2214560767
theorem wk_m15 : ∀ b : Fin 32, wk_mask.testBit b.val = true → (b.val &&& 15 ≤ 9 ∨ b.val &&& 15 = 15) := by decide +kernel
theorem wk_m17 : ∀ b : Fin 256, (b.val &&& 4294967279 ≤ 9 ∨ b.val &&& 4294967279 = 15) → (b.val < 32 ∧ wk_mask.testBit b.val = true) := by decide +kernel
theorem wk_g_nat {z : Nat} (h : z < 2147483648) : sv_g z = (z : Int) := by unfold sv_g; rw [if_pos h]
theorem wk_and15 {x : Int} (hx : 0 ≤ x ∧ x ≤ 31) (hm : sv_mb wk_mask x) : sv_g (sv_u x &&& sv_u 15) = ((x.toNat &&& 15 : Nat) : Int) ∧ ((0 ≤ sv_g (sv_u x &&& sv_u 15) ∧ sv_g (sv_u x &&& sv_u 15) ≤ 9) ∨ sv_g (sv_u x &&& sv_u 15) = 15) := by
  have ex : sv_u x = x.toNat := sv_u_nn hx.1 (by omega)
  have hle : x.toNat &&& 15 ≤ 15 := Nat.and_le_right
  have e : sv_g (sv_u x &&& sv_u 15) = ((x.toNat &&& 15 : Nat) : Int) := by
    rw [ex, show sv_u 15 = 15 from rfl]
    exact wk_g_nat (by omega)
  refine ⟨e, ?_⟩
  rw [e]
  have hm2 : wk_mask.testBit x.toNat = true := by
    rcases hm with h | h
    · cases h
    · exact h.2
  have := wk_m15 ⟨x.toNat, by omega⟩ hm2
  have this : x.toNat &&& 15 ≤ 9 ∨ x.toNat &&& 15 = 15 := this
  omega
theorem wk_and17 {x : Int} (hx : 0 ≤ x ∧ x ≤ 255) : sv_g (sv_u x &&& sv_u (-17)) = ((x.toNat &&& 4294967279 : Nat) : Int) ∧ (x.toNat &&& 4294967279) ≤ 255 := by
  have ex : sv_u x = x.toNat := sv_u_nn hx.1 (by omega)
  have hle : x.toNat &&& 4294967279 ≤ x.toNat := Nat.and_le_left
  refine ⟨?_, by omega⟩
  rw [ex, show sv_u (-17) = 4294967279 from rfl]
  exact wk_g_nat (by omega)
theorem wk_card {x : Int} (hx : 0 ≤ x ∧ x ≤ 255) (hd : ((x.toNat &&& 4294967279 : Nat) : Int) ≤ 9 ∨ ((x.toNat &&& 4294967279 : Nat) : Int) = 15) : x ≤ 31 ∧ sv_mb wk_mask x := by
  have := wk_m17 ⟨x.toNat, by omega⟩ (by show x.toNat &&& 4294967279 ≤ 9 ∨ x.toNat &&& 4294967279 = 15; omega)
  have this : x.toNat < 32 ∧ wk_mask.testBit x.toNat = true := this
  exact ⟨by omega, Or.inr ⟨hx.1, this.2⟩⟩
theorem wk_i2b {Q : ae_R → Prop} {mi pc : Nat} {M : ae_M} {lv : ae_L} {st : List ae_V} {h : ae_H} {x : Int} (hM : ae_m mi = some M) (hd : decode M.2.2.1 pc = .ok (.i2b, 1)) (hx : 0 ≤ x ∧ x ≤ 127) (g : sv_G Q mi (pc + 1) lv (wk_i x :: st) h) : sv_G Q mi pc lv (wk_i x :: st) h :=
  sv_G_step hM hd rfl (fun K C => by
    have ex : sv_u x = x.toNat := sv_u_nn hx.1 (by omega)
    have e8 : ae_b8 (sv_u x) = sv_u x := by
      unfold ae_b8
      have hb : Nat.ble 128 (Nat.mod (sv_u x) 256) = false := by
        cases hb : Nat.ble 128 (Nat.mod (sv_u x) 256) with
        | false => rfl
        | true =>
          have hb : 128 ≤ sv_u x % 256 := Nat.le_of_ble_eq_true hb
          omega
      rw [hb, cond_false]
      show sv_u x % 256 = _
      omega
    show ae_f (ae_b8 (sv_u x)) (fun z => K (Nat.add pc 1) 0 0 lv (ae_i z :: st) h) = _
    rw [ae_f_eq, e8]; rfl) g

theorem wx_digit {mods : List (Nat × Nat)} {h0 h : ae_H} {Q : ae_R → Prop} {lv : ae_L} {k0 kc : Nat} {c n : Int} (T : sv_Tk sv_ty sv_tt mods h0 h) (t0 : sv_ty k0 = some 1) (tc : sv_ty kc = some 14) (F : wk_F h k0 0 = some (wk_r kc)) (hc : 0 ≤ c ∧ c ≤ 6380) (hn : 1 ≤ n ∧ n ≤ 20) (l0 : ae_lk lv 0 = some (wk_r k0)) (l1 : ae_lk lv 1 = some (wk_i c)) (l2 : ae_lk lv 2 = some (wk_i n))
    (g : Q (some (wk_i (sv_g (sv_u (wk_R h kc (c + n - 1)) &&& sv_u 15))), h)) : sv_G Q 26 0 lv [] h := by
  refine wk_aload_n wm_26 wd_26_0 l0 ?_
  refine wk_getf wm_26 wd_26_1 (by decide +kernel) T.1 t0 tT_1 F ?_
  refine wk_iload_n wm_26 wd_26_4 l1 ?_
  refine wk_iload_n wm_26 wd_26_5 l2 ?_
  refine wk_iadd wm_26 wd_26_6 ?_
  refine wk_iconst wm_26 wd_26_7 (by decide) ?_
  refine wk_isub wm_26 wd_26_8 ?_
  refine wk_bald wm_26 wd_26_9 T.1 tc tT_14 (by decide) (by decide) ⟨by omega, by omega⟩ (fun q1 q2 => ?_)
  refine wk_bipush wm_26 wd_26_10 (by decide) ?_
  refine wk_iand wm_26 wd_26_12 ?_
  refine wk_ireturn wm_26 wd_26_13 rfl ?_
  exact g
theorem wx_card2 {mods : List (Nat × Nat)} {h0 h : ae_H} {Q : ae_R → Prop} {k0 kb : Nat} {len : Int} (T : sv_Tk sv_ty sv_tt mods h0 h) (t0 : sv_ty k0 = some 9) (tb : sv_ty kb = some 13) (F1 : wk_F h k0 1 = some (wk_i len)) (F2 : wk_F h k0 0 = some (wk_r kb)) (hl : 0 ≤ len ∧ len ≤ 740) (g0 : Q (some (wk_i 0), h)) (g1 : len = 20 → (∀ i, 0 ≤ i → i < 20 → wk_R h kb i ≤ 31 ∧ sv_mb wk_mask (wk_R h kb i)) → Q (some (wk_i 1), h)) :
    ∀ (d : Nat) (lv : ae_L) (n : Int), (ae_lk lv 0 = some (wk_r k0)) → (ae_lk lv 1 = some (wk_i n)) → (∀ i, 0 ≤ i → i < n → wk_R h kb i ≤ 31 ∧ sv_mb wk_mask (wk_R h kb i)) → (0 ≤ n ∧ n ≤ len) → (len - n ≤ d) → sv_G Q 114 2 lv [] h := by
  intro d
  induction d with
  | zero =>
    intro lv n l0 l1 BA hn hd
    refine wk_iload_n wm_114 wd_114_2 l1 ?_
    refine wk_aload_n wm_114 wd_114_3 l0 ?_
    refine wk_getf wm_114 wd_114_4 (by decide +kernel) T.1 t0 tT_9 F1 ?_
    refine wk_icmp 40 wm_114 wd_114_7 (by decide) (by unfold sv_I; omega) (by unfold sv_I; omega) (fun c3 => ?_) (fun c3 => ?_)
    · have c3 : (n : Int) ≥ len := c3
      refine wk_aload_n wm_114 wd_114_40 l0 ?_
      refine wk_getf wm_114 wd_114_41 (by decide +kernel) T.1 t0 tT_9 F1 ?_
      refine wk_bipush wm_114 wd_114_44 (by decide) ?_
      refine wk_icmp 53 wm_114 wd_114_46 (by decide) (by unfold sv_I; omega) (by unfold sv_I; omega) (fun c4 => ?_) (fun c4 => ?_)
      · have c4 : (len : Int) ≠ 20 := c4
        refine wk_iconst wm_114 wd_114_53 (by decide) ?_
        refine wk_zreturn wm_114 wd_114_54 rfl (by omega) ?_
        exact g0
      · have c4 : ¬ ((len : Int) ≠ 20) := c4
        refine wk_iconst wm_114 wd_114_49 (by decide) ?_
        refine wk_goto 54 wm_114 wd_114_50 (by decide) ?_
        refine wk_zreturn wm_114 wd_114_54 rfl (by omega) ?_
        exact g1 (by omega) (fun i a b => BA i a (by omega))
    · have c3 : ¬ ((n : Int) ≥ len) := c3
      exfalso; omega
  | succ d ih =>
    intro lv n l0 l1 BA hn hd
    refine wk_iload_n wm_114 wd_114_2 l1 ?_
    refine wk_aload_n wm_114 wd_114_3 l0 ?_
    refine wk_getf wm_114 wd_114_4 (by decide +kernel) T.1 t0 tT_9 F1 ?_
    refine wk_icmp 40 wm_114 wd_114_7 (by decide) (by unfold sv_I; omega) (by unfold sv_I; omega) (fun c5 => ?_) (fun c5 => ?_)
    · have c5 : (n : Int) ≥ len := c5
      refine wk_aload_n wm_114 wd_114_40 l0 ?_
      refine wk_getf wm_114 wd_114_41 (by decide +kernel) T.1 t0 tT_9 F1 ?_
      refine wk_bipush wm_114 wd_114_44 (by decide) ?_
      refine wk_icmp 53 wm_114 wd_114_46 (by decide) (by unfold sv_I; omega) (by unfold sv_I; omega) (fun c6 => ?_) (fun c6 => ?_)
      · have c6 : (len : Int) ≠ 20 := c6
        refine wk_iconst wm_114 wd_114_53 (by decide) ?_
        refine wk_zreturn wm_114 wd_114_54 rfl (by omega) ?_
        exact g0
      · have c6 : ¬ ((len : Int) ≠ 20) := c6
        refine wk_iconst wm_114 wd_114_49 (by decide) ?_
        refine wk_goto 54 wm_114 wd_114_50 (by decide) ?_
        refine wk_zreturn wm_114 wd_114_54 rfl (by omega) ?_
        exact g1 (by omega) (fun i a b => BA i a (by omega))
    · have c5 : ¬ ((n : Int) ≥ len) := c5
      refine wk_aload_n wm_114 wd_114_10 l0 ?_
      refine wk_getf wm_114 wd_114_11 (by decide +kernel) T.1 t0 tT_9 F2 ?_
      refine wk_iload_n wm_114 wd_114_14 l1 ?_
      refine wk_iald wm_114 wd_114_15 sv_ty_lt T.1 tb tT_13 (by decide) ⟨by omega, by omega⟩ (fun q7 q8 => ?_)
      have e17 := wk_and17 (x := wk_R h kb n) ⟨by omega, by omega⟩
      refine wk_bipush wm_114 wd_114_16 (by decide) ?_
      refine wk_iand wm_114 wd_114_18 ?_
      refine wk_istore_n wm_114 wd_114_19 (by decide +kernel) (fun lv9 s10 => ?_)
      have l11 := s10.2 0 _ l0 (by decide) (Or.inl rfl)
      have l12 := s10.2 1 _ l1 (by decide) (Or.inl rfl)
      have l13 := s10.1
      refine wk_iload_n wm_114 wd_114_20 l13 ?_
      refine wk_bipush wm_114 wd_114_21 (by decide) ?_
      refine wk_icmp 34 wm_114 wd_114_23 (by decide) (by unfold sv_I; omega) (by unfold sv_I; omega) (fun c14 => ?_) (fun c14 => ?_)
      · have c14 : ((sv_g (sv_u (wk_R h kb n) &&& sv_u (-17))) : Int) ≤ 9 := c14
        refine wk_iinc wm_114 wd_114_34 (by decide +kernel) (by decide) l12 (fun lv15 s16 => ?_)
        have l17 := s16.2 0 _ l11 (by decide) (Or.inl rfl)
        have l18 := s16.2 2 _ l13 (by decide) (Or.inl rfl)
        have l19 := s16.1
        refine wk_goto 2 wm_114 wd_114_37 (by decide) ?_
        exact ih lv15 (n + 1) l17 l19 (fun i a b => by
          by_cases e : i = n
          · rw [e]; exact wk_card ⟨by omega, by omega⟩ (by omega)
          · exact BA i a (by omega)) (by omega) (by omega)
      · have c14 : ¬ (((sv_g (sv_u (wk_R h kb n) &&& sv_u (-17))) : Int) ≤ 9) := c14
        refine wk_iload_n wm_114 wd_114_26 l13 ?_
        refine wk_bipush wm_114 wd_114_27 (by decide) ?_
        refine wk_icmp 34 wm_114 wd_114_29 (by decide) (by unfold sv_I; omega) (by unfold sv_I; omega) (fun c20 => ?_) (fun c20 => ?_)
        · have c20 : ((sv_g (sv_u (wk_R h kb n) &&& sv_u (-17))) : Int) = 15 := c20
          refine wk_iinc wm_114 wd_114_34 (by decide +kernel) (by decide) l12 (fun lv21 s22 => ?_)
          have l23 := s22.2 0 _ l11 (by decide) (Or.inl rfl)
          have l24 := s22.2 2 _ l13 (by decide) (Or.inl rfl)
          have l25 := s22.1
          refine wk_goto 2 wm_114 wd_114_37 (by decide) ?_
          exact ih lv21 (n + 1) l23 l25 (fun i a b => by
            by_cases e : i = n
            · rw [e]; exact wk_card ⟨by omega, by omega⟩ (by omega)
            · exact BA i a (by omega)) (by omega) (by omega)
        · have c20 : ¬ (((sv_g (sv_u (wk_R h kb n) &&& sv_u (-17))) : Int) = 15) := c20
          refine wk_iconst wm_114 wd_114_32 (by decide) ?_
          refine wk_zreturn wm_114 wd_114_33 rfl (by omega) ?_
          exact g0
theorem wx_isCard {mods : List (Nat × Nat)} {h0 h : ae_H} {Q : ae_R → Prop} {lv : ae_L} {k0 kb : Nat} {len : Int} (T : sv_Tk sv_ty sv_tt mods h0 h) (t0 : sv_ty k0 = some 9) (tb : sv_ty kb = some 13) (F1 : wk_F h k0 1 = some (wk_i len)) (F2 : wk_F h k0 0 = some (wk_r kb)) (hl : 0 ≤ len ∧ len ≤ 740) (l0 : ae_lk lv 0 = some (wk_r k0)) (g0 : Q (some (wk_i 0), h)) (g1 : len = 20 → (∀ i, 0 ≤ i → i < 20 → wk_R h kb i ≤ 31 ∧ sv_mb wk_mask (wk_R h kb i)) → Q (some (wk_i 1), h)) : sv_G Q 114 0 lv [] h := by
  refine wk_iconst wm_114 wd_114_0 (by decide) ?_
  refine wk_istore_n wm_114 wd_114_1 (by decide +kernel) (fun lv26 s27 => ?_)
  have l28 := s27.2 0 _ l0 (by decide) (Or.inl rfl)
  have l29 := s27.1
  exact wx_card2 T t0 tb F1 F2 hl g0 g1 740 lv26 0 l28 l29 (fun i a b => by omega) (by omega) (by omega)
theorem wx_cellOf {mods : List (Nat × Nat)} {h0 h : ae_H} {Q : ae_R → Prop} {lv : ae_L} {k0 ks : Nat} {b c : Int} (T : sv_Tk sv_ty sv_tt mods h0 h) (t0 : sv_ty k0 = some 1) (ts : sv_ty ks = some 15) (F : wk_F h k0 1 = some (wk_r ks)) (hb : 0 ≤ b ∧ b ≤ 7) (hc : 0 ≤ c ∧ c ≤ 39) (l0 : ae_lk lv 0 = some (wk_r k0)) (l1 : ae_lk lv 1 = some (wk_i b)) (l2 : ae_lk lv 2 = some (wk_i c))
    (g : ∀ x, 0 ≤ x → x ≤ 6380 → Q (some (wk_i x), h)) : sv_G Q 18 0 lv [] h := by
  refine wk_aload_n wm_18 wd_18_0 l0 ?_
  refine wk_getf wm_18 wd_18_1 (by decide +kernel) T.1 t0 tT_1 F ?_
  refine wk_iload_n wm_18 wd_18_4 l1 ?_
  refine wk_bipush wm_18 wd_18_5 (by decide) ?_
  refine wk_imul wm_18 wd_18_7 ?_
  refine wk_iload_n wm_18 wd_18_8 l2 ?_
  refine wk_iadd wm_18 wd_18_9 ?_
  refine wk_iald wm_18 wd_18_10 sv_ty_lt T.1 ts tT_15 (by decide) ⟨by omega, by omega⟩ (fun q30 q31 => ?_)
  refine wk_ireturn wm_18 wd_18_11 rfl ?_
  exact g _ (by omega) (by omega)
theorem tU_13 {a b : Nat} (ha : sv_ty a = some 13) (hb : sv_ty b = some 13) : a = b := wk_uq (by decide +kernel) ha hb
theorem tU_16 {a b : Nat} (ha : sv_ty a = some 16) (hb : sv_ty b = some 16) : a = b := wk_uq (by decide +kernel) ha hb
theorem wx_told15 {mods : List (Nat × Nat)} {h0 : ae_H} {Q : ae_R → Prop} {k0 kt kb ks : Nat} {b s : Int} (m1 : (14, 0) ∈ mods) (m2 : (16, 0) ∈ mods) (t0 : sv_ty k0 = some 1) (tt_ : sv_ty kt = some 9) (tb : sv_ty kb = some 13) (ts : sv_ty ks = some 16) (hb : 0 ≤ b ∧ b ≤ 7) (h3 : 0 ≤ s ∧ s ≤ 6380) (g : ∀ h, sv_Tk sv_ty sv_tt mods h0 h → Q (none, h)) :
    ∀ (d : Nat) (lv : ae_L) (h : ae_H) (n : Int), sv_Tk sv_ty sv_tt mods h0 h → (ae_lk lv 0 = some (wk_r k0)) → (ae_lk lv 1 = some (wk_i b)) → (ae_lk lv 2 = some (wk_r kt)) → (ae_lk lv 3 = some (wk_i s)) → (ae_lk lv 4 = some (wk_i n)) → (∀ i, 0 ≤ i → i < 20 → wk_R h kb i ≤ 31 ∧ sv_mb wk_mask (wk_R h kb i)) → (wk_R h ks b ≤ 39) → (0 ≤ n ∧ n ≤ 20) → (20 - n ≤ d) → sv_G Q 20 15 lv [] h := by
  intro d
  induction d with
  | zero =>
    intro lv h n T l0 l1 l2 l3 l4 BA hs hn hd
    refine wk_iload wm_20 wd_20_15 l4 ?_
    refine wk_bipush wm_20 wd_20_17 (by decide) ?_
    refine wk_icmp 45 wm_20 wd_20_19 (by decide) (by unfold sv_I; omega) (by unfold sv_I; omega) (fun c32 => ?_) (fun c32 => ?_)
    · have c32 : (n : Int) ≥ 20 := c32
      obtain ⟨k33, f34, y35⟩ := wk_ref (j := 2) T.1 t0 tT_1 rfl
      rw [tU_16 y35 ts] at f34
      refine wk_aload_n wm_20 wd_20_45 l0 ?_
      refine wk_getf wm_20 wd_20_46 (by decide +kernel) T.1 t0 tT_1 f34 ?_
      refine wk_iload_n wm_20 wd_20_49 l1 ?_
      refine wk_dup2 wm_20 wd_20_50 rfl rfl ?_
      refine wk_iald wm_20 wd_20_51 sv_ty_lt T.1 ts tT_16 (by decide) ⟨by omega, by omega⟩ (fun q36 q37 => ?_)
      refine wk_iconst wm_20 wd_20_52 (by decide) ?_
      refine wk_iadd wm_20 wd_20_53 ?_
      refine wk_iast wm_20 wd_20_54 sv_ty_lt T m2 ts tT_16 (by decide) ⟨by omega, by omega⟩ ⟨by omega, by omega⟩ (by unfold sv_I; omega) (Or.inl rfl) (fun h38 T39 u40 g41 => ?_)
      have f42 := (u40.2 _ _).trans f34
      refine wk_return wm_20 wd_20_55 rfl ?_
      exact g _ T39
    · have c32 : ¬ ((n : Int) ≥ 20) := c32
      exfalso; omega
  | succ d ih =>
    intro lv h n T l0 l1 l2 l3 l4 BA hs hn hd
    refine wk_iload wm_20 wd_20_15 l4 ?_
    refine wk_bipush wm_20 wd_20_17 (by decide) ?_
    refine wk_icmp 45 wm_20 wd_20_19 (by decide) (by unfold sv_I; omega) (by unfold sv_I; omega) (fun c43 => ?_) (fun c43 => ?_)
    · have c43 : (n : Int) ≥ 20 := c43
      obtain ⟨k44, f45, y46⟩ := wk_ref (j := 2) T.1 t0 tT_1 rfl
      rw [tU_16 y46 ts] at f45
      refine wk_aload_n wm_20 wd_20_45 l0 ?_
      refine wk_getf wm_20 wd_20_46 (by decide +kernel) T.1 t0 tT_1 f45 ?_
      refine wk_iload_n wm_20 wd_20_49 l1 ?_
      refine wk_dup2 wm_20 wd_20_50 rfl rfl ?_
      refine wk_iald wm_20 wd_20_51 sv_ty_lt T.1 ts tT_16 (by decide) ⟨by omega, by omega⟩ (fun q47 q48 => ?_)
      refine wk_iconst wm_20 wd_20_52 (by decide) ?_
      refine wk_iadd wm_20 wd_20_53 ?_
      refine wk_iast wm_20 wd_20_54 sv_ty_lt T m2 ts tT_16 (by decide) ⟨by omega, by omega⟩ ⟨by omega, by omega⟩ (by unfold sv_I; omega) (Or.inl rfl) (fun h49 T50 u51 g52 => ?_)
      have f53 := (u51.2 _ _).trans f45
      refine wk_return wm_20 wd_20_55 rfl ?_
      exact g _ T50
    · have c43 : ¬ ((n : Int) ≥ 20) := c43
      obtain ⟨k54, f55, y56⟩ := wk_ref (j := 0) T.1 t0 tT_1 rfl
      obtain ⟨k57, f58, y59⟩ := wk_ref (j := 0) T.1 tt_ tT_9 rfl
      rw [tU_13 y59 tb] at f58
      refine wk_aload_n wm_20 wd_20_22 l0 ?_
      refine wk_getf wm_20 wd_20_23 (by decide +kernel) T.1 t0 tT_1 f55 ?_
      refine wk_iload_n wm_20 wd_20_26 l3 ?_
      refine wk_iload wm_20 wd_20_27 l4 ?_
      refine wk_iadd wm_20 wd_20_29 ?_
      refine wk_aload_n wm_20 wd_20_30 l2 ?_
      refine wk_getf wm_20 wd_20_31 (by decide +kernel) T.1 tt_ tT_9 f58 ?_
      refine wk_iload wm_20 wd_20_34 l4 ?_
      refine wk_iald wm_20 wd_20_36 sv_ty_lt T.1 tb tT_13 (by decide) ⟨by omega, by omega⟩ (fun q60 q61 => ?_)
      have ba := BA n (by omega) (by omega)
      refine wk_i2b wm_20 wd_20_37 ⟨by omega, by omega⟩ ?_
      refine wk_bast wm_20 wd_20_38 sv_ty_lt T m1 y56 tT_14 (by decide) ⟨by omega, by omega⟩ ⟨by omega, by omega⟩ (by omega) ba.2 (fun h62 T63 u64 g65 => ?_)
      have f66 := (u64.2 _ _).trans f55
      have f67 := (u64.2 _ _).trans f58
      refine wk_iinc wm_20 wd_20_39 (by decide +kernel) (by decide) l4 (fun lv68 s69 => ?_)
      have l70 := s69.2 0 _ l0 (by decide) (Or.inl rfl)
      have l71 := s69.2 1 _ l1 (by decide) (Or.inl rfl)
      have l72 := s69.2 2 _ l2 (by decide) (Or.inl rfl)
      have l73 := s69.2 3 _ l3 (by decide) (Or.inl rfl)
      have l74 := s69.1
      refine wk_goto 15 wm_20 wd_20_42 (by decide) ?_
      exact ih lv68 h62 (n + 1) T63 l70 l71 l72 l73 l74 (fun i a b => by rw [wk_up_o u64 (wk_ne tb y56 (by decide)) a]; exact BA i a b) (by rw [wk_up_o u64 (wk_ne ts y56 (by decide)) (by omega)]; exact hs) (by omega) (by omega)
theorem wx_addTold {mods : List (Nat × Nat)} {h0 : ae_H} {Q : ae_R → Prop} {k0 kt kb ks : Nat} {b : Int} (m1 : (14, 0) ∈ mods) (m2 : (16, 0) ∈ mods) (t0 : sv_ty k0 = some 1) (tt_ : sv_ty kt = some 9) (tb : sv_ty kb = some 13) (ts : sv_ty ks = some 16) (hb : 0 ≤ b ∧ b ≤ 7) {h : ae_H} {lv : ae_L} (T : sv_Tk sv_ty sv_tt mods h0 h) (l0 : ae_lk lv 0 = some (wk_r k0)) (l1 : ae_lk lv 1 = some (wk_i b)) (l2 : ae_lk lv 2 = some (wk_r kt)) (BA : ∀ i, 0 ≤ i → i < 20 → wk_R h kb i ≤ 31 ∧ sv_mb wk_mask (wk_R h kb i)) (hs : wk_R h ks b ≤ 39) (g : ∀ h, sv_Tk sv_ty sv_tt mods h0 h → Q (none, h)) : sv_G Q 20 0 lv [] h := by
  obtain ⟨k75, f76, y77⟩ := wk_ref (j := 2) T.1 t0 tT_1 rfl
  rw [tU_16 y77 ts] at f76
  obtain ⟨k78, f79, y80⟩ := wk_ref (j := 1) T.1 t0 tT_1 rfl
  refine wk_aload_n wm_20 wd_20_0 l0 ?_
  refine wk_iload_n wm_20 wd_20_1 l1 ?_
  refine wk_aload_n wm_20 wd_20_2 l0 ?_
  refine wk_getf wm_20 wd_20_3 (by decide +kernel) T.1 t0 tT_1 f76 ?_
  refine wk_iload_n wm_20 wd_20_6 l1 ?_
  refine wk_iald wm_20 wd_20_7 sv_ty_lt T.1 ts tT_16 (by decide) ⟨by omega, by omega⟩ (fun q81 q82 => ?_)
  refine wk_call (Or.inr ⟨rfl, rfl⟩) wm_20 wd_20_8 (by decide +kernel) wm_18 (by decide +kernel) rfl rfl (wk_rcv T.1 t0 tT_1) ?_
  refine wx_cellOf T t0 y80 f79 ⟨by omega, by omega⟩ ⟨by omega, by omega⟩ rfl rfl rfl (fun x x1 x2 => ?_)
  show sv_G Q 20 11 lv [wk_i x] h
  refine wk_istore_n wm_20 wd_20_11 (by decide +kernel) (fun lv83 s84 => ?_)
  have l85 := s84.2 0 _ l0 (by decide) (Or.inl rfl)
  have l86 := s84.2 1 _ l1 (by decide) (Or.inl rfl)
  have l87 := s84.2 2 _ l2 (by decide) (Or.inl rfl)
  have l88 := s84.1
  refine wk_iconst wm_20 wd_20_12 (by decide) ?_
  refine wk_istore wm_20 wd_20_13 (by decide +kernel) (fun lv89 s90 => ?_)
  have l91 := s90.2 0 _ l85 (by decide) (Or.inl rfl)
  have l92 := s90.2 1 _ l86 (by decide) (Or.inl rfl)
  have l93 := s90.2 2 _ l87 (by decide) (Or.inl rfl)
  have l94 := s90.2 3 _ l88 (by decide) (Or.inl rfl)
  have l95 := s90.1
  exact wx_told15 m1 m2 t0 tt_ tb ts hb ⟨x1, x2⟩ g 20 lv89 h 0 T l91 l92 l93 l94 l95 BA hs (by omega) (by omega)
