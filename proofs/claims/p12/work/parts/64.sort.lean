/-! SORTING (wip/p2/hand/g64.py) -/
section
variable {ty : Nat → Option Nat} {tt : List sv_T} {mods : List (Nat × Nat)} {h0 : ae_H} {Q : ae_R → Prop} {mi pc : Nat} {M : ae_M} {lv : ae_L} {st : List ae_V} {h : ae_H}
theorem wk_alen {k t tag len mask : Nat} {lo hi : Int} (hM : ae_m mi = some M) (hd : decode M.2.2.1 pc = .ok (.arraylength, 1)) (hh : sv_hk ty tt h) (hk : ty k = some t) (hT : tt[t]? = some (1, tag, len, lo, hi, mask, [])) (hl : len < 2147483648) (g : sv_G Q mi (pc + 1) lv (wk_i (len : Int) :: st) h) : sv_G Q mi pc lv (wk_r k :: st) h := by
  obtain ⟨A, g1, -⟩ := sv_hk_a hh hk hT rfl
  have g1 : ae_hg h k = some (.inl (tag, len, .inl A)) := g1
  refine sv_G_step hM hd rfl (fun K C => ?_) g
  show (match ae_hg h k with
      | some (.inl (_, n, _)) => cond (Nat.blt n 2147483648) (K (Nat.add pc 1) 0 0 lv (ae_i n :: st) h) none
      | _ => none) = _
  rw [g1]
  show cond (Nat.blt len 2147483648) (K (Nat.add pc 1) 0 0 lv (ae_i len :: st) h) none = _
  rw [show Nat.blt len 2147483648 = true from Nat.ble_eq_true_of_le hl, cond_true]
  show K _ _ _ _ (.inl (.inl len) :: st) h = K _ _ _ _ (.inl (.inl (sv_u (len : Int))) :: st) h
  rw [sv_u_nat (by omega)]
/-- the link leads to arraycopy -/
noncomputable def wk_c7 (M : ae_M) (idx : Nat) : Bool := and (and (Nat.ble 1 M.2.2.2.2.2.2.2.1) (Nat.ble 60 M.2.2.2.2.2.2.2.2.1)) (match ae_cp M.1 idx with
  | some (7, _, _) => true
  | _ => false)
theorem wk_copy {ks kd ts td ns nd ms idx : Nat} {lo hi lo2 hi2 sp dp n : Int} (hM : ae_m mi = some M) (hd : decode M.2.2.1 pc = .ok (.invokestatic idx, 3)) (hcc : wk_c7 M idx = true) (hty : ∀ q t, ty q = some t → q < 256) (hT0 : sv_Tk ty tt mods h0 h) (hm : (td, 0) ∈ mods) (hks : ty ks = some ts) (hkd : ty kd = some td) (hTs : tt[ts]? = some (1, 0, ns, lo, hi, ms, [])) (hTd : tt[td]? = some (1, 0, nd, lo2, hi2, 0, [])) (hr : lo2 ≤ lo ∧ hi ≤ hi2) (hl : ns < 2147483648 ∧ nd < 2147483648) (h1 : 0 ≤ sp ∧ 0 ≤ dp ∧ 0 ≤ n ∧ sp + n ≤ ns ∧ dp + n ≤ nd) (hst : Nat.ble (ae_catS st) 8 = true)
    (g : ∀ h', sv_Tk ty tt mods h0 h' → (∀ k' i', 0 ≤ i' → wk_R h' k' i' = if k' = kd ∧ dp ≤ i' ∧ i' < dp + n then wk_R h ks (sp + (i' - dp)) else wk_R h k' i') → (∀ k' j, wk_F h' k' j = wk_F h k' j) → sv_fr ty [(td, 0)] h h' → sv_G Q mi (pc + 3) lv st h') : sv_G Q mi pc lv (wk_i n :: wk_i dp :: wk_r kd :: wk_i sp :: wk_r ks :: st) h := by
  obtain ⟨A, g1, ra⟩ := sv_hk_a hT0.1 hks hTs rfl
  obtain ⟨B, g2, rb⟩ := sv_hk_a hT0.1 hkd hTd rfl
  have g1 : ae_hg h ks = some (.inl (0, ns, .inl A)) := g1
  have g2 : ae_hg h kd = some (.inl (0, nd, .inl B)) := g2
  have en : sv_u n = n.toNat := sv_u_nn h1.2.2.1 (by omega)
  have ed : sv_u dp = dp.toNat := sv_u_nn h1.2.1 (by omega)
  have es : sv_u sp = sp.toNat := sv_u_nn h1.1 (by omega)
  obtain ⟨p1, p2, p3, p4⟩ := sv_row_ok (c := (0, nd, .inl (ae_blit A sp.toNat B dp.toNat n.toNat))) hty hT0.1 hkd hTd g2 (fun h' hg' => ⟨_, hg', fun j hj => by
    have hj : j < nd := hj
    rw [sv_rd_blit]
    split
    · next hc =>
      obtain ⟨q1, q2, -⟩ := ra (sp.toNat + (j - dp.toNat)) (show _ < ns by omega)
      have q1 : lo ≤ _ := q1
      have q2 : _ ≤ hi := q2
      exact ⟨Int.le_trans hr.1 q1, Int.le_trans q2 hr.2, Or.inl rfl⟩
    · exact rb j hj⟩)
  have k256 := hty kd td hkd
  refine sv_G_step hM hd rfl (fun K C => ?_) (g _ ⟨p1, hT0.2.tr (p2.wd (fun q hq => by rw [List.mem_singleton.mp hq]; exact hm))⟩ (fun k' i' hi' => ?_) (fun k' j => ?_) p2)
  · unfold wk_c7 at hcc
    rw [Bool.and_eq_true, Bool.and_eq_true] at hcc
    obtain ⟨⟨c1, c2⟩, c3⟩ := hcc
    show ae_call M 0 idx pc 0 0 lv (wk_i n :: wk_i dp :: wk_r kd :: wk_i sp :: wk_r ks :: st) h K C = _
    unfold ae_call
    split at c3
    · next z1 z2 e =>
      rw [e]
      show cond (and (Nat.beq 0 0) (and (Nat.ble 1 M.2.2.2.2.2.2.2.1) (Nat.ble 60 M.2.2.2.2.2.2.2.2.1))) (ae_cpy (wk_i n :: wk_i dp :: wk_r kd :: wk_i sp :: wk_r ks :: st) h fun st h => cond (Nat.ble (ae_catS st) 8) (K (Nat.add pc 3) 0 0 lv st h) none) none = _
      rw [c1, c2, Nat.beq_refl, Bool.and_self, Bool.and_self, cond_true]
      unfold ae_cpy; dsimp only
      rw [g1, g2, en, ed, es]
      show cond (and (Nat.ble 0 1) (and (Nat.beq 0 0) (and (Nat.ble (Nat.add sp.toNat n.toNat) ns) (and (Nat.ble (Nat.add dp.toNat n.toNat) nd) (and (Nat.blt ns 2147483648) (Nat.blt nd 2147483648)))))) (ae_f (ae_blit A sp.toNat B dp.toNat n.toNat) fun B2 => cond (Nat.ble (ae_catS st) 8) (K (Nat.add pc 3) 0 0 lv st (ae_hs h kd (.inl (0, nd, .inl B2)))) none) none = _
      rw [show Nat.ble (Nat.add sp.toNat n.toNat) ns = true from Nat.ble_eq_true_of_le (show sp.toNat + n.toNat ≤ ns by omega), show Nat.ble (Nat.add dp.toNat n.toNat) nd = true from Nat.ble_eq_true_of_le (show dp.toNat + n.toNat ≤ nd by omega), show Nat.blt ns 2147483648 = true from Nat.ble_eq_true_of_le hl.1, show Nat.blt nd 2147483648 = true from Nat.ble_eq_true_of_le hl.2, ae_f_eq, hst]
      rfl
    · cases c3
  · by_cases e : k' = kd
    · subst e
      rw [wk_R_of p3, wk_R_of g2, sv_rd_blit]
      by_cases hc : dp ≤ i' ∧ i' < dp + n
      · rw [if_pos (by omega), if_pos ⟨rfl, hc⟩, wk_R_of g1]
        congr 2
        omega
      · rw [if_neg (by omega), if_neg (fun z => hc z.2)]
    · rw [if_neg (fun z => e z.1)]
      unfold wk_R; rw [wk_hg_o k256 e]
  · unfold wk_F
    by_cases e : k' = kd
    · subst e; rw [p3, g2]
    · rw [wk_hg_o k256 e]
end
/-- how many of the first n have a property -/
def wk_ct (p : Int → Prop) [DecidablePred p] : Nat → Nat
  | 0 => 0
  | n + 1 => wk_ct p n + (if p n then 1 else 0)
theorem wk_ct_le (p : Int → Prop) [DecidablePred p] : ∀ n, wk_ct p n ≤ n
  | 0 => Nat.le_refl 0
  | n + 1 => by
    have := wk_ct_le p n
    show wk_ct p n + _ ≤ n + 1
    split <;> omega
theorem wk_ct_mono (p : Int → Prop) [DecidablePred p] {m : Nat} : ∀ {n}, m ≤ n → wk_ct p m ≤ wk_ct p n
  | 0, h => by rw [Nat.le_zero.mp h]; exact Nat.le_refl _
  | n + 1, h => by
    by_cases e : m = n + 1
    · rw [e]; exact Nat.le_refl _
    · have := wk_ct_mono p (m := m) (n := n) (by omega)
      show _ ≤ wk_ct p n + _
      omega
theorem wk_ct_add (p q r : Int → Prop) [DecidablePred p] [DecidablePred q] [DecidablePred r] (h : ∀ i, (r i ↔ p i ∨ q i) ∧ ¬ (p i ∧ q i)) : ∀ n, wk_ct r n = wk_ct p n + wk_ct q n
  | 0 => rfl
  | n + 1 => by
    have ih := wk_ct_add p q r h n
    show wk_ct r n + (if r n then 1 else 0) = wk_ct p n + (if p n then 1 else 0) + (wk_ct q n + (if q n then 1 else 0))
    have h1 := h n
    by_cases hp : p n
    · have hq : ¬ q n := fun z => h1.2 ⟨hp, z⟩
      rw [if_pos hp, if_neg hq, if_pos (h1.1.mpr (Or.inl hp))]; omega
    · by_cases hq : q n
      · rw [if_neg hp, if_pos hq, if_pos (h1.1.mpr (Or.inr hq))]; omega
      · rw [if_neg hp, if_neg hq, if_neg (fun z => (h1.1.mp z).elim hp hq)]; omega
theorem wk_ct_zero (p : Int → Prop) [DecidablePred p] (h : ∀ i, ¬ p i) : ∀ n, wk_ct p n = 0
  | 0 => rfl
  | n + 1 => by
    show wk_ct p n + (if p n then 1 else 0) = 0
    rw [wk_ct_zero p h n, if_neg (h n)]
/-- the place of one that is of rank r -/
theorem wk_ct_place (f : Int → Int) {i n : Nat} (hi : i < n) : wk_ct (fun j => f j + 1 ≤ f i) n + wk_ct (fun j => f j = f i) i < n := by
  have h1 := wk_ct_mono (fun j => f j = f i) (m := i + 1) (n := n) hi
  have h2 : wk_ct (fun j => f j = f i) (i + 1) = wk_ct (fun j => f j = f i) i + 1 := by
    show wk_ct (fun j => f j = f i) i + (if f i = f i then 1 else 0) = _
    rw [if_pos rfl]
  have h3 := wk_ct_add (fun j => f j + 1 ≤ f i) (fun j => f j = f i) (fun j => f j ≤ f i) (fun j => by constructor <;> omega) n
  have h4 := wk_ct_le (fun j => f j ≤ f i) n
  omega
/-- the rank of a cell -/
def wk_rk (x : Int) : Int := sv_g (sv_u (sv_g (sv_u x &&& sv_u 15) + 1) &&& sv_u 15)
theorem wk_rk_ok {x : Int} (hx : 0 ≤ x ∧ x ≤ 31) (hm : sv_mb wk_mask x) : 0 ≤ wk_rk x ∧ wk_rk x ≤ 10 := by
  obtain ⟨-, h2⟩ := wk_and15 hx hm
  unfold wk_rk
  generalize sv_g (sv_u x &&& sv_u 15) = y at h2
  have key : ∀ z : Fin 16, (z.val ≤ 9 ∨ z.val = 15) → (z.val + 1) &&& 15 ≤ 10 := by decide +kernel
  have ey : sv_u (y + 1) = y.toNat + 1 := by rw [sv_u_nn (by omega) (by omega)]; omega
  have hk := key ⟨y.toNat, by omega⟩ (by show y.toNat ≤ 9 ∨ y.toNat = 15; omega)
  have hk : (y.toNat + 1) &&& 15 ≤ 10 := hk
  rw [ey, show sv_u 15 = 15 from rfl, wk_g_nat (by omega)]
  omega

theorem tU_18 {a b : Nat} (ha : sv_ty a = some 18) (hb : sv_ty b = some 18) : a = b := wk_uq (by decide +kernel) ha hb
theorem tU_19 {a b : Nat} (ha : sv_ty a = some 19) (hb : sv_ty b = some 19) : a = b := wk_uq (by decide +kernel) ha hb
theorem tU_20 {a b : Nat} (ha : sv_ty a = some 20) (hb : sv_ty b = some 20) : a = b := wk_uq (by decide +kernel) ha hb
theorem tU_14 {a b : Nat} (ha : sv_ty a = some 14) (hb : sv_ty b = some 14) : a = b := wk_uq (by decide +kernel) ha hb
theorem wx_rank {mods : List (Nat × Nat)} {h0 h : ae_H} {Q : ae_R → Prop} {lv : ae_L} {k0 kc : Nat} {c n : Int} (T : sv_Tk sv_ty sv_tt mods h0 h) (t0 : sv_ty k0 = some 1) (tc : sv_ty kc = some 14) (F : wk_F h k0 0 = some (wk_r kc)) (hc : 0 ≤ c ∧ c ≤ 6380) (hn : 1 ≤ n ∧ n ≤ 20) (l0 : ae_lk lv 0 = some (wk_r k0)) (l1 : ae_lk lv 1 = some (wk_i c)) (l2 : ae_lk lv 2 = some (wk_i n))
    (g : Q (some (wk_i (wk_rk (wk_R h kc (c + n - 1)))), h)) : sv_G Q 28 0 lv [] h := by
  refine wk_aload_n wm_28 wd_28_0 l0 ?_
  refine wk_iload_n wm_28 wd_28_1 l1 ?_
  refine wk_iload_n wm_28 wd_28_2 l2 ?_
  refine wk_call (Or.inr ⟨rfl, rfl⟩) wm_28 wd_28_3 (by decide +kernel) wm_26 (by decide +kernel) rfl rfl (wk_rcv T.1 t0 tT_1) ?_
  refine wx_digit T t0 tc F hc hn rfl rfl rfl ?_
  show sv_G Q 28 6 lv [wk_i (sv_g (sv_u (wk_R h kc (c + n - 1)) &&& sv_u 15))] h
  refine wk_iconst wm_28 wd_28_6 (by decide) ?_
  refine wk_iadd wm_28 wd_28_7 ?_
  refine wk_bipush wm_28 wd_28_8 (by decide) ?_
  refine wk_iand wm_28 wd_28_10 ?_
  refine wk_ireturn wm_28 wd_28_11 rfl ?_
  exact g
theorem wx_fill5 {mods : List (Nat × Nat)} {h0 hs : ae_H} {Q : ae_R → Prop} {r : Nat} (hm : (20, 0) ∈ mods) (tr : sv_ty r = some 20)
    (g : ∀ h, sv_Tk sv_ty sv_tt mods h0 h → (∀ l, 0 ≤ l → l < 12 → wk_R h r l = 0) → (∀ k j, wk_F h k j = wk_F hs k j) → (∀ k, k ≠ r → ∀ i, 0 ≤ i → wk_R h k i = wk_R hs k i) → Q (none, h)) :
    ∀ (d : Nat) (lv : ae_L) (h : ae_H) (n : Int), sv_Tk sv_ty sv_tt mods h0 h → (ae_lk lv 0 = some (wk_r r)) → (ae_lk lv 1 = some (wk_i 0)) → (ae_lk lv 2 = some (wk_i n)) → (ae_lk lv 3 = some (wk_i 12)) → (∀ l, 0 ≤ l → l < n → wk_R h r l = 0) → (∀ k j, wk_F h k j = wk_F hs k j) → (∀ k, k ≠ r → ∀ i, 0 ≤ i → wk_R h k i = wk_R hs k i) → (0 ≤ n ∧ n ≤ 12) → (12 - n ≤ d) → sv_G Q 285 5 lv [] h := by
  intro d
  induction d with
  | zero =>
    intro lv h n T l0 l1 l2 l3 ZA FA RA hn hd
    refine wk_iload_n wm_285 wd_285_5 l2 ?_
    refine wk_iload_n wm_285 wd_285_6 l3 ?_
    refine wk_icmp 20 wm_285 wd_285_7 (by decide) (by unfold sv_I; omega) (by unfold sv_I; omega) (fun c1 => ?_) (fun c1 => ?_)
    · have c1 : (n : Int) ≥ 12 := c1
      refine wk_return wm_285 wd_285_20 rfl ?_
      exact g _ T (fun l a b => ZA l a (by omega)) FA RA
    · have c1 : ¬ ((n : Int) ≥ 12) := c1
      exfalso; omega
  | succ d ih =>
    intro lv h n T l0 l1 l2 l3 ZA FA RA hn hd
    refine wk_iload_n wm_285 wd_285_5 l2 ?_
    refine wk_iload_n wm_285 wd_285_6 l3 ?_
    refine wk_icmp 20 wm_285 wd_285_7 (by decide) (by unfold sv_I; omega) (by unfold sv_I; omega) (fun c2 => ?_) (fun c2 => ?_)
    · have c2 : (n : Int) ≥ 12 := c2
      refine wk_return wm_285 wd_285_20 rfl ?_
      exact g _ T (fun l a b => ZA l a (by omega)) FA RA
    · have c2 : ¬ ((n : Int) ≥ 12) := c2
      refine wk_aload_n wm_285 wd_285_10 l0 ?_
      refine wk_iload_n wm_285 wd_285_11 l2 ?_
      refine wk_iload_n wm_285 wd_285_12 l1 ?_
      refine wk_iast wm_285 wd_285_13 sv_ty_lt T hm tr tT_20 (by decide) ⟨by omega, by omega⟩ ⟨by omega, by omega⟩ (by unfold sv_I; omega) (Or.inl rfl) (fun h3 T4 u5 g6 => ?_)
      refine wk_iinc wm_285 wd_285_14 (by decide +kernel) (by decide) l2 (fun lv7 s8 => ?_)
      have l9 := s8.2 0 _ l0 (by decide) (Or.inl rfl)
      have l10 := s8.2 1 _ l1 (by decide) (Or.inl rfl)
      have l11 := s8.2 3 _ l3 (by decide) (Or.inl rfl)
      have l12 := s8.1
      refine wk_goto 5 wm_285 wd_285_17 (by decide) ?_
      exact ih lv7 h3 (n + 1) T4 l9 l10 l12 l11 (fun l a b => by
        by_cases e : l = n
        · rw [e]; exact wk_up_s u5 (by omega)
        · rw [wk_up_i u5 a e]; exact ZA l a (by omega)) (fun k j => (u5.2 k j).trans (FA k j)) (fun k hk i a => (wk_up_o u5 hk a).trans (RA k hk i a)) (by omega) (by omega)
theorem wx_fill {mods : List (Nat × Nat)} {h0 h : ae_H} {Q : ae_R → Prop} {lv : ae_L} {r : Nat} (hm : (20, 0) ∈ mods) (tr : sv_ty r = some 20) (T : sv_Tk sv_ty sv_tt mods h0 h) (l0 : ae_lk lv 0 = some (wk_r r)) (l1 : ae_lk lv 1 = some (wk_i 0))
    (g : ∀ h2, sv_Tk sv_ty sv_tt mods h0 h2 → (∀ l, 0 ≤ l → l < 12 → wk_R h2 r l = 0) → (∀ k j, wk_F h2 k j = wk_F h k j) → (∀ k, k ≠ r → ∀ i, 0 ≤ i → wk_R h2 k i = wk_R h k i) → Q (none, h2)) : sv_G Q 285 0 lv [] h := by
  refine wk_iconst wm_285 wd_285_0 (by decide) ?_
  refine wk_istore_n wm_285 wd_285_1 (by decide +kernel) (fun lv13 s14 => ?_)
  have l15 := s14.2 0 _ l0 (by decide) (Or.inl rfl)
  have l16 := s14.2 1 _ l1 (by decide) (Or.inl rfl)
  have l17 := s14.1
  refine wk_aload_n wm_285 wd_285_2 l15 ?_
  refine wk_alen wm_285 wd_285_3 T.1 tr tT_20 (by decide) ?_
  refine wk_istore_n wm_285 wd_285_4 (by decide +kernel) (fun lv18 s19 => ?_)
  have l20 := s19.2 0 _ l15 (by decide) (Or.inl rfl)
  have l21 := s19.2 1 _ l16 (by decide) (Or.inl rfl)
  have l22 := s19.2 2 _ l17 (by decide) (Or.inl rfl)
  have l23 := s19.1
  exact wx_fill5 hm tr g 12 lv18 h 0 T l20 l21 l22 l23 (fun l a b => by omega) (fun _ _ => rfl) (fun _ _ _ _ => rfl) (by omega) (by omega)
theorem wx_76 {mods : List (Nat × Nat)} {h0 : ae_H} {Q : ae_R → Prop} {k0 kc kr ko kp : Nat} {sz n : Int} {C S f : Int → Int} (m1 : (20, 0) ∈ mods) (m2 : (19, 0) ∈ mods) (m3 : (18, 0) ∈ mods) (t0 : sv_ty k0 = some 1) (tc : sv_ty kc = some 14) (tr : sv_ty kr = some 20) (to : sv_ty ko = some 18) (tp : sv_ty kp = some 19) (hz : 0 ≤ sz ∧ sz ≤ 40) (hn : 1 ≤ n ∧ n ≤ 20) (hf : ∀ i, 0 ≤ i → i < sz → f i = wk_rk (C (S i + n - 1)) ∧ 0 ≤ f i ∧ f i ≤ 10) (g : ∀ h, sv_Tk sv_ty sv_tt mods h0 h → Q (none, h)) :
    ∀ (d : Nat) (lv : ae_L) (h : ae_H) (i : Int), sv_Tk sv_ty sv_tt mods h0 h → (ae_lk lv 0 = some (wk_r k0)) → (ae_lk lv 1 = some (wk_i sz)) → (ae_lk lv 2 = some (wk_i n)) → (ae_lk lv 3 = some (wk_i i)) → (wk_F h k0 0 = some (wk_r kc)) → (wk_F h k0 7 = some (wk_r kr)) → (wk_F h k0 5 = some (wk_r ko)) → (wk_F h k0 6 = some (wk_r kp)) → (∀ i, 0 ≤ i → i < 6400 → wk_R h kc i = C i) → (∀ i, 0 ≤ i → i < 40 → wk_R h ko i = S i) → (∀ r, 0 ≤ r → r < 11 → wk_R h kr r = ((wk_ct (fun j => f j + 1 ≤ r) sz.toNat : Nat) : Int) + ((wk_ct (fun j => f j = r) i.toNat : Nat) : Int)) → (0 ≤ i ∧ i ≤ sz) → (sz - i ≤ d) → sv_G Q 30 76 lv [] h := by
  intro d
  induction d with
  | zero =>
    intro lv h i T l0 l1 l2 l3 F1 F2 F3 F4 CA SA KA hi hd
    refine wk_iload_n wm_30 wd_30_76 l3 ?_
    refine wk_iload_n wm_30 wd_30_77 l1 ?_
    refine wk_icmp 129 wm_30 wd_30_78 (by decide) (by unfold sv_I; omega) (by unfold sv_I; omega) (fun c24 => ?_) (fun c24 => ?_)
    · have c24 : (i : Int) ≥ sz := c24
      refine wk_aload_n wm_30 wd_30_129 l0 ?_
      refine wk_getf wm_30 wd_30_130 (by decide +kernel) T.1 t0 tT_1 F4 ?_
      refine wk_iconst wm_30 wd_30_133 (by decide) ?_
      refine wk_aload_n wm_30 wd_30_134 l0 ?_
      refine wk_getf wm_30 wd_30_135 (by decide +kernel) T.1 t0 tT_1 F3 ?_
      refine wk_iconst wm_30 wd_30_138 (by decide) ?_
      refine wk_iload_n wm_30 wd_30_139 l1 ?_
      refine wk_copy wm_30 wd_30_140 (by decide +kernel) sv_ty_lt T m3 tp to tT_19 tT_18 (by decide) (by decide) ⟨by omega, by omega, by omega, by omega, by omega⟩ rfl (fun h9 T9 r9 f9 g9 => ?_)
      refine wk_return wm_30 wd_30_143 rfl ?_
      exact g _ T9
    · have c24 : ¬ ((i : Int) ≥ sz) := c24
      exfalso; omega
  | succ d ih =>
    intro lv h i T l0 l1 l2 l3 F1 F2 F3 F4 CA SA KA hi hd
    refine wk_iload_n wm_30 wd_30_76 l3 ?_
    refine wk_iload_n wm_30 wd_30_77 l1 ?_
    refine wk_icmp 129 wm_30 wd_30_78 (by decide) (by unfold sv_I; omega) (by unfold sv_I; omega) (fun c25 => ?_) (fun c25 => ?_)
    · have c25 : (i : Int) ≥ sz := c25
      refine wk_aload_n wm_30 wd_30_129 l0 ?_
      refine wk_getf wm_30 wd_30_130 (by decide +kernel) T.1 t0 tT_1 F4 ?_
      refine wk_iconst wm_30 wd_30_133 (by decide) ?_
      refine wk_aload_n wm_30 wd_30_134 l0 ?_
      refine wk_getf wm_30 wd_30_135 (by decide +kernel) T.1 t0 tT_1 F3 ?_
      refine wk_iconst wm_30 wd_30_138 (by decide) ?_
      refine wk_iload_n wm_30 wd_30_139 l1 ?_
      refine wk_copy wm_30 wd_30_140 (by decide +kernel) sv_ty_lt T m3 tp to tT_19 tT_18 (by decide) (by decide) ⟨by omega, by omega, by omega, by omega, by omega⟩ rfl (fun h9 T9 r9 f9 g9 => ?_)
      refine wk_return wm_30 wd_30_143 rfl ?_
      exact g _ T9
    · have c25 : ¬ ((i : Int) ≥ sz) := c25
      refine wk_aload_n wm_30 wd_30_81 l0 ?_
      refine wk_aload_n wm_30 wd_30_82 l0 ?_
      refine wk_getf wm_30 wd_30_83 (by decide +kernel) T.1 t0 tT_1 F3 ?_
      refine wk_iload_n wm_30 wd_30_86 l3 ?_
      refine wk_iald wm_30 wd_30_87 sv_ty_lt T.1 to tT_18 (by decide) ⟨by omega, by omega⟩ (fun q26 q27 => ?_)
      refine wk_iload_n wm_30 wd_30_88 l2 ?_
      refine wk_call (Or.inr ⟨rfl, rfl⟩) wm_30 wd_30_89 (by decide +kernel) wm_28 (by decide +kernel) rfl rfl (wk_rcv T.1 t0 tT_1) ?_
      have es := SA i (by omega) (by omega)
      have ec := CA (wk_R h ko i + n - 1) (by omega) (by omega)
      obtain ⟨ef, f1, f2⟩ := hf i (by omega) (by omega)
      have er : wk_rk (wk_R h kc (wk_R h ko i + n - 1)) = f i := by rw [ec, es, ef]
      refine wx_rank T t0 tc F1 ⟨by omega, by omega⟩ hn rfl rfl rfl ?_
      rw [er]
      show sv_G Q 30 92 lv [wk_i (f i)] h
      refine wk_istore wm_30 wd_30_92 (by decide +kernel) (fun lv28 s29 => ?_)
      have l30 := s29.2 0 _ l0 (by decide) (Or.inl rfl)
      have l31 := s29.2 1 _ l1 (by decide) (Or.inl rfl)
      have l32 := s29.2 2 _ l2 (by decide) (Or.inl rfl)
      have l33 := s29.2 3 _ l3 (by decide) (Or.inl rfl)
      have l34 := s29.1
      have ra := KA (f i) (by omega) (by omega)
      have pl := wk_ct_place f (i := i.toNat) (n := sz.toNat) (by omega)
      rw [Int.toNat_of_nonneg (show 0 ≤ i by omega)] at pl
      refine wk_aload_n wm_30 wd_30_94 l30 ?_
      refine wk_getf wm_30 wd_30_95 (by decide +kernel) T.1 t0 tT_1 F4 ?_
      refine wk_aload_n wm_30 wd_30_98 l30 ?_
      refine wk_getf wm_30 wd_30_99 (by decide +kernel) T.1 t0 tT_1 F2 ?_
      refine wk_iload wm_30 wd_30_102 l34 ?_
      refine wk_iald wm_30 wd_30_104 sv_ty_lt T.1 tr tT_20 (by decide) ⟨by omega, by omega⟩ (fun q35 q36 => ?_)
      refine wk_aload_n wm_30 wd_30_105 l30 ?_
      refine wk_getf wm_30 wd_30_106 (by decide +kernel) T.1 t0 tT_1 F3 ?_
      refine wk_iload_n wm_30 wd_30_109 l33 ?_
      refine wk_iald wm_30 wd_30_110 sv_ty_lt T.1 to tT_18 (by decide) ⟨by omega, by omega⟩ (fun q37 q38 => ?_)
      refine wk_iast wm_30 wd_30_111 sv_ty_lt T m2 tp tT_19 (by decide) ⟨by omega, by omega⟩ ⟨by omega, by omega⟩ (by unfold sv_I; omega) (Or.inl rfl) (fun h39 T40 u41 g42 => ?_)
      have f43 := (u41.2 _ _).trans F1
      have f44 := (u41.2 _ _).trans F2
      have f45 := (u41.2 _ _).trans F3
      have f46 := (u41.2 _ _).trans F4
      have e1 : wk_R h39 kr (f i) = wk_R h kr (f i) := wk_up_o u41 (wk_ne tr tp (by decide)) (by omega)
      refine wk_aload_n wm_30 wd_30_112 l30 ?_
      refine wk_getf wm_30 wd_30_113 (by decide +kernel) T40.1 t0 tT_1 f44 ?_
      refine wk_iload wm_30 wd_30_116 l34 ?_
      refine wk_dup2 wm_30 wd_30_118 rfl rfl ?_
      refine wk_iald wm_30 wd_30_119 sv_ty_lt T40.1 tr tT_20 (by decide) ⟨by omega, by omega⟩ (fun q47 q48 => ?_)
      refine wk_iconst wm_30 wd_30_120 (by decide) ?_
      refine wk_iadd wm_30 wd_30_121 ?_
      refine wk_iast wm_30 wd_30_122 sv_ty_lt T40 m1 tr tT_20 (by decide) ⟨by omega, by omega⟩ ⟨by omega, by omega⟩ (by unfold sv_I; omega) (Or.inl rfl) (fun h49 T50 u51 g52 => ?_)
      have f53 := (u51.2 _ _).trans f43
      have f54 := (u51.2 _ _).trans f44
      have f55 := (u51.2 _ _).trans f45
      have f56 := (u51.2 _ _).trans f46
      refine wk_iinc wm_30 wd_30_123 (by decide +kernel) (by decide) l33 (fun lv57 s58 => ?_)
      have l59 := s58.2 0 _ l30 (by decide) (Or.inl rfl)
      have l60 := s58.2 1 _ l31 (by decide) (Or.inl rfl)
      have l61 := s58.2 2 _ l32 (by decide) (Or.inl rfl)
      have l62 := s58.2 4 _ l34 (by decide) (Or.inl rfl)
      have l63 := s58.1
      refine wk_goto 76 wm_30 wd_30_126 (by decide) ?_
      exact ih lv57 h49 (i + 1) T50 l59 l60 l61 l63 f53 f54 f55 f56 (fun j a b => by rw [wk_up_o u51 (wk_ne tc tr (by decide)) a, wk_up_o u41 (wk_ne tc tp (by decide)) a]; exact CA j a b) (fun j a b => by rw [wk_up_o u51 (wk_ne to tr (by decide)) a, wk_up_o u41 (wk_ne to tp (by decide)) a]; exact SA j a b) (fun r a b => by
        rw [show (i + 1).toNat = i.toNat + 1 by omega]
        show _ = ((wk_ct (fun j => f j + 1 ≤ r) sz.toNat : Nat) : Int) + ((wk_ct (fun j => f j = r) i.toNat + (if f (i.toNat : Int) = r then 1 else 0) : Nat) : Int)
        rw [Int.toNat_of_nonneg (show 0 ≤ i by omega)]
        have kr := KA r a b
        by_cases e : r = f i
        · subst e; rw [wk_up_s u51 a, e1, if_pos rfl]; omega
        · rw [wk_up_i u51 a e, wk_up_o u41 (wk_ne tr tp (by decide)) a, if_neg (fun z => e z.symm)]; omega) (by omega) (by omega)
theorem wx_45 {mods : List (Nat × Nat)} {h0 : ae_H} {Q : ae_R → Prop} {k0 kc kr ko kp : Nat} {sz n : Int} {C S f : Int → Int} (m1 : (20, 0) ∈ mods) (m2 : (19, 0) ∈ mods) (m3 : (18, 0) ∈ mods) (t0 : sv_ty k0 = some 1) (tc : sv_ty kc = some 14) (tr : sv_ty kr = some 20) (to : sv_ty ko = some 18) (tp : sv_ty kp = some 19) (hz : 0 ≤ sz ∧ sz ≤ 40) (hn : 1 ≤ n ∧ n ≤ 20) (hf : ∀ i, 0 ≤ i → i < sz → f i = wk_rk (C (S i + n - 1)) ∧ 0 ≤ f i ∧ f i ≤ 10) (g : ∀ h, sv_Tk sv_ty sv_tt mods h0 h → Q (none, h)) :
    ∀ (d : Nat) (lv : ae_L) (h : ae_H) (i : Int), sv_Tk sv_ty sv_tt mods h0 h → (ae_lk lv 0 = some (wk_r k0)) → (ae_lk lv 1 = some (wk_i sz)) → (ae_lk lv 2 = some (wk_i n)) → (ae_lk lv 3 = some (wk_i i)) → (wk_F h k0 0 = some (wk_r kc)) → (wk_F h k0 7 = some (wk_r kr)) → (wk_F h k0 5 = some (wk_r ko)) → (wk_F h k0 6 = some (wk_r kp)) → (∀ i, 0 ≤ i → i < 6400 → wk_R h kc i = C i) → (∀ i, 0 ≤ i → i < 40 → wk_R h ko i = S i) → (∀ r, 0 ≤ r → r < 12 → wk_R h kr r = if r < i then ((wk_ct (fun j => f j + 1 ≤ r) sz.toNat : Nat) : Int) else ((wk_ct (fun j => f j + 1 = r) sz.toNat : Nat) : Int)) → (1 ≤ i ∧ i ≤ 12) → (12 - i ≤ d) → sv_G Q 30 45 lv [] h := by
  intro d
  induction d with
  | zero =>
    intro lv h i T l0 l1 l2 l3 F1 F2 F3 F4 CA SA KA hi hd
    refine wk_iload_n wm_30 wd_30_45 l3 ?_
    refine wk_bipush wm_30 wd_30_46 (by decide) ?_
    refine wk_icmp 74 wm_30 wd_30_48 (by decide) (by unfold sv_I; omega) (by unfold sv_I; omega) (fun c64 => ?_) (fun c64 => ?_)
    · have c64 : (i : Int) > 11 := c64
      refine wk_iconst wm_30 wd_30_74 (by decide) ?_
      refine wk_istore_n wm_30 wd_30_75 (by decide +kernel) (fun lv65 s66 => ?_)
      have l67 := s66.2 0 _ l0 (by decide) (Or.inl rfl)
      have l68 := s66.2 1 _ l1 (by decide) (Or.inl rfl)
      have l69 := s66.2 2 _ l2 (by decide) (Or.inl rfl)
      have l70 := s66.1
      exact wx_76 m1 m2 m3 t0 tc tr to tp hz hn hf g 40 lv65 h 0 T l67 l68 l69 l70 F1 F2 F3 F4 CA SA (fun r a b => by
        rw [KA r a (by omega), if_pos (by omega)]
        show _ = _ + ((0 : Nat) : Int)
        omega) (by omega) (by omega)
    · have c64 : ¬ ((i : Int) > 11) := c64
      exfalso; omega
  | succ d ih =>
    intro lv h i T l0 l1 l2 l3 F1 F2 F3 F4 CA SA KA hi hd
    refine wk_iload_n wm_30 wd_30_45 l3 ?_
    refine wk_bipush wm_30 wd_30_46 (by decide) ?_
    refine wk_icmp 74 wm_30 wd_30_48 (by decide) (by unfold sv_I; omega) (by unfold sv_I; omega) (fun c71 => ?_) (fun c71 => ?_)
    · have c71 : (i : Int) > 11 := c71
      refine wk_iconst wm_30 wd_30_74 (by decide) ?_
      refine wk_istore_n wm_30 wd_30_75 (by decide +kernel) (fun lv72 s73 => ?_)
      have l74 := s73.2 0 _ l0 (by decide) (Or.inl rfl)
      have l75 := s73.2 1 _ l1 (by decide) (Or.inl rfl)
      have l76 := s73.2 2 _ l2 (by decide) (Or.inl rfl)
      have l77 := s73.1
      exact wx_76 m1 m2 m3 t0 tc tr to tp hz hn hf g 40 lv72 h 0 T l74 l75 l76 l77 F1 F2 F3 F4 CA SA (fun r a b => by
        rw [KA r a (by omega), if_pos (by omega)]
        show _ = _ + ((0 : Nat) : Int)
        omega) (by omega) (by omega)
    · have c71 : ¬ ((i : Int) > 11) := c71
      have a1 := KA i (by omega) (by omega)
      have a2 := KA (i - 1) (by omega) (by omega)
      rw [if_neg (by omega)] at a1
      rw [if_pos (by omega)] at a2
      have b1 := wk_ct_le (fun j => f j + 1 = i) sz.toNat
      have b2 := wk_ct_le (fun j => f j + 1 ≤ i - 1) sz.toNat
      refine wk_aload_n wm_30 wd_30_51 l0 ?_
      refine wk_getf wm_30 wd_30_52 (by decide +kernel) T.1 t0 tT_1 F2 ?_
      refine wk_iload_n wm_30 wd_30_55 l3 ?_
      refine wk_dup2 wm_30 wd_30_56 rfl rfl ?_
      refine wk_iald wm_30 wd_30_57 sv_ty_lt T.1 tr tT_20 (by decide) ⟨by omega, by omega⟩ (fun q78 q79 => ?_)
      refine wk_aload_n wm_30 wd_30_58 l0 ?_
      refine wk_getf wm_30 wd_30_59 (by decide +kernel) T.1 t0 tT_1 F2 ?_
      refine wk_iload_n wm_30 wd_30_62 l3 ?_
      refine wk_iconst wm_30 wd_30_63 (by decide) ?_
      refine wk_isub wm_30 wd_30_64 ?_
      refine wk_iald wm_30 wd_30_65 sv_ty_lt T.1 tr tT_20 (by decide) ⟨by omega, by omega⟩ (fun q80 q81 => ?_)
      refine wk_iadd wm_30 wd_30_66 ?_
      refine wk_iast wm_30 wd_30_67 sv_ty_lt T m1 tr tT_20 (by decide) ⟨by omega, by omega⟩ ⟨by omega, by omega⟩ (by unfold sv_I; omega) (Or.inl rfl) (fun h82 T83 u84 g85 => ?_)
      have f86 := (u84.2 _ _).trans F1
      have f87 := (u84.2 _ _).trans F2
      have f88 := (u84.2 _ _).trans F3
      have f89 := (u84.2 _ _).trans F4
      refine wk_iinc wm_30 wd_30_68 (by decide +kernel) (by decide) l3 (fun lv90 s91 => ?_)
      have l92 := s91.2 0 _ l0 (by decide) (Or.inl rfl)
      have l93 := s91.2 1 _ l1 (by decide) (Or.inl rfl)
      have l94 := s91.2 2 _ l2 (by decide) (Or.inl rfl)
      have l95 := s91.1
      refine wk_goto 45 wm_30 wd_30_71 (by decide) ?_
      exact ih lv90 h82 (i + 1) T83 l92 l93 l94 l95 f86 f87 f88 f89 (fun j a b => by rw [wk_up_o u84 (wk_ne tc tr (by decide)) a]; exact CA j a b) (fun j a b => by rw [wk_up_o u84 (wk_ne to tr (by decide)) a]; exact SA j a b) (fun r a b => by
        have kr := KA r a b
        have ad := wk_ct_add (fun j => f j + 1 = i) (fun j => f j + 1 ≤ i - 1) (fun j => f j + 1 ≤ i) (fun j => by constructor <;> omega) sz.toNat
        by_cases e : r = i
        · subst e; rw [wk_up_s u84 a, if_pos (by omega)]; omega
        · rw [wk_up_i u84 a e, kr]
          by_cases e2 : r < i
          · rw [if_pos e2, if_pos (by omega)]
          · rw [if_neg e2, if_neg (by omega)]) (by omega) (by omega)
theorem wk_ct_lo (p : Int → Prop) [DecidablePred p] : ∀ n : Nat, (∀ i : Int, 0 ≤ i → i < n → ¬ p i) → wk_ct p n = 0
  | 0, _ => rfl
  | n + 1, h => by
    show wk_ct p n + (if p n then 1 else 0) = 0
    rw [wk_ct_lo p n (fun i a b => h i a (by omega)), if_neg (h n (by omega) (by omega))]
theorem wk_ct_z {sz n : Int} {C S f : Int → Int} (hf : ∀ i, 0 ≤ i → i < sz → f i = wk_rk (C (S i + n - 1)) ∧ 0 ≤ f i ∧ f i ≤ 10) (p : Int → Prop) [DecidablePred p] (hp : ∀ j, 0 ≤ f j → ¬ p j) : wk_ct p sz.toNat = 0 :=
  wk_ct_lo p sz.toNat (fun i a b => hp i (hf i a (by omega)).2.1)
theorem wx_10 {mods : List (Nat × Nat)} {h0 : ae_H} {Q : ae_R → Prop} {k0 kc kr ko kp : Nat} {sz n : Int} {C S f : Int → Int} (m1 : (20, 0) ∈ mods) (m2 : (19, 0) ∈ mods) (m3 : (18, 0) ∈ mods) (t0 : sv_ty k0 = some 1) (tc : sv_ty kc = some 14) (tr : sv_ty kr = some 20) (to : sv_ty ko = some 18) (tp : sv_ty kp = some 19) (hz : 0 ≤ sz ∧ sz ≤ 40) (hn : 1 ≤ n ∧ n ≤ 20) (hf : ∀ i, 0 ≤ i → i < sz → f i = wk_rk (C (S i + n - 1)) ∧ 0 ≤ f i ∧ f i ≤ 10) (g : ∀ h, sv_Tk sv_ty sv_tt mods h0 h → Q (none, h)) :
    ∀ (d : Nat) (lv : ae_L) (h : ae_H) (i : Int), sv_Tk sv_ty sv_tt mods h0 h → (ae_lk lv 0 = some (wk_r k0)) → (ae_lk lv 1 = some (wk_i sz)) → (ae_lk lv 2 = some (wk_i n)) → (ae_lk lv 3 = some (wk_i i)) → (wk_F h k0 0 = some (wk_r kc)) → (wk_F h k0 7 = some (wk_r kr)) → (wk_F h k0 5 = some (wk_r ko)) → (wk_F h k0 6 = some (wk_r kp)) → (∀ i, 0 ≤ i → i < 6400 → wk_R h kc i = C i) → (∀ i, 0 ≤ i → i < 40 → wk_R h ko i = S i) → (∀ r, 0 ≤ r → r < 12 → wk_R h kr r = ((wk_ct (fun j => f j + 1 = r) i.toNat : Nat) : Int)) → (0 ≤ i ∧ i ≤ sz) → (sz - i ≤ d) → sv_G Q 30 10 lv [] h := by
  intro d
  induction d with
  | zero =>
    intro lv h i T l0 l1 l2 l3 F1 F2 F3 F4 CA SA KA hi hd
    refine wk_iload_n wm_30 wd_30_10 l3 ?_
    refine wk_iload_n wm_30 wd_30_11 l1 ?_
    refine wk_icmp 43 wm_30 wd_30_12 (by decide) (by unfold sv_I; omega) (by unfold sv_I; omega) (fun c96 => ?_) (fun c96 => ?_)
    · have c96 : (i : Int) ≥ sz := c96
      refine wk_iconst wm_30 wd_30_43 (by decide) ?_
      refine wk_istore_n wm_30 wd_30_44 (by decide +kernel) (fun lv97 s98 => ?_)
      have l99 := s98.2 0 _ l0 (by decide) (Or.inl rfl)
      have l100 := s98.2 1 _ l1 (by decide) (Or.inl rfl)
      have l101 := s98.2 2 _ l2 (by decide) (Or.inl rfl)
      have l102 := s98.1
      exact wx_45 m1 m2 m3 t0 tc tr to tp hz hn hf g 12 lv97 h 1 T l99 l100 l101 l102 F1 F2 F3 F4 CA SA (fun r a b => by
        rw [KA r a b, show i.toNat = sz.toNat by omega]
        by_cases e : r < 1
        · rw [if_pos e, wk_ct_z hf (fun j => f j + 1 = r) (by omega), wk_ct_z hf (fun j => f j + 1 ≤ r) (by omega)]
        · rw [if_neg e]) (by omega) (by omega)
    · have c96 : ¬ ((i : Int) ≥ sz) := c96
      exfalso; omega
  | succ d ih =>
    intro lv h i T l0 l1 l2 l3 F1 F2 F3 F4 CA SA KA hi hd
    refine wk_iload_n wm_30 wd_30_10 l3 ?_
    refine wk_iload_n wm_30 wd_30_11 l1 ?_
    refine wk_icmp 43 wm_30 wd_30_12 (by decide) (by unfold sv_I; omega) (by unfold sv_I; omega) (fun c103 => ?_) (fun c103 => ?_)
    · have c103 : (i : Int) ≥ sz := c103
      refine wk_iconst wm_30 wd_30_43 (by decide) ?_
      refine wk_istore_n wm_30 wd_30_44 (by decide +kernel) (fun lv104 s105 => ?_)
      have l106 := s105.2 0 _ l0 (by decide) (Or.inl rfl)
      have l107 := s105.2 1 _ l1 (by decide) (Or.inl rfl)
      have l108 := s105.2 2 _ l2 (by decide) (Or.inl rfl)
      have l109 := s105.1
      exact wx_45 m1 m2 m3 t0 tc tr to tp hz hn hf g 12 lv104 h 1 T l106 l107 l108 l109 F1 F2 F3 F4 CA SA (fun r a b => by
        rw [KA r a b, show i.toNat = sz.toNat by omega]
        by_cases e : r < 1
        · rw [if_pos e, wk_ct_z hf (fun j => f j + 1 = r) (by omega), wk_ct_z hf (fun j => f j + 1 ≤ r) (by omega)]
        · rw [if_neg e]) (by omega) (by omega)
    · have c103 : ¬ ((i : Int) ≥ sz) := c103
      refine wk_aload_n wm_30 wd_30_15 l0 ?_
      refine wk_getf wm_30 wd_30_16 (by decide +kernel) T.1 t0 tT_1 F2 ?_
      refine wk_aload_n wm_30 wd_30_19 l0 ?_
      refine wk_aload_n wm_30 wd_30_20 l0 ?_
      refine wk_getf wm_30 wd_30_21 (by decide +kernel) T.1 t0 tT_1 F3 ?_
      refine wk_iload_n wm_30 wd_30_24 l3 ?_
      refine wk_iald wm_30 wd_30_25 sv_ty_lt T.1 to tT_18 (by decide) ⟨by omega, by omega⟩ (fun q110 q111 => ?_)
      refine wk_iload_n wm_30 wd_30_26 l2 ?_
      refine wk_call (Or.inr ⟨rfl, rfl⟩) wm_30 wd_30_27 (by decide +kernel) wm_28 (by decide +kernel) rfl rfl (wk_rcv T.1 t0 tT_1) ?_
      have es := SA i (by omega) (by omega)
      have ec := CA (wk_R h ko i + n - 1) (by omega) (by omega)
      obtain ⟨ef, f1, f2⟩ := hf i (by omega) (by omega)
      have er : wk_rk (wk_R h kc (wk_R h ko i + n - 1)) = f i := by rw [ec, es, ef]
      refine wx_rank T t0 tc F1 ⟨by omega, by omega⟩ hn rfl rfl rfl ?_
      rw [er]
      show sv_G Q 30 30 lv [wk_i (f i), wk_r kr] h
      have a1 := KA (f i + 1) (by omega) (by omega)
      have b1 := wk_ct_le (fun j => f j + 1 = f i + 1) i.toNat
      refine wk_iconst wm_30 wd_30_30 (by decide) ?_
      refine wk_iadd wm_30 wd_30_31 ?_
      refine wk_dup2 wm_30 wd_30_32 rfl rfl ?_
      refine wk_iald wm_30 wd_30_33 sv_ty_lt T.1 tr tT_20 (by decide) ⟨by omega, by omega⟩ (fun q112 q113 => ?_)
      refine wk_iconst wm_30 wd_30_34 (by decide) ?_
      refine wk_iadd wm_30 wd_30_35 ?_
      refine wk_iast wm_30 wd_30_36 sv_ty_lt T m1 tr tT_20 (by decide) ⟨by omega, by omega⟩ ⟨by omega, by omega⟩ (by unfold sv_I; omega) (Or.inl rfl) (fun h114 T115 u116 g117 => ?_)
      have f118 := (u116.2 _ _).trans F1
      have f119 := (u116.2 _ _).trans F2
      have f120 := (u116.2 _ _).trans F3
      have f121 := (u116.2 _ _).trans F4
      refine wk_iinc wm_30 wd_30_37 (by decide +kernel) (by decide) l3 (fun lv122 s123 => ?_)
      have l124 := s123.2 0 _ l0 (by decide) (Or.inl rfl)
      have l125 := s123.2 1 _ l1 (by decide) (Or.inl rfl)
      have l126 := s123.2 2 _ l2 (by decide) (Or.inl rfl)
      have l127 := s123.1
      refine wk_goto 10 wm_30 wd_30_40 (by decide) ?_
      exact ih lv122 h114 (i + 1) T115 l124 l125 l126 l127 f118 f119 f120 f121 (fun j a b => by rw [wk_up_o u116 (wk_ne tc tr (by decide)) a]; exact CA j a b) (fun j a b => by rw [wk_up_o u116 (wk_ne to tr (by decide)) a]; exact SA j a b) (fun r a b => by
        have kr := KA r a b
        rw [show (i + 1).toNat = i.toNat + 1 by omega]
        show _ = ((wk_ct (fun j => f j + 1 = r) i.toNat + (if f (i.toNat : Int) + 1 = r then 1 else 0) : Nat) : Int)
        rw [Int.toNat_of_nonneg (show 0 ≤ i by omega)]
        by_cases e : r = f i + 1
        · subst e; rw [wk_up_s u116 a, if_pos rfl]; omega
        · rw [wk_up_i u116 a e, kr, if_neg (fun z => e z.symm)]; omega) (by omega) (by omega)
theorem wx_sortRow {mods : List (Nat × Nat)} {h0 h : ae_H} {Q : ae_R → Prop} {lv : ae_L} {k0 : Nat} {sz n : Int} (m1 : (20, 0) ∈ mods) (m2 : (19, 0) ∈ mods) (m3 : (18, 0) ∈ mods) (t0 : sv_ty k0 = some 1) (T : sv_Tk sv_ty sv_tt mods h0 h) (hz : 0 ≤ sz ∧ sz ≤ 40) (hn : 1 ≤ n ∧ n ≤ 20) (l0 : ae_lk lv 0 = some (wk_r k0)) (l1 : ae_lk lv 1 = some (wk_i sz)) (l2 : ae_lk lv 2 = some (wk_i n))
    (g : ∀ h, sv_Tk sv_ty sv_tt mods h0 h → Q (none, h)) : sv_G Q 30 0 lv [] h := by
  obtain ⟨kc, F1, tc⟩ := wk_ref (j := 0) T.1 t0 tT_1 rfl
  obtain ⟨kr, F2, tr⟩ := wk_ref (j := 7) T.1 t0 tT_1 rfl
  obtain ⟨ko, F3, to⟩ := wk_ref (j := 5) T.1 t0 tT_1 rfl
  obtain ⟨kp, F4, tp⟩ := wk_ref (j := 6) T.1 t0 tT_1 rfl
  refine wk_aload_n wm_30 wd_30_0 l0 ?_
  refine wk_getf wm_30 wd_30_1 (by decide +kernel) T.1 t0 tT_1 F2 ?_
  refine wk_iconst wm_30 wd_30_4 (by decide) ?_
  refine wk_call (Or.inl ⟨rfl, rfl⟩) wm_30 wd_30_5 (by decide +kernel) wm_285 (by decide +kernel) rfl rfl rfl ?_
  refine wx_fill m1 tr T rfl rfl (fun h1 T1 ZA FA RA => ?_)
  show sv_G Q 30 8 lv [] h1
  have f128 := (FA _ _).trans F1
  have f129 := (FA _ _).trans F2
  have f130 := (FA _ _).trans F3
  have f131 := (FA _ _).trans F4
  refine wk_iconst wm_30 wd_30_8 (by decide) ?_
  refine wk_istore_n wm_30 wd_30_9 (by decide +kernel) (fun lv132 s133 => ?_)
  have l134 := s133.2 0 _ l0 (by decide) (Or.inl rfl)
  have l135 := s133.2 1 _ l1 (by decide) (Or.inl rfl)
  have l136 := s133.2 2 _ l2 (by decide) (Or.inl rfl)
  have l137 := s133.1
  refine wx_10 (C := wk_R h kc) (S := wk_R h ko) (f := fun i => wk_rk (wk_R h kc (wk_R h ko i + n - 1))) m1 m2 m3 t0 tc tr to tp hz hn (fun i a b => ⟨rfl, ?_⟩) g 40 lv132 h1 0 T1 l134 l135 l136 l137 f128 f129 f130 f131 (fun j a b => RA kc (wk_ne tc tr (by decide)) j a) (fun j a b => RA ko (wk_ne to tr (by decide)) j a) (fun r a b => ZA r a b) (by omega) (by omega)
  obtain ⟨q1, q2, -⟩ := wk_rng (i := i) T.1 to tT_18 ⟨a, by omega⟩
  obtain ⟨q3, q4, q5⟩ := wk_rng (i := wk_R h ko i + n - 1) T.1 tc tT_14 ⟨by omega, by omega⟩
  exact wk_rk_ok ⟨q3, q4⟩ q5
