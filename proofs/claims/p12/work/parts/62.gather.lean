/-! THE REFERENCE COUNTS GIVERS: gather, and the loop of cycle that looks for a jam (wip/p2/hand/g62.py) -/
theorem wk_uq {t : Nat} (hu : (List.range sv_tys.length).all (fun i => (List.range sv_tys.length).all fun j => !(sv_tys[i]? == some t && sv_tys[j]? == some t) || i == j) = true) {a b : Nat} (ha : sv_ty a = some t) (hb : sv_ty b = some t) : a = b := by
  have la := (List.getElem?_eq_some_iff.mp ha).1
  have lb := (List.getElem?_eq_some_iff.mp hb).1
  have h1 := List.all_eq_true.mp (List.all_eq_true.mp hu a (List.mem_range.mpr la)) b (List.mem_range.mpr lb)
  rw [show sv_tys[a]? = some t from ha, show sv_tys[b]? = some t from hb] at h1
  simpa using h1
theorem tU_71 {a b : Nat} (ha : sv_ty a = some 71) (hb : sv_ty b = some 71) : a = b := wk_uq (by decide +kernel) ha hb
theorem tU_70 {a b : Nat} (ha : sv_ty a = some 70) (hb : sv_ty b = some 70) : a = b := wk_uq (by decide +kernel) ha hb
theorem tU_68 {a b : Nat} (ha : sv_ty a = some 68) (hb : sv_ty b = some 68) : a = b := wk_uq (by decide +kernel) ha hb
theorem wk_up_o {h h' : ae_H} {k k' : Nat} {i v : Int} (u : wk_up h h' k i v) (hne : k' ≠ k) {i' : Int} (hi : 0 ≤ i') : wk_R h' k' i' = wk_R h k' i' := by
  rw [u.1 k' i' hi, if_neg (fun z => hne z.1)]
theorem wk_up_i {h h' : ae_H} {k k' : Nat} {i v : Int} (u : wk_up h h' k i v) {i' : Int} (hi : 0 ≤ i') (hne : i' ≠ i) : wk_R h' k' i' = wk_R h k' i' := by
  rw [u.1 k' i' hi, if_neg (fun z => hne z.2)]
theorem wk_up_s {h h' : ae_H} {k : Nat} {i v : Int} (u : wk_up h h' k i v) (hi : 0 ≤ i) : wk_R h' k i = v := by
  rw [u.1 k i hi, if_pos ⟨rfl, rfl⟩]
/-- how many of the first n give and hang on l -/
def wk_cnt (G R : Int → Int) (l : Int) : Nat → Nat
  | 0 => 0
  | n + 1 => wk_cnt G R l n + (if 0 ≤ G n ∧ R n = l then 1 else 0)
theorem wk_cnt_le (G R : Int → Int) (l : Int) : ∀ n, wk_cnt G R l n ≤ n
  | 0 => Nat.le_refl 0
  | n + 1 => by
    have := wk_cnt_le G R l n
    show wk_cnt G R l n + _ ≤ n + 1
    split <;> omega
theorem wk_cnt_mono (G R : Int → Int) (l : Int) {m : Nat} : ∀ {n}, m ≤ n → wk_cnt G R l m ≤ wk_cnt G R l n
  | 0, h => by rw [Nat.le_zero.mp h]; exact Nat.le_refl _
  | n + 1, h => by
    by_cases e : m = n + 1
    · rw [e]; exact Nat.le_refl _
    · have := wk_cnt_mono G R l (m := m) (n := n) (by omega)
      show _ ≤ wk_cnt G R l n + _
      omega
/-- more than one: another one behind the first -/
theorem wk_cnt_two {G R : Int → Int} {l : Int} {m : Nat} : ∀ {n : Nat}, wk_cnt G R l m = 0 → 2 ≤ wk_cnt G R l n → m ≤ n → ∃ j : Nat, m < j ∧ j < n ∧ 0 ≤ G j ∧ R j = l
  | 0, _, h2, _ => by have h2 : 2 ≤ 0 := h2; omega
  | n + 1, h1, h2, h3 => by
    have h2 : 2 ≤ wk_cnt G R l n + (if 0 ≤ G n ∧ R n = l then 1 else 0) := h2
    by_cases e : m = n + 1
    · rw [e] at h1
      have h1 : wk_cnt G R l n + (if 0 ≤ G n ∧ R n = l then 1 else 0) = 0 := h1
      omega
    · by_cases e3 : 2 ≤ wk_cnt G R l n
      · obtain ⟨j, a, b, c⟩ := wk_cnt_two h1 e3 (by omega)
        exact ⟨j, a, by omega, c⟩
      · have hp : 0 ≤ G n ∧ R n = l := by
          by_cases e2 : 0 ≤ G n ∧ R n = l
          · exact e2
          · rw [if_neg e2] at h2; omega
        by_cases e4 : m = n
        · rw [← e4] at e3 h2
          rw [h1] at h2
          split at h2 <;> omega
        · exact ⟨n, by omega, by omega, hp⟩

theorem wg_no {h : ae_H} {kc : Nat} {G R : Int → Int} {n : Int} (hn : 0 ≤ n) (hG : G n < 0) (CA : ∀ l, 0 ≤ l → l < 217 → wk_R h kc l = wk_cnt G R l n.toNat) : ∀ l, 0 ≤ l → l < 217 → wk_R h kc l = wk_cnt G R l (n + 1).toNat := fun l h1 h2 => by
  rw [CA l h1 h2, show (n + 1).toNat = n.toNat + 1 by omega]
  show _ = ((wk_cnt G R l n.toNat + (if 0 ≤ G (n.toNat : Int) ∧ R (n.toNat : Int) = l then 1 else 0) : Nat) : Int)
  rw [Int.toNat_of_nonneg hn, if_neg (by omega)]
  omega
theorem wg_yes {h h2 : ae_H} {kc : Nat} {G R : Int → Int} {n : Int} (hn : 0 ≤ n) (hG : 0 ≤ G n) (hR : 0 ≤ R n ∧ R n < 217) (CA : ∀ l, 0 ≤ l → l < 217 → wk_R h kc l = wk_cnt G R l n.toNat) (u : wk_up h h2 kc (R n) (wk_R h kc (R n) + 1)) : ∀ l, 0 ≤ l → l < 217 → wk_R h2 kc l = wk_cnt G R l (n + 1).toNat := fun l h1 h2' => by
  rw [show (n + 1).toNat = n.toNat + 1 by omega]
  show _ = ((wk_cnt G R l n.toNat + (if 0 ≤ G (n.toNat : Int) ∧ R (n.toNat : Int) = l then 1 else 0) : Nat) : Int)
  rw [Int.toNat_of_nonneg hn]
  by_cases e : l = R n
  · subst e
    rw [wk_up_s u h1, CA _ h1 h2', if_pos ⟨hG, rfl⟩]; omega
  · rw [wk_up_i u h1 e, CA l h1 h2', if_neg (fun z => e z.2.symm)]; omega
theorem wg_24 {mods : List (Nat × Nat)} {h0 : ae_H} {Q : ae_R → Prop} {k0 r kc kg : Nat} {G R : Int → Int} (m1 : (71, 0) ∈ mods) (m2 : (70, 0) ∈ mods) (t0 : sv_ty k0 = some 12) (tr : sv_ty r = some 69) (tc : sv_ty kc = some 71) (tg : sv_ty kg = some 68)
    (g : ∀ (h : ae_H), sv_Tk sv_ty sv_tt mods h0 h → (∀ i, 0 ≤ i → i < 96 → wk_R h kg i = G i) → (∀ i, 0 ≤ i → i < 217 → wk_R h r i = R i) → (∀ l, 0 ≤ l → l < 217 → wk_R h kc l = wk_cnt G R l 96) → Q (none, h)) :
    ∀ (d : Nat) (lv : ae_L) (h : ae_H) (n : Int), sv_Tk sv_ty sv_tt mods h0 h → (ae_lk lv 0 = some (wk_r k0)) → (ae_lk lv 1 = some (wk_r r)) → (ae_lk lv 2 = some (wk_i 1)) → (ae_lk lv 3 = some (wk_i n)) → (∀ i, 0 ≤ i → i < 96 → wk_R h kg i = G i) → (∀ i, 0 ≤ i → i < 217 → wk_R h r i = R i) → (∀ l, 0 ≤ l → l < 217 → wk_R h kc l = wk_cnt G R l n.toNat) → (0 ≤ n ∧ n ≤ 96) → (96 - n ≤ d) → sv_G Q 213 24 lv [] h := by
  have n1 : kg ≠ kc := wk_ne tg tc (by decide)
  have n2 : r ≠ kc := wk_ne tr tc (by decide)
  intro d
  induction d with
  | zero =>
    intro lv h n T l0 l1 l2 l3 GA RA CA hn hd
    refine wk_iload_n wm_213 wd_213_24 l3 ?_
    refine wk_bipush wm_213 wd_213_25 (by decide) ?_
    refine wk_icmp 97 wm_213 wd_213_27 (by decide) (by unfold sv_I; omega) (by unfold sv_I; omega) (fun c1 => ?_) (fun c1 => ?_)
    · have c1 : (n : Int) ≥ 96 := c1
      refine wk_return wm_213 wd_213_97 rfl ?_
      exact g h T GA RA (fun l a b => by have := CA l a b; rw [show n.toNat = 96 by omega] at this; exact this)
    · have c1 : ¬ ((n : Int) ≥ 96) := c1
      exfalso; omega
  | succ d ih =>
    intro lv h n T l0 l1 l2 l3 GA RA CA hn hd
    refine wk_iload_n wm_213 wd_213_24 l3 ?_
    refine wk_bipush wm_213 wd_213_25 (by decide) ?_
    refine wk_icmp 97 wm_213 wd_213_27 (by decide) (by unfold sv_I; omega) (by unfold sv_I; omega) (fun c2 => ?_) (fun c2 => ?_)
    · have c2 : (n : Int) ≥ 96 := c2
      refine wk_return wm_213 wd_213_97 rfl ?_
      exact g h T GA RA (fun l a b => by have := CA l a b; rw [show n.toNat = 96 by omega] at this; exact this)
    · have c2 : ¬ ((n : Int) ≥ 96) := c2
      obtain ⟨k3, f4, y5⟩ := wk_ref (j := 24) T.1 t0 tT_12 rfl
      rw [tU_68 y5 tg] at f4
      obtain ⟨k6, f7, y8⟩ := wk_ref (j := 28) T.1 t0 tT_12 rfl
      rw [tU_71 y8 tc] at f7
      obtain ⟨k9, f10, y11⟩ := wk_ref (j := 27) T.1 t0 tT_12 rfl
      refine wk_aload_n wm_213 wd_213_30 l0 ?_
      refine wk_getf wm_213 wd_213_31 (by decide +kernel) T.1 t0 tT_12 f4 ?_
      refine wk_iload_n wm_213 wd_213_34 l3 ?_
      refine wk_iald wm_213 wd_213_35 sv_ty_lt T.1 tg tT_68 (by decide) ⟨by omega, by omega⟩ (fun q12 q13 => ?_)
      refine wk_if 91 wm_213 wd_213_36 (by decide) (by unfold sv_I; omega) (fun c14 => ?_) (fun c14 => ?_)
      · have c14 : ((wk_R h kg n) : Int) < 0 := c14
        refine wk_iinc wm_213 wd_213_91 (by decide +kernel) (by decide) l3 (fun lv15 s16 => ?_)
        have l17 := s16.2 0 _ l0 (by decide) (Or.inl rfl)
        have l18 := s16.2 1 _ l1 (by decide) (Or.inl rfl)
        have l19 := s16.2 2 _ l2 (by decide) (Or.inl rfl)
        have l20 := s16.1
        refine wk_goto 24 wm_213 wd_213_94 (by decide) ?_
        have eg := GA n (by omega) (by omega)
        exact ih lv15 h (n + 1) T l17 l18 l19 l20 GA RA (wg_no (by omega) (by omega) CA) (by omega) (by omega)
      · have c14 : ¬ (((wk_R h kg n) : Int) < 0) := c14
        refine wk_iload_n wm_213 wd_213_39 l2 ?_
        refine wk_if 57 wm_213 wd_213_40 (by decide) (by unfold sv_I; omega) (fun c21 => ?_) (fun c21 => ?_)
        · have c21 : (1 : Int) ≠ 0 := c21
          have eg := GA n (by omega) (by omega)
          refine wk_aload_n wm_213 wd_213_57 l1 ?_
          refine wk_iload_n wm_213 wd_213_58 l3 ?_
          refine wk_iald wm_213 wd_213_59 sv_ty_lt T.1 tr tT_69 (by decide) ⟨by omega, by omega⟩ (fun q22 q23 => ?_)
          refine wk_istore wm_213 wd_213_60 (by decide +kernel) (fun lv24 s25 => ?_)
          have l26 := s25.2 0 _ l0 (by decide) (Or.inl rfl)
          have l27 := s25.2 1 _ l1 (by decide) (Or.inl rfl)
          have l28 := s25.2 2 _ l2 (by decide) (Or.inl rfl)
          have l29 := s25.2 3 _ l3 (by decide) (Or.inl rfl)
          have l30 := s25.1
          refine wk_aload_n wm_213 wd_213_62 l26 ?_
          refine wk_getf wm_213 wd_213_63 (by decide +kernel) T.1 t0 tT_12 f7 ?_
          have er := RA n (by omega) (by omega)
          have ec := CA (wk_R h r n) (by omega) (by omega)
          have el := wk_cnt_le G R (wk_R h r n) n.toNat
          refine wk_iload wm_213 wd_213_66 l30 ?_
          refine wk_iald wm_213 wd_213_68 sv_ty_lt T.1 tc tT_71 (by decide) ⟨by omega, by omega⟩ (fun q31 q32 => ?_)
          refine wk_if 80 wm_213 wd_213_69 (by decide) (by unfold sv_I; omega) (fun c33 => ?_) (fun c33 => ?_)
          · have c33 : ((wk_R h kc (wk_R h r n)) : Int) ≠ 0 := c33
            refine wk_aload_n wm_213 wd_213_80 l26 ?_
            refine wk_getf wm_213 wd_213_81 (by decide +kernel) T.1 t0 tT_12 f7 ?_
            refine wk_iload wm_213 wd_213_84 l30 ?_
            refine wk_dup2 wm_213 wd_213_86 rfl rfl ?_
            refine wk_iald wm_213 wd_213_87 sv_ty_lt T.1 tc tT_71 (by decide) ⟨by omega, by omega⟩ (fun q34 q35 => ?_)
            refine wk_iconst wm_213 wd_213_88 (by decide) ?_
            refine wk_iadd wm_213 wd_213_89 ?_
            refine wk_iast wm_213 wd_213_90 sv_ty_lt T m1 tc tT_71 (by decide) ⟨by omega, by omega⟩ ⟨by omega, by omega⟩ (by unfold sv_I; omega) (Or.inl rfl) (fun h36 T37 u38 g39 => ?_)
            have f40 := (u38.2 _ _).trans f4
            have f41 := (u38.2 _ _).trans f7
            have f42 := (u38.2 _ _).trans f10
            refine wk_iinc wm_213 wd_213_91 (by decide +kernel) (by decide) l29 (fun lv43 s44 => ?_)
            have l45 := s44.2 0 _ l26 (by decide) (Or.inl rfl)
            have l46 := s44.2 1 _ l27 (by decide) (Or.inl rfl)
            have l47 := s44.2 2 _ l28 (by decide) (Or.inl rfl)
            have l48 := s44.2 4 _ l30 (by decide) (Or.inl rfl)
            have l49 := s44.1
            refine wk_goto 24 wm_213 wd_213_94 (by decide) ?_
            rw [er] at u38
            exact ih lv43 h36 (n + 1) T37 l45 l46 l47 l49 (fun i a b => (wk_up_o u38 n1 a).trans (GA i a b)) (fun i a b => (wk_up_o u38 n2 a).trans (RA i a b)) (wg_yes (by omega) (by omega) (by omega) CA u38) (by omega) (by omega)
          · have c33 : ¬ (((wk_R h kc (wk_R h r n)) : Int) ≠ 0) := c33
            refine wk_aload_n wm_213 wd_213_72 l26 ?_
            refine wk_getf wm_213 wd_213_73 (by decide +kernel) T.1 t0 tT_12 f10 ?_
            refine wk_iload wm_213 wd_213_76 l30 ?_
            refine wk_iload_n wm_213 wd_213_78 l29 ?_
            refine wk_iast wm_213 wd_213_79 sv_ty_lt T m2 y11 tT_70 (by decide) ⟨by omega, by omega⟩ ⟨by omega, by omega⟩ (by unfold sv_I; omega) (Or.inl rfl) (fun h50 T51 u52 g53 => ?_)
            have f54 := (u52.2 _ _).trans f4
            have f55 := (u52.2 _ _).trans f7
            have f56 := (u52.2 _ _).trans f10
            have n3 := wk_ne tg y11 (by decide)
            have n4 := wk_ne tr y11 (by decide)
            have n5 := wk_ne tc y11 (by decide)
            have GA1 : ∀ i, 0 ≤ i → i < 96 → wk_R h50 kg i = G i := fun i a b => (wk_up_o u52 n3 a).trans (GA i a b)
            have RA1 : ∀ i, 0 ≤ i → i < 217 → wk_R h50 r i = R i := fun i a b => (wk_up_o u52 n4 a).trans (RA i a b)
            have CA1 : ∀ l, 0 ≤ l → l < 217 → wk_R h50 kc l = wk_cnt G R l n.toNat := fun i a b => (wk_up_o u52 n5 a).trans (CA i a b)
            have ec1 := CA1 (wk_R h r n) (by omega) (by omega)
            refine wk_aload_n wm_213 wd_213_80 l26 ?_
            refine wk_getf wm_213 wd_213_81 (by decide +kernel) T51.1 t0 tT_12 f55 ?_
            refine wk_iload wm_213 wd_213_84 l30 ?_
            refine wk_dup2 wm_213 wd_213_86 rfl rfl ?_
            refine wk_iald wm_213 wd_213_87 sv_ty_lt T51.1 tc tT_71 (by decide) ⟨by omega, by omega⟩ (fun q57 q58 => ?_)
            refine wk_iconst wm_213 wd_213_88 (by decide) ?_
            refine wk_iadd wm_213 wd_213_89 ?_
            refine wk_iast wm_213 wd_213_90 sv_ty_lt T51 m1 tc tT_71 (by decide) ⟨by omega, by omega⟩ ⟨by omega, by omega⟩ (by unfold sv_I; omega) (Or.inl rfl) (fun h59 T60 u61 g62 => ?_)
            have f63 := (u61.2 _ _).trans f54
            have f64 := (u61.2 _ _).trans f55
            have f65 := (u61.2 _ _).trans f56
            refine wk_iinc wm_213 wd_213_91 (by decide +kernel) (by decide) l29 (fun lv66 s67 => ?_)
            have l68 := s67.2 0 _ l26 (by decide) (Or.inl rfl)
            have l69 := s67.2 1 _ l27 (by decide) (Or.inl rfl)
            have l70 := s67.2 2 _ l28 (by decide) (Or.inl rfl)
            have l71 := s67.2 4 _ l30 (by decide) (Or.inl rfl)
            have l72 := s67.1
            refine wk_goto 24 wm_213 wd_213_94 (by decide) ?_
            rw [er] at u61
            exact ih lv66 h59 (n + 1) T60 l68 l69 l70 l72 (fun i a b => (wk_up_o u61 n1 a).trans (GA1 i a b)) (fun i a b => (wk_up_o u61 n2 a).trans (RA1 i a b)) (wg_yes (by omega) (by omega) (by omega) CA1 u61) (by omega) (by omega)
        · have c21 : ¬ ((1 : Int) ≠ 0) := c21
          exfalso; omega
theorem wg_2 {mods : List (Nat × Nat)} {h0 : ae_H} {Q : ae_R → Prop} {k0 r kc kg : Nat} {G R : Int → Int} (m1 : (71, 0) ∈ mods) (m2 : (70, 0) ∈ mods) (t0 : sv_ty k0 = some 12) (tr : sv_ty r = some 69) (tc : sv_ty kc = some 71) (tg : sv_ty kg = some 68)
    (g : ∀ (h : ae_H), sv_Tk sv_ty sv_tt mods h0 h → (∀ i, 0 ≤ i → i < 96 → wk_R h kg i = G i) → (∀ i, 0 ≤ i → i < 217 → wk_R h r i = R i) → (∀ l, 0 ≤ l → l < 217 → wk_R h kc l = wk_cnt G R l 96) → Q (none, h)) :
    ∀ (d : Nat) (lv : ae_L) (h : ae_H) (n : Int), sv_Tk sv_ty sv_tt mods h0 h → (ae_lk lv 0 = some (wk_r k0)) → (ae_lk lv 1 = some (wk_r r)) → (ae_lk lv 2 = some (wk_i 1)) → (ae_lk lv 3 = some (wk_i n)) → (∀ i, 0 ≤ i → i < 96 → wk_R h kg i = G i) → (∀ i, 0 ≤ i → i < 217 → wk_R h r i = R i) → (∀ l, 0 ≤ l → l < n → wk_R h kc l = 0) → (0 ≤ n ∧ n ≤ 217) → (217 - n ≤ d) → sv_G Q 213 2 lv [] h := by
  have n1 : kg ≠ kc := wk_ne tg tc (by decide)
  have n2 : r ≠ kc := wk_ne tr tc (by decide)
  intro d
  induction d with
  | zero =>
    intro lv h n T l0 l1 l2 l3 GA RA CA hn hd
    refine wk_iload_n wm_213 wd_213_2 l3 ?_
    refine wk_sipush wm_213 wd_213_3 (by decide) ?_
    refine wk_icmp 22 wm_213 wd_213_6 (by decide) (by unfold sv_I; omega) (by unfold sv_I; omega) (fun c73 => ?_) (fun c73 => ?_)
    · have c73 : (n : Int) ≥ 217 := c73
      refine wk_iconst wm_213 wd_213_22 (by decide) ?_
      refine wk_istore_n wm_213 wd_213_23 (by decide +kernel) (fun lv74 s75 => ?_)
      have l76 := s75.2 0 _ l0 (by decide) (Or.inl rfl)
      have l77 := s75.2 1 _ l1 (by decide) (Or.inl rfl)
      have l78 := s75.2 2 _ l2 (by decide) (Or.inl rfl)
      have l79 := s75.1
      exact wg_24 m1 m2 t0 tr tc tg g 96 lv74 h 0 T l76 l77 l78 l79 GA RA (fun l a b => CA l a (by omega)) (by omega) (by omega)
    · have c73 : ¬ ((n : Int) ≥ 217) := c73
      exfalso; omega
  | succ d ih =>
    intro lv h n T l0 l1 l2 l3 GA RA CA hn hd
    refine wk_iload_n wm_213 wd_213_2 l3 ?_
    refine wk_sipush wm_213 wd_213_3 (by decide) ?_
    refine wk_icmp 22 wm_213 wd_213_6 (by decide) (by unfold sv_I; omega) (by unfold sv_I; omega) (fun c80 => ?_) (fun c80 => ?_)
    · have c80 : (n : Int) ≥ 217 := c80
      refine wk_iconst wm_213 wd_213_22 (by decide) ?_
      refine wk_istore_n wm_213 wd_213_23 (by decide +kernel) (fun lv81 s82 => ?_)
      have l83 := s82.2 0 _ l0 (by decide) (Or.inl rfl)
      have l84 := s82.2 1 _ l1 (by decide) (Or.inl rfl)
      have l85 := s82.2 2 _ l2 (by decide) (Or.inl rfl)
      have l86 := s82.1
      exact wg_24 m1 m2 t0 tr tc tg g 96 lv81 h 0 T l83 l84 l85 l86 GA RA (fun l a b => CA l a (by omega)) (by omega) (by omega)
    · have c80 : ¬ ((n : Int) ≥ 217) := c80
      obtain ⟨k87, f88, y89⟩ := wk_ref (j := 28) T.1 t0 tT_12 rfl
      rw [tU_71 y89 tc] at f88
      refine wk_aload_n wm_213 wd_213_9 l0 ?_
      refine wk_getf wm_213 wd_213_10 (by decide +kernel) T.1 t0 tT_12 f88 ?_
      refine wk_iload_n wm_213 wd_213_13 l3 ?_
      refine wk_iconst wm_213 wd_213_14 (by decide) ?_
      refine wk_iast wm_213 wd_213_15 sv_ty_lt T m1 tc tT_71 (by decide) ⟨by omega, by omega⟩ ⟨by omega, by omega⟩ (by unfold sv_I; omega) (Or.inl rfl) (fun h90 T91 u92 g93 => ?_)
      have f94 := (u92.2 _ _).trans f88
      refine wk_iinc wm_213 wd_213_16 (by decide +kernel) (by decide) l3 (fun lv95 s96 => ?_)
      have l97 := s96.2 0 _ l0 (by decide) (Or.inl rfl)
      have l98 := s96.2 1 _ l1 (by decide) (Or.inl rfl)
      have l99 := s96.2 2 _ l2 (by decide) (Or.inl rfl)
      have l100 := s96.1
      refine wk_goto 2 wm_213 wd_213_19 (by decide) ?_
      exact ih lv95 h90 (n + 1) T91 l97 l98 l99 l100 (fun i a b => (wk_up_o u92 n1 a).trans (GA i a b)) (fun i a b => (wk_up_o u92 n2 a).trans (RA i a b)) (fun l a b => by
        by_cases e : l = n
        · rw [e]; exact wk_up_s u92 (by omega)
        · rw [wk_up_i u92 a e]; exact CA l a (by omega)) (by omega) (by omega)
theorem wg_gather {mods : List (Nat × Nat)} {h0 h : ae_H} {Q : ae_R → Prop} {lv : ae_L} {k0 r kc kg : Nat} (m1 : (71, 0) ∈ mods) (m2 : (70, 0) ∈ mods) (t0 : sv_ty k0 = some 12) (tr : sv_ty r = some 69) (tc : sv_ty kc = some 71) (tg : sv_ty kg = some 68) (T : sv_Tk sv_ty sv_tt mods h0 h) (l0 : ae_lk lv 0 = some (wk_r k0)) (l1 : ae_lk lv 1 = some (wk_r r)) (l2 : ae_lk lv 2 = some (wk_i 1))
    (g : ∀ (h2 : ae_H), sv_Tk sv_ty sv_tt mods h0 h2 → (∀ i, 0 ≤ i → i < 96 → wk_R h2 kg i = wk_R h kg i) → (∀ i, 0 ≤ i → i < 217 → wk_R h2 r i = wk_R h r i) → (∀ l, 0 ≤ l → l < 217 → wk_R h2 kc l = wk_cnt (wk_R h kg) (wk_R h r) l 96) → Q (none, h2)) : sv_G Q 213 0 lv [] h := by
  refine wk_iconst wm_213 wd_213_0 (by decide) ?_
  refine wk_istore_n wm_213 wd_213_1 (by decide +kernel) (fun lv101 s102 => ?_)
  have l103 := s102.2 0 _ l0 (by decide) (Or.inl rfl)
  have l104 := s102.2 1 _ l1 (by decide) (Or.inl rfl)
  have l105 := s102.2 2 _ l2 (by decide) (Or.inl rfl)
  have l106 := s102.1
  exact wg_2 (G := wk_R h kg) (R := wk_R h r) m1 m2 t0 tr tc tg g 217 lv101 h 0 T l103 l104 l105 l106 (fun _ _ _ => rfl) (fun _ _ _ => rfl) (fun l a b => by omega) (by omega) (by omega)
theorem wj_11 {mods : List (Nat × Nat)} {h0 : ae_H} {Q : ae_R → Prop} {k0 kg r : Nat} {a e : Int} (m3 : (79, 0) ∈ mods) (t0 : sv_ty k0 = some 12) (tg : sv_ty kg = some 68) (tr : sv_ty r = some 69) (ha : 0 ≤ a ∧ a < 96) (he : a < e ∧ e < 96) (g : ∀ h h2, sv_Tk sv_ty sv_tt mods h0 h2 → sv_fr sv_ty [(79, 0)] h h2 → Q (some (wk_i 2), h2)) :
    ∀ (d : Nat) (lv : ae_L) (h : ae_H) (o : Int), sv_Tk sv_ty sv_tt mods h0 h → (ae_lk lv 0 = some (wk_r k0)) → (ae_lk lv 1 = some (wk_i a)) → (ae_lk lv 2 = some (wk_i o)) → (wk_F h k0 24 = some (wk_r kg)) → (wk_F h k0 26 = some (wk_r r)) → (0 ≤ wk_R h kg e) → (wk_R h r e = wk_R h r a) → (a < o ∧ o ≤ e) → (e - o ≤ d) → sv_G Q 220 11 lv [] h := by
  intro d
  induction d with
  | zero =>
    intro lv h o T l0 l1 l2 F1 F2 E1 E2 ho hd
    have eo : o = e := by omega
    subst eo
    refine wk_aload_n wm_220 wd_220_11 l0 ?_
    refine wk_getf wm_220 wd_220_12 (by decide +kernel) T.1 t0 tT_12 F1 ?_
    refine wk_iload_n wm_220 wd_220_15 l2 ?_
    refine wk_iald wm_220 wd_220_16 sv_ty_lt T.1 tg tT_68 (by decide) ⟨by omega, by omega⟩ (fun q107 q108 => ?_)
    refine wk_if 35 wm_220 wd_220_17 (by decide) (by unfold sv_I; omega) (fun c109 => ?_) (fun c109 => ?_)
    · have c109 : ((wk_R h kg o) : Int) < 0 := c109
      exfalso; omega
    · have c109 : ¬ (((wk_R h kg o) : Int) < 0) := c109
      refine wk_aload_n wm_220 wd_220_20 l0 ?_
      refine wk_getf wm_220 wd_220_21 (by decide +kernel) T.1 t0 tT_12 F2 ?_
      refine wk_iload_n wm_220 wd_220_24 l2 ?_
      refine wk_iald wm_220 wd_220_25 sv_ty_lt T.1 tr tT_69 (by decide) ⟨by omega, by omega⟩ (fun q110 q111 => ?_)
      refine wk_aload_n wm_220 wd_220_26 l0 ?_
      refine wk_getf wm_220 wd_220_27 (by decide +kernel) T.1 t0 tT_12 F2 ?_
      refine wk_iload_n wm_220 wd_220_30 l1 ?_
      refine wk_iald wm_220 wd_220_31 sv_ty_lt T.1 tr tT_69 (by decide) ⟨by omega, by omega⟩ (fun q112 q113 => ?_)
      refine wk_icmp 41 wm_220 wd_220_32 (by decide) (by unfold sv_I; omega) (by unfold sv_I; omega) (fun c114 => ?_) (fun c114 => ?_)
      · have c114 : ((wk_R h r o) : Int) = (wk_R h r a) := c114
        obtain ⟨k115, f116, y117⟩ := wk_ref (j := 40) T.1 t0 tT_12 rfl
        refine wk_aload_n wm_220 wd_220_41 l0 ?_
        refine wk_getf wm_220 wd_220_42 (by decide +kernel) T.1 t0 tT_12 f116 ?_
        refine wk_iconst wm_220 wd_220_45 (by decide) ?_
        refine wk_iload_n wm_220 wd_220_46 l2 ?_
        refine wk_iast wm_220 wd_220_47 sv_ty_lt T m3 y117 tT_79 (by decide) ⟨by omega, by omega⟩ ⟨by omega, by omega⟩ (by unfold sv_I; omega) (Or.inl rfl) (fun h118 T119 u120 g121 => ?_)
        have f122 := (u120.2 _ _).trans F1
        have f123 := (u120.2 _ _).trans F2
        have f124 := (u120.2 _ _).trans f116
        refine wk_iconst wm_220 wd_220_48 (by decide) ?_
        refine wk_ireturn wm_220 wd_220_49 rfl ?_
        exact g _ _ T119 g121
      · have c114 : ¬ (((wk_R h r o) : Int) = (wk_R h r a)) := c114
        exfalso; omega
  | succ d ih =>
    intro lv h o T l0 l1 l2 F1 F2 E1 E2 ho hd
    refine wk_aload_n wm_220 wd_220_11 l0 ?_
    refine wk_getf wm_220 wd_220_12 (by decide +kernel) T.1 t0 tT_12 F1 ?_
    refine wk_iload_n wm_220 wd_220_15 l2 ?_
    refine wk_iald wm_220 wd_220_16 sv_ty_lt T.1 tg tT_68 (by decide) ⟨by omega, by omega⟩ (fun q125 q126 => ?_)
    refine wk_if 35 wm_220 wd_220_17 (by decide) (by unfold sv_I; omega) (fun c127 => ?_) (fun c127 => ?_)
    · have c127 : ((wk_R h kg o) : Int) < 0 := c127
      have : o ≠ e := fun z => by rw [z] at c127; omega
      refine wk_iinc wm_220 wd_220_35 (by decide +kernel) (by decide) l2 (fun lv128 s129 => ?_)
      have l130 := s129.2 0 _ l0 (by decide) (Or.inl rfl)
      have l131 := s129.2 1 _ l1 (by decide) (Or.inl rfl)
      have l132 := s129.1
      refine wk_goto 11 wm_220 wd_220_38 (by decide) ?_
      exact ih lv128 h (o + 1) T l130 l131 l132 F1 F2  E1 E2 (by omega) (by omega)
    · have c127 : ¬ (((wk_R h kg o) : Int) < 0) := c127
      refine wk_aload_n wm_220 wd_220_20 l0 ?_
      refine wk_getf wm_220 wd_220_21 (by decide +kernel) T.1 t0 tT_12 F2 ?_
      refine wk_iload_n wm_220 wd_220_24 l2 ?_
      refine wk_iald wm_220 wd_220_25 sv_ty_lt T.1 tr tT_69 (by decide) ⟨by omega, by omega⟩ (fun q133 q134 => ?_)
      refine wk_aload_n wm_220 wd_220_26 l0 ?_
      refine wk_getf wm_220 wd_220_27 (by decide +kernel) T.1 t0 tT_12 F2 ?_
      refine wk_iload_n wm_220 wd_220_30 l1 ?_
      refine wk_iald wm_220 wd_220_31 sv_ty_lt T.1 tr tT_69 (by decide) ⟨by omega, by omega⟩ (fun q135 q136 => ?_)
      refine wk_icmp 41 wm_220 wd_220_32 (by decide) (by unfold sv_I; omega) (by unfold sv_I; omega) (fun c137 => ?_) (fun c137 => ?_)
      · have c137 : ((wk_R h r o) : Int) = (wk_R h r a) := c137
        obtain ⟨k138, f139, y140⟩ := wk_ref (j := 40) T.1 t0 tT_12 rfl
        refine wk_aload_n wm_220 wd_220_41 l0 ?_
        refine wk_getf wm_220 wd_220_42 (by decide +kernel) T.1 t0 tT_12 f139 ?_
        refine wk_iconst wm_220 wd_220_45 (by decide) ?_
        refine wk_iload_n wm_220 wd_220_46 l2 ?_
        refine wk_iast wm_220 wd_220_47 sv_ty_lt T m3 y140 tT_79 (by decide) ⟨by omega, by omega⟩ ⟨by omega, by omega⟩ (by unfold sv_I; omega) (Or.inl rfl) (fun h141 T142 u143 g144 => ?_)
        have f145 := (u143.2 _ _).trans F1
        have f146 := (u143.2 _ _).trans F2
        have f147 := (u143.2 _ _).trans f139
        refine wk_iconst wm_220 wd_220_48 (by decide) ?_
        refine wk_ireturn wm_220 wd_220_49 rfl ?_
        exact g _ _ T142 g144
      · have c137 : ¬ (((wk_R h r o) : Int) = (wk_R h r a)) := c137
        have : o ≠ e := fun z => by rw [z] at c137; omega
        refine wk_iinc wm_220 wd_220_35 (by decide +kernel) (by decide) l2 (fun lv148 s149 => ?_)
        have l150 := s149.2 0 _ l0 (by decide) (Or.inl rfl)
        have l151 := s149.2 1 _ l1 (by decide) (Or.inl rfl)
        have l152 := s149.1
        refine wk_goto 11 wm_220 wd_220_38 (by decide) ?_
        exact ih lv148 h (o + 1) T l150 l151 l152 F1 F2  E1 E2 (by omega) (by omega)
