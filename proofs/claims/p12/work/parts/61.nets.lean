/-! THE REFERENCE'S NETS: joins, nets (walks printed by wip/p2/hand/g61.py) -/
def wk_sum (f : Nat → Nat) : Nat → Nat
  | 0 => 0
  | n + 1 => wk_sum f n + f n
theorem wk_sum_le {f g : Nat → Nat} : ∀ {n : Nat}, (∀ i, i < n → g i ≤ f i) → wk_sum g n ≤ wk_sum f n
  | 0, _ => Nat.le_refl 0
  | n + 1, hl => by
    have := wk_sum_le (f := f) (g := g) (n := n) (fun i hi => hl i (by omega))
    have := hl n (by omega)
    show wk_sum g n + g n ≤ wk_sum f n + f n
    omega
theorem wk_sum_lt {f g : Nat → Nat} : ∀ {n : Nat} {j : Nat}, (∀ i, i < n → g i ≤ f i) → j < n → g j < f j → wk_sum g n < wk_sum f n
  | 0, j, _, hj, _ => by omega
  | n + 1, j, hl, hj, hlt => by
    have h1 := wk_sum_le (f := f) (g := g) (n := n) (fun i hi => hl i (by omega))
    have h2 := hl n (by omega)
    show wk_sum g n + g n < wk_sum f n + f n
    by_cases e : j = n
    · subst e; omega
    · have := wk_sum_lt (f := f) (g := g) (n := n) (j := j) (fun i hi => hl i (by omega)) (by omega) hlt
      omega
/-- the sum of a row of nets -/
noncomputable def wk_S (h : ae_H) (r : Nat) : Nat := wk_sum (fun i => (wk_R h r (i : Int)).toNat) 217
theorem wk_S_lt {h h1 h2 : ae_H} {r : Nat} {a b v : Int} (ha : 0 ≤ a ∧ a < 217) (hb : 0 ≤ b ∧ b < 217) (hv : 0 ≤ v) (va : v ≤ wk_R h r a) (vb : v ≤ wk_R h r b) (hne : wk_R h r a ≠ wk_R h r b) (u1 : wk_up h h1 r a v) (u2 : wk_up h1 h2 r b v) : wk_S h2 r < wk_S h r := by
  have e : ∀ i : Nat, wk_R h2 r (i : Int) = if (i : Int) = b then v else if (i : Int) = a then v else wk_R h r (i : Int) := fun i => by
    rw [u2.1 r i (by omega), u1.1 r i (by omega)]
    by_cases e1 : (i : Int) = b
    · rw [if_pos ⟨rfl, e1⟩, if_pos e1]
    · rw [if_neg (fun z => e1 z.2), if_neg e1]
      by_cases e2 : (i : Int) = a
      · rw [if_pos ⟨rfl, e2⟩, if_pos e2]
      · rw [if_neg (fun z => e2 z.2), if_neg e2]
  have le : ∀ i : Nat, wk_R h2 r (i : Int) ≤ wk_R h r (i : Int) := fun i => by
    rw [e i]
    split
    · next z => rw [z]; exact vb
    · split
      · next z => rw [z]; exact va
      · exact Int.le_refl _
  unfold wk_S
  by_cases hc : v < wk_R h r a
  · refine wk_sum_lt (j := a.toNat) (fun i _ => by have := le i; show (wk_R h2 r (i : Int)).toNat ≤ (wk_R h r (i : Int)).toNat; omega) (by omega) ?_
    show (wk_R h2 r ((a.toNat : Nat) : Int)).toNat < (wk_R h r ((a.toNat : Nat) : Int)).toNat
    rw [e, Int.toNat_of_nonneg ha.1]
    have : (if a = b then v else if a = a then v else wk_R h r a) = v := by split; rfl; rw [if_pos rfl]
    rw [this]; omega
  · refine wk_sum_lt (j := b.toNat) (fun i _ => by have := le i; show (wk_R h2 r (i : Int)).toNat ≤ (wk_R h r (i : Int)).toNat; omega) (by omega) ?_
    show (wk_R h2 r ((b.toNat : Nat) : Int)).toNat < (wk_R h r ((b.toNat : Nat) : Int)).toNat
    rw [e, Int.toNat_of_nonneg hb.1, if_pos rfl]; omega

theorem wn_joins {mods : List (Nat × Nat)} {h0 h : ae_H} {Q : ae_R → Prop} {lv : ae_L} {r : Nat} {a b : Int} (T : sv_Tk sv_ty sv_tt mods h0 h) (hm : (69, 0) ∈ mods) (tr : sv_ty r = some 69) (ha : 0 ≤ a ∧ a < 217) (hb : 0 ≤ b ∧ b < 217) (l0 : ae_lk lv 0 = some (wk_r r)) (l1 : ae_lk lv 1 = some (wk_i a)) (l2 : ae_lk lv 2 = some (wk_i b))
    (g1 : Q (some (wk_i 0), h)) (g2 : ∀ h2, sv_Tk sv_ty sv_tt mods h0 h2 → wk_S h2 r < wk_S h r → Q (some (wk_i 1), h2)) : sv_G Q 212 0 lv [] h := by
  refine wk_aload_n wm_212 wd_212_0 l0 ?_
  refine wk_iload_n wm_212 wd_212_1 l1 ?_
  refine wk_iald wm_212 wd_212_2 sv_ty_lt T.1 tr tT_69 (by decide) ⟨by omega, by omega⟩ (fun q1 q2 => ?_)
  refine wk_aload_n wm_212 wd_212_3 l0 ?_
  refine wk_iload_n wm_212 wd_212_4 l2 ?_
  refine wk_iald wm_212 wd_212_5 sv_ty_lt T.1 tr tT_69 (by decide) ⟨by omega, by omega⟩ (fun q3 q4 => ?_)
  refine wk_icmp 11 wm_212 wd_212_6 (by decide) (by unfold sv_I; omega) (by unfold sv_I; omega) (fun c5 => ?_) (fun c5 => ?_)
  · have c5 : ((wk_R h r a) : Int) ≠ (wk_R h r b) := c5
    refine wk_aload_n wm_212 wd_212_11 l0 ?_
    refine wk_iload_n wm_212 wd_212_12 l1 ?_
    refine wk_iald wm_212 wd_212_13 sv_ty_lt T.1 tr tT_69 (by decide) ⟨by omega, by omega⟩ (fun q6 q7 => ?_)
    refine wk_aload_n wm_212 wd_212_14 l0 ?_
    refine wk_iload_n wm_212 wd_212_15 l2 ?_
    refine wk_iald wm_212 wd_212_16 sv_ty_lt T.1 tr tT_69 (by decide) ⟨by omega, by omega⟩ (fun q8 q9 => ?_)
    refine wk_icmp 26 wm_212 wd_212_17 (by decide) (by unfold sv_I; omega) (by unfold sv_I; omega) (fun c10 => ?_) (fun c10 => ?_)
    · have c10 : ((wk_R h r a) : Int) ≥ (wk_R h r b) := c10
      refine wk_aload_n wm_212 wd_212_26 l0 ?_
      refine wk_iload_n wm_212 wd_212_27 l2 ?_
      refine wk_iald wm_212 wd_212_28 sv_ty_lt T.1 tr tT_69 (by decide) ⟨by omega, by omega⟩ (fun q11 q12 => ?_)
      refine wk_istore_n wm_212 wd_212_29 (by decide +kernel) (fun lv13 s14 => ?_)
      have l15 := s14.2 0 _ l0 (by decide) (Or.inl rfl)
      have l16 := s14.2 1 _ l1 (by decide) (Or.inl rfl)
      have l17 := s14.2 2 _ l2 (by decide) (Or.inl rfl)
      have l18 := s14.1
      refine wk_aload_n wm_212 wd_212_30 l15 ?_
      refine wk_iload_n wm_212 wd_212_31 l16 ?_
      refine wk_iload_n wm_212 wd_212_32 l18 ?_
      refine wk_iast wm_212 wd_212_33 sv_ty_lt T hm tr tT_69 (by decide) ⟨by omega, by omega⟩ ⟨by omega, by omega⟩ (by unfold sv_I; omega) (Or.inl rfl) (fun h19 T20 u21 g22 => ?_)
      refine wk_aload_n wm_212 wd_212_34 l15 ?_
      refine wk_iload_n wm_212 wd_212_35 l17 ?_
      refine wk_iload_n wm_212 wd_212_36 l18 ?_
      refine wk_iast wm_212 wd_212_37 sv_ty_lt T20 hm tr tT_69 (by decide) ⟨by omega, by omega⟩ ⟨by omega, by omega⟩ (by unfold sv_I; omega) (Or.inl rfl) (fun h23 T24 u25 g26 => ?_)
      refine wk_iconst wm_212 wd_212_38 (by decide) ?_
      refine wk_zreturn wm_212 wd_212_39 rfl (by omega) ?_
      exact g2 _ T24 (wk_S_lt ha hb (v := (wk_R h r b)) (by omega) (by omega) (by omega) c5 u21 u25)
    · have c10 : ¬ (((wk_R h r a) : Int) ≥ (wk_R h r b)) := c10
      refine wk_aload_n wm_212 wd_212_20 l0 ?_
      refine wk_iload_n wm_212 wd_212_21 l1 ?_
      refine wk_iald wm_212 wd_212_22 sv_ty_lt T.1 tr tT_69 (by decide) ⟨by omega, by omega⟩ (fun q27 q28 => ?_)
      refine wk_goto 29 wm_212 wd_212_23 (by decide) ?_
      refine wk_istore_n wm_212 wd_212_29 (by decide +kernel) (fun lv29 s30 => ?_)
      have l31 := s30.2 0 _ l0 (by decide) (Or.inl rfl)
      have l32 := s30.2 1 _ l1 (by decide) (Or.inl rfl)
      have l33 := s30.2 2 _ l2 (by decide) (Or.inl rfl)
      have l34 := s30.1
      refine wk_aload_n wm_212 wd_212_30 l31 ?_
      refine wk_iload_n wm_212 wd_212_31 l32 ?_
      refine wk_iload_n wm_212 wd_212_32 l34 ?_
      refine wk_iast wm_212 wd_212_33 sv_ty_lt T hm tr tT_69 (by decide) ⟨by omega, by omega⟩ ⟨by omega, by omega⟩ (by unfold sv_I; omega) (Or.inl rfl) (fun h35 T36 u37 g38 => ?_)
      refine wk_aload_n wm_212 wd_212_34 l31 ?_
      refine wk_iload_n wm_212 wd_212_35 l33 ?_
      refine wk_iload_n wm_212 wd_212_36 l34 ?_
      refine wk_iast wm_212 wd_212_37 sv_ty_lt T36 hm tr tT_69 (by decide) ⟨by omega, by omega⟩ ⟨by omega, by omega⟩ (by unfold sv_I; omega) (Or.inl rfl) (fun h39 T40 u41 g42 => ?_)
      refine wk_iconst wm_212 wd_212_38 (by decide) ?_
      refine wk_zreturn wm_212 wd_212_39 rfl (by omega) ?_
      exact g2 _ T40 (wk_S_lt ha hb (v := (wk_R h r a)) (by omega) (by omega) (by omega) c5 u37 u41)
  · have c5 : ¬ (((wk_R h r a) : Int) ≠ (wk_R h r b)) := c5
    refine wk_iconst wm_212 wd_212_9 (by decide) ?_
    refine wk_zreturn wm_212 wd_212_10 rfl (by omega) ?_
    exact g1
theorem wn_82 {mods : List (Nat × Nat)} {h0 : ae_H} {Q : ae_R → Prop} {k0 r : Nat} {so : Int} (hm : (69, 0) ∈ mods) (t0 : sv_ty k0 = some 12) (tr : sv_ty r = some 69) (hso : so = 0 ∨ so = 1) {n : Nat}
    (g : ∀ (lv : ae_L) (h : ae_H) (m : Int), sv_Tk sv_ty sv_tt mods h0 h → (ae_lk lv 0 = some (wk_r k0)) → (ae_lk lv 1 = some (wk_r r)) → (ae_lk lv 2 = some (wk_i so)) → (ae_lk lv 3 = some (wk_i m)) → (m = 0 ∨ m = 1) → (wk_S h r ≤ n ∧ (m = 1 → wk_S h r < n)) → sv_G Q 211 141 lv [] h) :
    ∀ (d : Nat) (lv : ae_L) (h : ae_H) (m k : Int), sv_Tk sv_ty sv_tt mods h0 h → (ae_lk lv 0 = some (wk_r k0)) → (ae_lk lv 1 = some (wk_r r)) → (ae_lk lv 2 = some (wk_i so)) → (ae_lk lv 3 = some (wk_i m)) → (ae_lk lv 4 = some (wk_i k)) → (m = 0 ∨ m = 1) → (wk_S h r ≤ n) → (m = 1 → wk_S h r < n) → (0 ≤ k ∧ k ≤ 12) → (12 - k ≤ d) → sv_G Q 211 82 lv [] h := by
  intro d
  induction d with
  | zero =>
    intro lv h m k T l0 l1 l2 l3 l4 hm1 s1 s2 hk hd
    refine wk_iload wm_211 wd_211_82 l4 ?_
    refine wk_bipush wm_211 wd_211_84 (by decide) ?_
    refine wk_icmp 141 wm_211 wd_211_86 (by decide) (by unfold sv_I; omega) (by unfold sv_I; omega) (fun c43 => ?_) (fun c43 => ?_)
    · have c43 : (k : Int) ≥ 12 := c43
      exact g lv h m T l0 l1 l2 l3 (by omega) (by omega)
    · have c43 : ¬ ((k : Int) ≥ 12) := c43
      exfalso; omega
  | succ d ih =>
    intro lv h m k T l0 l1 l2 l3 l4 hm1 s1 s2 hk hd
    refine wk_iload wm_211 wd_211_82 l4 ?_
    refine wk_bipush wm_211 wd_211_84 (by decide) ?_
    refine wk_icmp 141 wm_211 wd_211_86 (by decide) (by unfold sv_I; omega) (by unfold sv_I; omega) (fun c44 => ?_) (fun c44 => ?_)
    · have c44 : (k : Int) ≥ 12 := c44
      exact g lv h m T l0 l1 l2 l3 (by omega) (by omega)
    · have c44 : ¬ ((k : Int) ≥ 12) := c44
      obtain ⟨k45, f46, y47⟩ := wk_ref (j := 29) T.1 t0 tT_12 rfl
      refine wk_aload_n wm_211 wd_211_89 l1 ?_
      refine wk_sipush wm_211 wd_211_90 (by decide) ?_
      refine wk_iload wm_211 wd_211_93 l4 ?_
      refine wk_iadd wm_211 wd_211_95 ?_
      refine wk_iload_n wm_211 wd_211_96 l2 ?_
      refine wk_if 121 wm_211 wd_211_97 (by decide) (by unfold sv_I; omega) (fun c48 => ?_) (fun c48 => ?_)
      · have c48 : (so : Int) = 0 := c48
        refine wk_sipush wm_211 wd_211_121 (by decide) ?_
        refine wk_iload wm_211 wd_211_124 l4 ?_
        refine wk_iadd wm_211 wd_211_126 ?_
        refine wk_call (Or.inl ⟨rfl, rfl⟩) wm_211 wd_211_127 (by decide +kernel) wm_212 (by decide +kernel) rfl rfl rfl ?_
        refine wn_joins T hm tr ⟨by omega, by omega⟩ ⟨by omega, by omega⟩ rfl rfl rfl ?_ (fun hq Tq sq => ?_)
        · show sv_G Q 211 130 lv [wk_i 0] h
          refine wk_if 135 wm_211 wd_211_130 (by decide) (by unfold sv_I; omega) (fun c49 => ?_) (fun c49 => ?_)
          · have c49 : (0 : Int) = 0 := c49
            refine wk_iinc wm_211 wd_211_135 (by decide +kernel) (by decide) l4 (fun lv50 s51 => ?_)
            have l52 := s51.2 0 _ l0 (by decide) (Or.inl rfl)
            have l53 := s51.2 1 _ l1 (by decide) (Or.inl rfl)
            have l54 := s51.2 2 _ l2 (by decide) (Or.inl rfl)
            have l55 := s51.2 3 _ l3 (by decide) (Or.inl rfl)
            have l56 := s51.1
            refine wk_goto 82 wm_211 wd_211_138 (by decide) ?_
            exact ih lv50 h m ((k + 1)) T l52 l53 l54 l55 l56 (by omega) (by omega) (by omega) (by omega) (by omega)
          · have c49 : ¬ ((0 : Int) = 0) := c49
            exfalso; omega
        · show sv_G Q 211 130 lv [wk_i 1] hq
          refine wk_if 135 wm_211 wd_211_130 (by decide) (by unfold sv_I; omega) (fun c57 => ?_) (fun c57 => ?_)
          · have c57 : (1 : Int) = 0 := c57
            exfalso; omega
          · have c57 : ¬ ((1 : Int) = 0) := c57
            refine wk_iconst wm_211 wd_211_133 (by decide) ?_
            refine wk_istore_n wm_211 wd_211_134 (by decide +kernel) (fun lv58 s59 => ?_)
            have l60 := s59.2 0 _ l0 (by decide) (Or.inl rfl)
            have l61 := s59.2 1 _ l1 (by decide) (Or.inl rfl)
            have l62 := s59.2 2 _ l2 (by decide) (Or.inl rfl)
            have l63 := s59.2 4 _ l4 (by decide) (Or.inl rfl)
            have l64 := s59.1
            refine wk_iinc wm_211 wd_211_135 (by decide +kernel) (by decide) l63 (fun lv65 s66 => ?_)
            have l67 := s66.2 0 _ l60 (by decide) (Or.inl rfl)
            have l68 := s66.2 1 _ l61 (by decide) (Or.inl rfl)
            have l69 := s66.2 2 _ l62 (by decide) (Or.inl rfl)
            have l70 := s66.2 3 _ l64 (by decide) (Or.inl rfl)
            have l71 := s66.1
            refine wk_goto 82 wm_211 wd_211_138 (by decide) ?_
            exact ih lv65 hq 1 ((k + 1)) Tq l67 l68 l69 l70 l71 (by omega) (by omega) (by omega) (by omega) (by omega)
      · have c48 : ¬ ((so : Int) = 0) := c48
        refine wk_aload_n wm_211 wd_211_100 l0 ?_
        refine wk_getf wm_211 wd_211_101 (by decide +kernel) T.1 t0 tT_12 f46 ?_
        refine wk_iload wm_211 wd_211_104 l4 ?_
        refine wk_iconst wm_211 wd_211_106 (by decide) ?_
        refine wk_idiv wm_211 wd_211_107 ⟨by omega, by omega⟩ ⟨by omega, by omega⟩ ?_
        refine wk_bald wm_211 wd_211_108 T.1 y47 tT_72 (by decide) (by decide) ⟨by omega, by omega⟩ (fun q72 q73 => ?_)
        refine wk_if 121 wm_211 wd_211_109 (by decide) (by unfold sv_I; omega) (fun c74 => ?_) (fun c74 => ?_)
        · have c74 : ((wk_R h k45 (k / 3)) : Int) = 0 := c74
          refine wk_sipush wm_211 wd_211_121 (by decide) ?_
          refine wk_iload wm_211 wd_211_124 l4 ?_
          refine wk_iadd wm_211 wd_211_126 ?_
          refine wk_call (Or.inl ⟨rfl, rfl⟩) wm_211 wd_211_127 (by decide +kernel) wm_212 (by decide +kernel) rfl rfl rfl ?_
          refine wn_joins T hm tr ⟨by omega, by omega⟩ ⟨by omega, by omega⟩ rfl rfl rfl ?_ (fun hq Tq sq => ?_)
          · show sv_G Q 211 130 lv [wk_i 0] h
            refine wk_if 135 wm_211 wd_211_130 (by decide) (by unfold sv_I; omega) (fun c75 => ?_) (fun c75 => ?_)
            · have c75 : (0 : Int) = 0 := c75
              refine wk_iinc wm_211 wd_211_135 (by decide +kernel) (by decide) l4 (fun lv76 s77 => ?_)
              have l78 := s77.2 0 _ l0 (by decide) (Or.inl rfl)
              have l79 := s77.2 1 _ l1 (by decide) (Or.inl rfl)
              have l80 := s77.2 2 _ l2 (by decide) (Or.inl rfl)
              have l81 := s77.2 3 _ l3 (by decide) (Or.inl rfl)
              have l82 := s77.1
              refine wk_goto 82 wm_211 wd_211_138 (by decide) ?_
              exact ih lv76 h m ((k + 1)) T l78 l79 l80 l81 l82 (by omega) (by omega) (by omega) (by omega) (by omega)
            · have c75 : ¬ ((0 : Int) = 0) := c75
              exfalso; omega
          · show sv_G Q 211 130 lv [wk_i 1] hq
            refine wk_if 135 wm_211 wd_211_130 (by decide) (by unfold sv_I; omega) (fun c83 => ?_) (fun c83 => ?_)
            · have c83 : (1 : Int) = 0 := c83
              exfalso; omega
            · have c83 : ¬ ((1 : Int) = 0) := c83
              refine wk_iconst wm_211 wd_211_133 (by decide) ?_
              refine wk_istore_n wm_211 wd_211_134 (by decide +kernel) (fun lv84 s85 => ?_)
              have l86 := s85.2 0 _ l0 (by decide) (Or.inl rfl)
              have l87 := s85.2 1 _ l1 (by decide) (Or.inl rfl)
              have l88 := s85.2 2 _ l2 (by decide) (Or.inl rfl)
              have l89 := s85.2 4 _ l4 (by decide) (Or.inl rfl)
              have l90 := s85.1
              refine wk_iinc wm_211 wd_211_135 (by decide +kernel) (by decide) l89 (fun lv91 s92 => ?_)
              have l93 := s92.2 0 _ l86 (by decide) (Or.inl rfl)
              have l94 := s92.2 1 _ l87 (by decide) (Or.inl rfl)
              have l95 := s92.2 2 _ l88 (by decide) (Or.inl rfl)
              have l96 := s92.2 3 _ l90 (by decide) (Or.inl rfl)
              have l97 := s92.1
              refine wk_goto 82 wm_211 wd_211_138 (by decide) ?_
              exact ih lv91 hq 1 ((k + 1)) Tq l93 l94 l95 l96 l97 (by omega) (by omega) (by omega) (by omega) (by omega)
        · have c74 : ¬ (((wk_R h k45 (k / 3)) : Int) = 0) := c74
          refine wk_sipush wm_211 wd_211_112 (by decide) ?_
          refine wk_iload wm_211 wd_211_115 l4 ?_
          refine wk_iadd wm_211 wd_211_117 ?_
          refine wk_goto 127 wm_211 wd_211_118 (by decide) ?_
          refine wk_call (Or.inl ⟨rfl, rfl⟩) wm_211 wd_211_127 (by decide +kernel) wm_212 (by decide +kernel) rfl rfl rfl ?_
          refine wn_joins T hm tr ⟨by omega, by omega⟩ ⟨by omega, by omega⟩ rfl rfl rfl ?_ (fun hq Tq sq => ?_)
          · show sv_G Q 211 130 lv [wk_i 0] h
            refine wk_if 135 wm_211 wd_211_130 (by decide) (by unfold sv_I; omega) (fun c98 => ?_) (fun c98 => ?_)
            · have c98 : (0 : Int) = 0 := c98
              refine wk_iinc wm_211 wd_211_135 (by decide +kernel) (by decide) l4 (fun lv99 s100 => ?_)
              have l101 := s100.2 0 _ l0 (by decide) (Or.inl rfl)
              have l102 := s100.2 1 _ l1 (by decide) (Or.inl rfl)
              have l103 := s100.2 2 _ l2 (by decide) (Or.inl rfl)
              have l104 := s100.2 3 _ l3 (by decide) (Or.inl rfl)
              have l105 := s100.1
              refine wk_goto 82 wm_211 wd_211_138 (by decide) ?_
              exact ih lv99 h m ((k + 1)) T l101 l102 l103 l104 l105 (by omega) (by omega) (by omega) (by omega) (by omega)
            · have c98 : ¬ ((0 : Int) = 0) := c98
              exfalso; omega
          · show sv_G Q 211 130 lv [wk_i 1] hq
            refine wk_if 135 wm_211 wd_211_130 (by decide) (by unfold sv_I; omega) (fun c106 => ?_) (fun c106 => ?_)
            · have c106 : (1 : Int) = 0 := c106
              exfalso; omega
            · have c106 : ¬ ((1 : Int) = 0) := c106
              refine wk_iconst wm_211 wd_211_133 (by decide) ?_
              refine wk_istore_n wm_211 wd_211_134 (by decide +kernel) (fun lv107 s108 => ?_)
              have l109 := s108.2 0 _ l0 (by decide) (Or.inl rfl)
              have l110 := s108.2 1 _ l1 (by decide) (Or.inl rfl)
              have l111 := s108.2 2 _ l2 (by decide) (Or.inl rfl)
              have l112 := s108.2 4 _ l4 (by decide) (Or.inl rfl)
              have l113 := s108.1
              refine wk_iinc wm_211 wd_211_135 (by decide +kernel) (by decide) l112 (fun lv114 s115 => ?_)
              have l116 := s115.2 0 _ l109 (by decide) (Or.inl rfl)
              have l117 := s115.2 1 _ l110 (by decide) (Or.inl rfl)
              have l118 := s115.2 2 _ l111 (by decide) (Or.inl rfl)
              have l119 := s115.2 3 _ l113 (by decide) (Or.inl rfl)
              have l120 := s115.1
              refine wk_goto 82 wm_211 wd_211_138 (by decide) ?_
              exact ih lv114 hq 1 ((k + 1)) Tq l116 l117 l118 l119 l120 (by omega) (by omega) (by omega) (by omega) (by omega)
theorem wn_30 {mods : List (Nat × Nat)} {h0 : ae_H} {Q : ae_R → Prop} {k0 r : Nat} {so : Int} (hm : (69, 0) ∈ mods) (t0 : sv_ty k0 = some 12) (tr : sv_ty r = some 69) (hso : so = 0 ∨ so = 1) {n : Nat}
    (g : ∀ (lv : ae_L) (h : ae_H) (m : Int), sv_Tk sv_ty sv_tt mods h0 h → (ae_lk lv 0 = some (wk_r k0)) → (ae_lk lv 1 = some (wk_r r)) → (ae_lk lv 2 = some (wk_i so)) → (ae_lk lv 3 = some (wk_i m)) → (m = 0 ∨ m = 1) → (wk_S h r ≤ n ∧ (m = 1 → wk_S h r < n)) → sv_G Q 211 79 lv [] h) :
    ∀ (d : Nat) (lv : ae_L) (h : ae_H) (m k : Int), sv_Tk sv_ty sv_tt mods h0 h → (ae_lk lv 0 = some (wk_r k0)) → (ae_lk lv 1 = some (wk_r r)) → (ae_lk lv 2 = some (wk_i so)) → (ae_lk lv 3 = some (wk_i m)) → (ae_lk lv 4 = some (wk_i k)) → (m = 0 ∨ m = 1) → (wk_S h r ≤ n) → (m = 1 → wk_S h r < n) → (0 ≤ k ∧ k ≤ 60) → (60 - k ≤ d) → sv_G Q 211 30 lv [] h := by
  intro d
  induction d with
  | zero =>
    intro lv h m k T l0 l1 l2 l3 l4 hm1 s1 s2 hk hd
    obtain ⟨k121, f122, y123⟩ := wk_ref (j := 17) T.1 t0 tT_12 rfl
    obtain ⟨x124, f125, i126, i127, i128⟩ := wk_int (j := 42) T.1 t0 tT_12 rfl
    unfold sv_I at i126
    obtain ⟨k129, f130, y131⟩ := wk_ref (j := 15) T.1 t0 tT_12 rfl
    obtain ⟨k132, f133, y134⟩ := wk_ref (j := 16) T.1 t0 tT_12 rfl
    refine wk_iload wm_211 wd_211_30 l4 ?_
    refine wk_aload_n wm_211 wd_211_32 l0 ?_
    refine wk_getf wm_211 wd_211_33 (by decide +kernel) T.1 t0 tT_12 f122 ?_
    refine wk_iconst wm_211 wd_211_36 (by decide) ?_
    refine wk_iald wm_211 wd_211_37 sv_ty_lt T.1 y123 tT_64 (by decide) ⟨by omega, by omega⟩ (fun q135 q136 => ?_)
    refine wk_icmp 79 wm_211 wd_211_38 (by decide) (by unfold sv_I; omega) (by unfold sv_I; omega) (fun c137 => ?_) (fun c137 => ?_)
    · have c137 : (k : Int) ≥ (wk_R h k121 0) := c137
      exact g lv h m T l0 l1 l2 l3 (by omega) (by omega)
    · have c137 : ¬ ((k : Int) ≥ (wk_R h k121 0)) := c137
      exfalso; omega
  | succ d ih =>
    intro lv h m k T l0 l1 l2 l3 l4 hm1 s1 s2 hk hd
    obtain ⟨k138, f139, y140⟩ := wk_ref (j := 17) T.1 t0 tT_12 rfl
    obtain ⟨x141, f142, i143, i144, i145⟩ := wk_int (j := 42) T.1 t0 tT_12 rfl
    unfold sv_I at i143
    obtain ⟨k146, f147, y148⟩ := wk_ref (j := 15) T.1 t0 tT_12 rfl
    obtain ⟨k149, f150, y151⟩ := wk_ref (j := 16) T.1 t0 tT_12 rfl
    refine wk_iload wm_211 wd_211_30 l4 ?_
    refine wk_aload_n wm_211 wd_211_32 l0 ?_
    refine wk_getf wm_211 wd_211_33 (by decide +kernel) T.1 t0 tT_12 f139 ?_
    refine wk_iconst wm_211 wd_211_36 (by decide) ?_
    refine wk_iald wm_211 wd_211_37 sv_ty_lt T.1 y140 tT_64 (by decide) ⟨by omega, by omega⟩ (fun q152 q153 => ?_)
    refine wk_icmp 79 wm_211 wd_211_38 (by decide) (by unfold sv_I; omega) (by unfold sv_I; omega) (fun c154 => ?_) (fun c154 => ?_)
    · have c154 : (k : Int) ≥ (wk_R h k138 0) := c154
      exact g lv h m T l0 l1 l2 l3 (by omega) (by omega)
    · have c154 : ¬ ((k : Int) ≥ (wk_R h k138 0)) := c154
      refine wk_iload wm_211 wd_211_41 l4 ?_
      refine wk_aload_n wm_211 wd_211_43 l0 ?_
      refine wk_getf wm_211 wd_211_44 (by decide +kernel) T.1 t0 tT_12 f142 ?_
      refine wk_icmp 73 wm_211 wd_211_47 (by decide) (by unfold sv_I; omega) (by unfold sv_I; omega) (fun c155 => ?_) (fun c155 => ?_)
      · have c155 : (k : Int) = x141 := c155
        refine wk_iinc wm_211 wd_211_73 (by decide +kernel) (by decide) l4 (fun lv156 s157 => ?_)
        have l158 := s157.2 0 _ l0 (by decide) (Or.inl rfl)
        have l159 := s157.2 1 _ l1 (by decide) (Or.inl rfl)
        have l160 := s157.2 2 _ l2 (by decide) (Or.inl rfl)
        have l161 := s157.2 3 _ l3 (by decide) (Or.inl rfl)
        have l162 := s157.1
        refine wk_goto 30 wm_211 wd_211_76 (by decide) ?_
        exact ih lv156 h m ((k + 1)) T l158 l159 l160 l161 l162 (by omega) (by omega) (by omega) (by omega) (by omega)
      · have c155 : ¬ ((k : Int) = x141) := c155
        refine wk_aload_n wm_211 wd_211_50 l1 ?_
        refine wk_aload_n wm_211 wd_211_51 l0 ?_
        refine wk_getf wm_211 wd_211_52 (by decide +kernel) T.1 t0 tT_12 f147 ?_
        refine wk_iload wm_211 wd_211_55 l4 ?_
        refine wk_iald wm_211 wd_211_57 sv_ty_lt T.1 y148 tT_63 (by decide) ⟨by omega, by omega⟩ (fun q163 q164 => ?_)
        refine wk_aload_n wm_211 wd_211_58 l0 ?_
        refine wk_getf wm_211 wd_211_59 (by decide +kernel) T.1 t0 tT_12 f150 ?_
        refine wk_iload wm_211 wd_211_62 l4 ?_
        refine wk_iald wm_211 wd_211_64 sv_ty_lt T.1 y151 tT_63 (by decide) ⟨by omega, by omega⟩ (fun q165 q166 => ?_)
        refine wk_call (Or.inl ⟨rfl, rfl⟩) wm_211 wd_211_65 (by decide +kernel) wm_212 (by decide +kernel) rfl rfl rfl ?_
        refine wn_joins T hm tr ⟨by omega, by omega⟩ ⟨by omega, by omega⟩ rfl rfl rfl ?_ (fun hq Tq sq => ?_)
        · show sv_G Q 211 68 lv [wk_i 0] h
          refine wk_if 73 wm_211 wd_211_68 (by decide) (by unfold sv_I; omega) (fun c167 => ?_) (fun c167 => ?_)
          · have c167 : (0 : Int) = 0 := c167
            refine wk_iinc wm_211 wd_211_73 (by decide +kernel) (by decide) l4 (fun lv168 s169 => ?_)
            have l170 := s169.2 0 _ l0 (by decide) (Or.inl rfl)
            have l171 := s169.2 1 _ l1 (by decide) (Or.inl rfl)
            have l172 := s169.2 2 _ l2 (by decide) (Or.inl rfl)
            have l173 := s169.2 3 _ l3 (by decide) (Or.inl rfl)
            have l174 := s169.1
            refine wk_goto 30 wm_211 wd_211_76 (by decide) ?_
            exact ih lv168 h m ((k + 1)) T l170 l171 l172 l173 l174 (by omega) (by omega) (by omega) (by omega) (by omega)
          · have c167 : ¬ ((0 : Int) = 0) := c167
            exfalso; omega
        · show sv_G Q 211 68 lv [wk_i 1] hq
          refine wk_if 73 wm_211 wd_211_68 (by decide) (by unfold sv_I; omega) (fun c175 => ?_) (fun c175 => ?_)
          · have c175 : (1 : Int) = 0 := c175
            exfalso; omega
          · have c175 : ¬ ((1 : Int) = 0) := c175
            refine wk_iconst wm_211 wd_211_71 (by decide) ?_
            refine wk_istore_n wm_211 wd_211_72 (by decide +kernel) (fun lv176 s177 => ?_)
            have l178 := s177.2 0 _ l0 (by decide) (Or.inl rfl)
            have l179 := s177.2 1 _ l1 (by decide) (Or.inl rfl)
            have l180 := s177.2 2 _ l2 (by decide) (Or.inl rfl)
            have l181 := s177.2 4 _ l4 (by decide) (Or.inl rfl)
            have l182 := s177.1
            refine wk_iinc wm_211 wd_211_73 (by decide +kernel) (by decide) l181 (fun lv183 s184 => ?_)
            have l185 := s184.2 0 _ l178 (by decide) (Or.inl rfl)
            have l186 := s184.2 1 _ l179 (by decide) (Or.inl rfl)
            have l187 := s184.2 2 _ l180 (by decide) (Or.inl rfl)
            have l188 := s184.2 3 _ l182 (by decide) (Or.inl rfl)
            have l189 := s184.1
            refine wk_goto 30 wm_211 wd_211_76 (by decide) ?_
            exact ih lv183 hq 1 ((k + 1)) Tq l185 l186 l187 l188 l189 (by omega) (by omega) (by omega) (by omega) (by omega)
theorem wn_21 {mods : List (Nat × Nat)} {h0 : ae_H} {Q : ae_R → Prop} {k0 r : Nat} {so : Int} (hm : (69, 0) ∈ mods) (t0 : sv_ty k0 = some 12) (tr : sv_ty r = some 69) (hso : so = 0 ∨ so = 1)
    (g : ∀ (lv : ae_L) (h : ae_H), sv_Tk sv_ty sv_tt mods h0 h → sv_G Q 211 144 lv [] h) :
    ∀ (n : Nat) (lv : ae_L) (h : ae_H) (m : Int), sv_Tk sv_ty sv_tt mods h0 h → (ae_lk lv 0 = some (wk_r k0)) → (ae_lk lv 1 = some (wk_r r)) → (ae_lk lv 2 = some (wk_i so)) → (ae_lk lv 3 = some (wk_i m)) → (m = 0 ∨ m = 1) → (m = 1 → wk_S h r < n) → sv_G Q 211 21 lv [] h := by
  intro n
  induction n with
  | zero =>
    intro lv h m T l0 l1 l2 l3 hm1 s2
    refine wk_iload_n wm_211 wd_211_21 l3 ?_
    refine wk_if 144 wm_211 wd_211_22 (by decide) (by unfold sv_I; omega) (fun c190 => ?_) (fun c190 => ?_)
    · have c190 : (m : Int) = 0 := c190
      exact g lv h T
    · have c190 : ¬ ((m : Int) = 0) := c190
      exfalso; omega
  | succ n ih =>
    intro lv h m T l0 l1 l2 l3 hm1 s2
    refine wk_iload_n wm_211 wd_211_21 l3 ?_
    refine wk_if 144 wm_211 wd_211_22 (by decide) (by unfold sv_I; omega) (fun c191 => ?_) (fun c191 => ?_)
    · have c191 : (m : Int) = 0 := c191
      exact g lv h T
    · have c191 : ¬ ((m : Int) = 0) := c191
      refine wk_iconst wm_211 wd_211_25 (by decide) ?_
      refine wk_istore_n wm_211 wd_211_26 (by decide +kernel) (fun lv192 s193 => ?_)
      have l194 := s193.2 0 _ l0 (by decide) (Or.inl rfl)
      have l195 := s193.2 1 _ l1 (by decide) (Or.inl rfl)
      have l196 := s193.2 2 _ l2 (by decide) (Or.inl rfl)
      have l197 := s193.1
      refine wk_iconst wm_211 wd_211_27 (by decide) ?_
      refine wk_istore wm_211 wd_211_28 (by decide +kernel) (fun lv198 s199 => ?_)
      have l200 := s199.2 0 _ l194 (by decide) (Or.inl rfl)
      have l201 := s199.2 1 _ l195 (by decide) (Or.inl rfl)
      have l202 := s199.2 2 _ l196 (by decide) (Or.inl rfl)
      have l203 := s199.2 3 _ l197 (by decide) (Or.inl rfl)
      have l204 := s199.1
      refine wn_30 (n := n) hm t0 tr hso (fun lv h m T l0 l1 l2 l3 hm1 s1 => ?_) 60 lv198 h 0 0 T l200 l201 l202 l203 l204 (by omega) (by omega) (by omega) (by omega) (by omega)
      refine wk_iconst wm_211 wd_211_79 (by decide) ?_
      refine wk_istore wm_211 wd_211_80 (by decide +kernel) (fun lv205 s206 => ?_)
      have l207 := s206.2 0 _ l0 (by decide) (Or.inl rfl)
      have l208 := s206.2 1 _ l1 (by decide) (Or.inl rfl)
      have l209 := s206.2 2 _ l2 (by decide) (Or.inl rfl)
      have l210 := s206.2 3 _ l3 (by decide) (Or.inl rfl)
      have l211 := s206.1
      refine wn_82 (n := n) hm t0 tr hso (fun lv h m T l0 l1 l2 l3 hm1 s1 => ?_) 12 lv205 h m 0 T l207 l208 l209 l210 l211 (by omega) (by omega) (by omega) (by omega) (by omega)
      refine wk_goto 21 wm_211 wd_211_141 (by decide) ?_
      exact ih lv h m T l0 l1 l2 l3 (by omega) (by omega)
theorem wn_2 {mods : List (Nat × Nat)} {h0 : ae_H} {Q : ae_R → Prop} {k0 r : Nat} {so : Int} (hm : (69, 0) ∈ mods) (t0 : sv_ty k0 = some 12) (tr : sv_ty r = some 69) (hso : so = 0 ∨ so = 1)
    (g : ∀ (lv : ae_L) (h : ae_H), sv_Tk sv_ty sv_tt mods h0 h → sv_G Q 211 144 lv [] h) :
    ∀ (d : Nat) (lv : ae_L) (h : ae_H) (i : Int), sv_Tk sv_ty sv_tt mods h0 h → (ae_lk lv 0 = some (wk_r k0)) → (ae_lk lv 1 = some (wk_r r)) → (ae_lk lv 2 = some (wk_i so)) → (ae_lk lv 3 = some (wk_i i)) → (0 ≤ i ∧ i ≤ 217) → (217 - i ≤ d) → sv_G Q 211 2 lv [] h := by
  intro d
  induction d with
  | zero =>
    intro lv h i T l0 l1 l2 l3 hi hd
    refine wk_iload_n wm_211 wd_211_2 l3 ?_
    refine wk_sipush wm_211 wd_211_3 (by decide) ?_
    refine wk_icmp 19 wm_211 wd_211_6 (by decide) (by unfold sv_I; omega) (by unfold sv_I; omega) (fun c212 => ?_) (fun c212 => ?_)
    · have c212 : (i : Int) ≥ 217 := c212
      refine wk_iconst wm_211 wd_211_19 (by decide) ?_
      refine wk_istore_n wm_211 wd_211_20 (by decide +kernel) (fun lv213 s214 => ?_)
      have l215 := s214.2 0 _ l0 (by decide) (Or.inl rfl)
      have l216 := s214.2 1 _ l1 (by decide) (Or.inl rfl)
      have l217 := s214.2 2 _ l2 (by decide) (Or.inl rfl)
      have l218 := s214.1
      exact wn_21 hm t0 tr hso g (wk_S h r + 1) lv213 h 1 T l215 l216 l217 l218 (by omega) (by omega)
    · have c212 : ¬ ((i : Int) ≥ 217) := c212
      exfalso; omega
  | succ d ih =>
    intro lv h i T l0 l1 l2 l3 hi hd
    refine wk_iload_n wm_211 wd_211_2 l3 ?_
    refine wk_sipush wm_211 wd_211_3 (by decide) ?_
    refine wk_icmp 19 wm_211 wd_211_6 (by decide) (by unfold sv_I; omega) (by unfold sv_I; omega) (fun c219 => ?_) (fun c219 => ?_)
    · have c219 : (i : Int) ≥ 217 := c219
      refine wk_iconst wm_211 wd_211_19 (by decide) ?_
      refine wk_istore_n wm_211 wd_211_20 (by decide +kernel) (fun lv220 s221 => ?_)
      have l222 := s221.2 0 _ l0 (by decide) (Or.inl rfl)
      have l223 := s221.2 1 _ l1 (by decide) (Or.inl rfl)
      have l224 := s221.2 2 _ l2 (by decide) (Or.inl rfl)
      have l225 := s221.1
      exact wn_21 hm t0 tr hso g (wk_S h r + 1) lv220 h 1 T l222 l223 l224 l225 (by omega) (by omega)
    · have c219 : ¬ ((i : Int) ≥ 217) := c219
      refine wk_aload_n wm_211 wd_211_9 l1 ?_
      refine wk_iload_n wm_211 wd_211_10 l3 ?_
      refine wk_iload_n wm_211 wd_211_11 l3 ?_
      refine wk_iast wm_211 wd_211_12 sv_ty_lt T hm tr tT_69 (by decide) ⟨by omega, by omega⟩ ⟨by omega, by omega⟩ (by unfold sv_I; omega) (Or.inl rfl) (fun h226 T227 u228 g229 => ?_)
      refine wk_iinc wm_211 wd_211_13 (by decide +kernel) (by decide) l3 (fun lv230 s231 => ?_)
      have l232 := s231.2 0 _ l0 (by decide) (Or.inl rfl)
      have l233 := s231.2 1 _ l1 (by decide) (Or.inl rfl)
      have l234 := s231.2 2 _ l2 (by decide) (Or.inl rfl)
      have l235 := s231.1
      refine wk_goto 2 wm_211 wd_211_16 (by decide) ?_
      exact ih lv230 h226 (i + 1) T227 l232 l233 l234 l235 (by omega) (by omega)
theorem wn_nets {mods : List (Nat × Nat)} {h0 h : ae_H} {Q : ae_R → Prop} {lv : ae_L} {k0 r : Nat} {so : Int} (hm : (69, 0) ∈ mods) (T : sv_Tk sv_ty sv_tt mods h0 h) (t0 : sv_ty k0 = some 12) (tr : sv_ty r = some 69) (hso : so = 0 ∨ so = 1) (l0 : ae_lk lv 0 = some (wk_r k0)) (l1 : ae_lk lv 1 = some (wk_r r)) (l2 : ae_lk lv 2 = some (wk_i so))
    (g : ∀ h2, sv_Tk sv_ty sv_tt mods h0 h2 → Q (none, h2)) : sv_G Q 211 0 lv [] h := by
  refine wk_iconst wm_211 wd_211_0 (by decide) ?_
  refine wk_istore_n wm_211 wd_211_1 (by decide +kernel) (fun lv236 s237 => ?_)
  have l238 := s237.2 0 _ l0 (by decide) (Or.inl rfl)
  have l239 := s237.2 1 _ l1 (by decide) (Or.inl rfl)
  have l240 := s237.2 2 _ l2 (by decide) (Or.inl rfl)
  have l241 := s237.1
  exact wn_2 hm t0 tr hso (fun lv h T => wk_return wm_211 wd_211_144 rfl (g h T)) 217 lv236 h 0 T l238 l239 l240 l241 (by omega) (by omega)
