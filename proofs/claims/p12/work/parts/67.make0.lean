/-! THE REFERENCE MAKES BOARDS: addends, make0 (wip/p2/hand/g67.py) -/
theorem wm_n_n (a b : Int) (s : wm_S) : wm_n a (wm_n b s) = wm_n (b + a) s := Prod.ext (by show s.1 + b + a = s.1 + (b + a); omega) rfl
theorem wm_n_0 (s : wm_S) : wm_n 0 s = s := Prod.ext (by show s.1 + 0 = s.1; omega) rfl
theorem wm_pt_n (why : Int) (s : wm_S) : (wm_pt why s).1 - (wm_pt why s).2.1 = s.1 - s.2.1 ∧ s.1 ≤ (wm_pt why s).1 ∧ (wm_pt why s).1 ≤ s.1 + 1 := by
  unfold wm_pt wm_p2
  split
  · omega
  · split
    · show s.1 + 1 - (s.2.1 + 1) = _ ∧ s.1 ≤ s.1 + 1 ∧ s.1 + 1 ≤ s.1 + 1
      omega
    · show s.1 - s.2.1 = _ ∧ s.1 ≤ s.1 ∧ s.1 ≤ s.1 + 1
      omega
/-- how many WIRES lead to a WANT's WHEEL -/
def wm_fl (J : Nat → Int → Int) (k : Int) : Int := if J 2 k < 0 then 1 else if J 7 (J 2 k) - J 6 (J 2 k) < 0 then 0 else J 7 (J 2 k) - J 6 (J 2 k) + 1
def wm_ov (J : Nat → Int → Int) (k : Int) (s : wm_S) : wm_S := if J 5 k = 0 then wm_n 1 s else wm_n 3 (wm_pt (J 5 k) s)
def wm_ad (J : Nat → Int → Int) (k : Int) (s : wm_S) : wm_S := wm_ov J k (wm_n (wm_fl J k) s)

theorem wm_82 {mods : List (Nat × Nat)} {h0 : ae_H} {Q : ae_R → Prop} {k0 : Nat} {k v : Int} {J : Nat → Int → Int} (m1 : (98, 0) ∈ mods) (m2 : (12, 79) ∈ mods) (m3 : (99, 0) ∈ mods) (m4 : (100, 0) ∈ mods) (m5 : (12, 80) ∈ mods) (m6 : (12, 81) ∈ mods) (t0 : sv_ty k0 = some 12) (hk : 0 ≤ k ∧ k < 8) (hv : 0 ≤ v ∧ v ≤ 7) {h : ae_H} {lv : ae_L} {s : wm_S} (T : sv_Tk sv_ty sv_tt mods h0 h) (hJ : wm_J h = J) (hR : wm_R h k0 s) (hs : 0 ≤ s.1 ∧ s.1 ≤ 190) (l0 : ae_lk lv 0 = some (wk_r k0)) (l1 : ae_lk lv 1 = some (wk_i k)) (l2 : ae_lk lv 2 = some (wk_i v))
    (g : ∀ h2, sv_Tk sv_ty sv_tt mods h0 h2 → wm_J h2 = J → wm_R h2 k0 (wm_ov J k s) → Q (none, h2)) : sv_G Q 260 82 lv [] h := by
  have pn := wm_pt_n (J 5 k) s
  obtain ⟨k1, f2, y3⟩ := wk_ref (j := 70) T.1 t0 tT_12 rfl
  rw [tU_96 y3 tA_96] at f2
  refine wk_aload_n wm_260 wd_260_82 l0 ?_
  refine wk_getf wm_260 wd_260_83 (by decide +kernel) T.1 t0 tT_12 f2 ?_
  refine wk_iload_n wm_260 wd_260_86 l1 ?_
  refine wk_iald wm_260 wd_260_87 sv_ty_lt T.1 tA_96 tT_96 (by decide) ⟨by omega, by omega⟩ (fun q4 q5 => ?_)
  have eo : wk_R h 159 k = J 5 k := by rw [← hJ, wm_J_at (by omega)]; rfl
  refine wk_if 102 wm_260 wd_260_88 (by decide) (by unfold sv_I; omega) (fun c6 => ?_) (fun c6 => ?_)
  · have c6 : ((wk_R h 159 k) : Int) ≠ 0 := c6
    refine wk_aload_n wm_260 wd_260_102 l0 ?_
    refine wk_aload_n wm_260 wd_260_103 l0 ?_
    refine wk_getf wm_260 wd_260_104 (by decide +kernel) T.1 t0 tT_12 f2 ?_
    refine wk_iload_n wm_260 wd_260_107 l1 ?_
    refine wk_iald wm_260 wd_260_108 sv_ty_lt T.1 tA_96 tT_96 (by decide) ⟨by omega, by omega⟩ (fun q7 q8 => ?_)
    refine wk_call (Or.inr ⟨rfl, rfl⟩) wm_260 wd_260_109 (by decide +kernel) wm_258 (by decide +kernel) rfl rfl (wk_rcv T.1 t0 tT_12) ?_
    refine wm_point m1 m2 m3 m4 m5 m6 t0 T hJ hR ⟨by omega, by omega⟩ (why := wk_R h 159 k) ⟨by omega, by omega⟩ (fun h5 x T5 j5 R5 hx => ?_) rfl rfl
    rw [eo] at R5
    show sv_G Q 260 112 lv [wk_i x] h5
    refine wk_istore wm_260 wd_260_112 (by decide +kernel) (fun lv9 s10 => ?_)
    have l11 := s10.2 0 _ l0 (by decide) (Or.inl rfl)
    have l12 := s10.2 1 _ l1 (by decide) (Or.inl rfl)
    have l13 := s10.2 2 _ l2 (by decide) (Or.inl rfl)
    have l14 := s10.1
    refine wk_aload_n wm_260 wd_260_114 l11 ?_
    refine wk_bipush wm_260 wd_260_115 (by decide) ?_
    refine wk_sipush wm_260 wd_260_117 (by decide) ?_
    refine wk_iload wm_260 wd_260_120 l14 ?_
    refine wk_iadd wm_260 wd_260_122 ?_
    refine wk_call (Or.inr ⟨rfl, rfl⟩) wm_260 wd_260_123 (by decide +kernel) wm_257 (by decide +kernel) rfl rfl (wk_rcv T5.1 t0 tT_12) ?_
    refine wm_lay m1 m2 t0 T5 j5 R5 ⟨by show 0 ≤ (wm_pt (J 5 k) s).1; omega, by show (wm_pt (J 5 k) s).1 ≤ 199; omega⟩ ⟨by omega, by omega⟩ ⟨by omega, by omega⟩ rfl rfl rfl (fun hn15 Tn15 jn15 Rn15 => ?_)
    show sv_G Q 260 126 lv9 [] hn15
    refine wk_aload_n wm_260 wd_260_126 l11 ?_
    refine wk_sipush wm_260 wd_260_127 (by decide) ?_
    refine wk_iload wm_260 wd_260_130 l14 ?_
    refine wk_iadd wm_260 wd_260_132 ?_
    refine wk_bipush wm_260 wd_260_133 (by decide) ?_
    refine wk_iload_n wm_260 wd_260_135 l13 ?_
    refine wk_iadd wm_260 wd_260_136 ?_
    refine wk_call (Or.inr ⟨rfl, rfl⟩) wm_260 wd_260_137 (by decide +kernel) wm_257 (by decide +kernel) rfl rfl (wk_rcv Tn15.1 t0 tT_12) ?_
    refine wm_lay m1 m2 t0 Tn15 jn15 Rn15 ⟨by show 0 ≤ ((wm_pt (J 5 k) s).1 + 1); omega, by show ((wm_pt (J 5 k) s).1 + 1) ≤ 199; omega⟩ ⟨by omega, by omega⟩ ⟨by omega, by omega⟩ rfl rfl rfl (fun hn16 Tn16 jn16 Rn16 => ?_)
    show sv_G Q 260 140 lv9 [] hn16
    refine wk_aload_n wm_260 wd_260_140 l11 ?_
    refine wk_sipush wm_260 wd_260_141 (by decide) ?_
    refine wk_iload wm_260 wd_260_144 l14 ?_
    refine wk_iadd wm_260 wd_260_146 ?_
    refine wk_bipush wm_260 wd_260_147 (by decide) ?_
    refine wk_iload_n wm_260 wd_260_149 l13 ?_
    refine wk_iadd wm_260 wd_260_150 ?_
    refine wk_call (Or.inr ⟨rfl, rfl⟩) wm_260 wd_260_151 (by decide +kernel) wm_257 (by decide +kernel) rfl rfl (wk_rcv Tn16.1 t0 tT_12) ?_
    refine wm_lay m1 m2 t0 Tn16 jn16 Rn16 ⟨by show 0 ≤ (((wm_pt (J 5 k) s).1 + 1) + 1); omega, by show (((wm_pt (J 5 k) s).1 + 1) + 1) ≤ 199; omega⟩ ⟨by omega, by omega⟩ ⟨by omega, by omega⟩ rfl rfl rfl (fun hn17 Tn17 jn17 Rn17 => ?_)
    show sv_G Q 260 154 lv9 [] hn17
    refine wk_return wm_260 wd_260_154 rfl ?_
    refine g _ Tn17 jn17 ?_
    unfold wm_ov; rw [if_neg (by omega), show (3 : Int) = 1 + 1 + 1 from rfl, ← wm_n_n, ← wm_n_n]; exact Rn17
  · have c6 : ¬ (((wk_R h 159 k) : Int) ≠ 0) := c6
    refine wk_aload_n wm_260 wd_260_91 l0 ?_
    refine wk_bipush wm_260 wd_260_92 (by decide) ?_
    refine wk_bipush wm_260 wd_260_94 (by decide) ?_
    refine wk_iload_n wm_260 wd_260_96 l2 ?_
    refine wk_iadd wm_260 wd_260_97 ?_
    refine wk_call (Or.inr ⟨rfl, rfl⟩) wm_260 wd_260_98 (by decide +kernel) wm_257 (by decide +kernel) rfl rfl (wk_rcv T.1 t0 tT_12) ?_
    refine wm_lay m1 m2 t0 T hJ hR ⟨by show 0 ≤ s.1; omega, by show s.1 ≤ 199; omega⟩ ⟨by omega, by omega⟩ ⟨by omega, by omega⟩ rfl rfl rfl (fun hn18 Tn18 jn18 Rn18 => ?_)
    show sv_G Q 260 101 lv [] hn18
    refine wk_return wm_260 wd_260_101 rfl ?_
    refine g _ Tn18 jn18 ?_
    unfold wm_ov; rw [if_pos (by omega)]; exact Rn18
theorem wm_27 {mods : List (Nat × Nat)} {h0 : ae_H} {Q : ae_R → Prop} {k0 : Nat} {k v : Int} {J : Nat → Int → Int} (m1 : (98, 0) ∈ mods) (m2 : (12, 79) ∈ mods) (m3 : (99, 0) ∈ mods) (m4 : (100, 0) ∈ mods) (m5 : (12, 80) ∈ mods) (m6 : (12, 81) ∈ mods) (t0 : sv_ty k0 = some 12) (hk : 0 ≤ k ∧ k < 8) (hv : 0 ≤ v ∧ v ≤ 7) {s : wm_S} {f : Int} (hs : 0 ≤ s.1 ∧ s.1 ≤ 150) (ef : J 2 k = f) (hf : 0 ≤ f ∧ f ≤ 5) (h6 : 1 ≤ J 6 f) 
    (g : ∀ h2, sv_Tk sv_ty sv_tt mods h0 h2 → wm_J h2 = J → wm_R h2 k0 (wm_ad J k s) → Q (none, h2)) :
    ∀ (m : Nat) (lv : ae_L) (h : ae_H) (d : Int), sv_Tk sv_ty sv_tt mods h0 h → (wm_J h = J) → (wm_R h k0 (wm_n d s)) → (ae_lk lv 0 = some (wk_r k0)) → (ae_lk lv 1 = some (wk_i k)) → (ae_lk lv 2 = some (wk_i v)) → (ae_lk lv 3 = some (wk_i f)) → (ae_lk lv 4 = some (wk_i d)) → (0 ≤ d ∧ d ≤ 20) → (d ≤ J 7 f - J 6 f + 1 ∨ d = 0) → (21 - d ≤ m) → sv_G Q 260 27 lv [] h := by
  intro m
  induction m with
  | zero =>
    intro lv h d T hJ hR l0 l1 l2 l3 l4 hd hd2 hm
    exfalso; omega
  | succ m ih =>
    intro lv h d T hJ hR l0 l1 l2 l3 l4 hd hd2 hm
    obtain ⟨k19, f20, y21⟩ := wk_ref (j := 64) T.1 t0 tT_12 rfl
    rw [tU_90 y21 tA_90] at f20
    obtain ⟨k22, f23, y24⟩ := wk_ref (j := 63) T.1 t0 tT_12 rfl
    rw [tU_89 y24 tA_89] at f23
    refine wk_iload_n wm_260 wd_260_27 l3 ?_
    refine wk_if 82 wm_260 wd_260_28 (by decide) (by unfold sv_I; omega) (fun c25 => ?_) (fun c25 => ?_)
    · have c25 : (f : Int) < 0 := c25
      exfalso; omega
    · have c25 : ¬ ((f : Int) < 0) := c25
      refine wk_iload wm_260 wd_260_31 l4 ?_
      refine wk_aload_n wm_260 wd_260_33 l0 ?_
      refine wk_getf wm_260 wd_260_34 (by decide +kernel) T.1 t0 tT_12 f20 ?_
      refine wk_iload_n wm_260 wd_260_37 l3 ?_
      refine wk_iald wm_260 wd_260_38 sv_ty_lt T.1 tA_90 tT_90 (by decide) ⟨by omega, by omega⟩ (fun q26 q27 => ?_)
      refine wk_aload_n wm_260 wd_260_39 l0 ?_
      refine wk_getf wm_260 wd_260_40 (by decide +kernel) T.1 t0 tT_12 f23 ?_
      refine wk_iload_n wm_260 wd_260_43 l3 ?_
      refine wk_iald wm_260 wd_260_44 sv_ty_lt T.1 tA_89 tT_89 (by decide) ⟨by omega, by omega⟩ (fun q28 q29 => ?_)
      refine wk_isub wm_260 wd_260_45 ?_
      have e7 : wk_R h 153 f = J 7 f := by rw [← hJ, wm_J_at (by omega)]; rfl
      have e6 : wk_R h 152 f = J 6 f := by rw [← hJ, wm_J_at (by omega)]; rfl
      refine wk_icmp 82 wm_260 wd_260_46 (by decide) (by unfold sv_I; omega) (by unfold sv_I; omega) (fun c30 => ?_) (fun c30 => ?_)
      · have c30 : (d : Int) > ((wk_R h 153 f) - (wk_R h 152 f)) := c30
        have ed : d = wm_fl J k := by unfold wm_fl; rw [ef, if_neg (by omega)]; split <;> omega
        rw [ed] at hR
        exact wm_82 m1 m2 m3 m4 m5 m6 t0 hk hv T hJ hR ⟨by show 0 ≤ s.1 + wm_fl J k; omega, by show s.1 + wm_fl J k ≤ 190; omega⟩ l0 l1 l2 g
      · have c30 : ¬ ((d : Int) > ((wk_R h 153 f) - (wk_R h 152 f))) := c30
        refine wk_aload_n wm_260 wd_260_49 l0 ?_
        refine wk_iconst wm_260 wd_260_50 (by decide) ?_
        refine wk_aload_n wm_260 wd_260_51 l0 ?_
        refine wk_getf wm_260 wd_260_52 (by decide +kernel) T.1 t0 tT_12 f20 ?_
        refine wk_iload_n wm_260 wd_260_55 l3 ?_
        refine wk_iald wm_260 wd_260_56 sv_ty_lt T.1 tA_90 tT_90 (by decide) ⟨by omega, by omega⟩ (fun q31 q32 => ?_)
        refine wk_iadd wm_260 wd_260_57 ?_
        refine wk_iload wm_260 wd_260_58 l4 ?_
        refine wk_isub wm_260 wd_260_60 ?_
        refine wk_iconst wm_260 wd_260_61 (by decide) ?_
        refine wk_isub wm_260 wd_260_62 ?_
        refine wk_bipush wm_260 wd_260_63 (by decide) ?_
        refine wk_bipush wm_260 wd_260_65 (by decide) ?_
        refine wk_iload_n wm_260 wd_260_67 l2 ?_
        refine wk_imul wm_260 wd_260_68 ?_
        refine wk_iadd wm_260 wd_260_69 ?_
        refine wk_iload wm_260 wd_260_70 l4 ?_
        refine wk_iadd wm_260 wd_260_72 ?_
        refine wk_call (Or.inr ⟨rfl, rfl⟩) wm_260 wd_260_73 (by decide +kernel) wm_257 (by decide +kernel) rfl rfl (wk_rcv T.1 t0 tT_12) ?_
        refine wm_lay m1 m2 t0 T hJ hR ⟨by show 0 ≤ (s.1 + d); omega, by show (s.1 + d) ≤ 199; omega⟩ ⟨by omega, by omega⟩ ⟨by omega, by omega⟩ rfl rfl rfl (fun hn33 Tn33 jn33 Rn33 => ?_)
        show sv_G Q 260 76 lv [] hn33
        refine wk_iinc wm_260 wd_260_76 (by decide +kernel) (by decide) l4 (fun lv34 s35 => ?_)
        have l36 := s35.2 0 _ l0 (by decide) (Or.inl rfl)
        have l37 := s35.2 1 _ l1 (by decide) (Or.inl rfl)
        have l38 := s35.2 2 _ l2 (by decide) (Or.inl rfl)
        have l39 := s35.2 3 _ l3 (by decide) (Or.inl rfl)
        have l40 := s35.1
        refine wk_goto 27 wm_260 wd_260_79 (by decide) ?_
        rw [wm_n_n] at Rn33
        exact ih lv34 hn33 (d + 1) Tn33 jn33 Rn33 l36 l37 l38 l39 l40 (by omega) (by omega) (by omega)
theorem wm_addends {mods : List (Nat × Nat)} {h0 : ae_H} {Q : ae_R → Prop} {k0 : Nat} {k v : Int} {J : Nat → Int → Int} (m1 : (98, 0) ∈ mods) (m2 : (12, 79) ∈ mods) (m3 : (99, 0) ∈ mods) (m4 : (100, 0) ∈ mods) (m5 : (12, 80) ∈ mods) (m6 : (12, 81) ∈ mods) (t0 : sv_ty k0 = some 12) (hk : 0 ≤ k ∧ k < 8) (hv : 0 ≤ v ∧ v ≤ 7) {h : ae_H} {lv : ae_L} {s : wm_S} (T : sv_Tk sv_ty sv_tt mods h0 h) (hJ : wm_J h = J) (hR : wm_R h k0 s) (hs : 0 ≤ s.1 ∧ s.1 ≤ 150) (h6 : 0 ≤ J 2 k → 1 ≤ J 6 (J 2 k)) (l0 : ae_lk lv 0 = some (wk_r k0)) (l1 : ae_lk lv 1 = some (wk_i k)) (l2 : ae_lk lv 2 = some (wk_i v))
    (g : ∀ h2, sv_Tk sv_ty sv_tt mods h0 h2 → wm_J h2 = J → wm_R h2 k0 (wm_ad J k s) → Q (none, h2)) : sv_G Q 260 0 lv [] h := by
  obtain ⟨k41, f42, y43⟩ := wk_ref (j := 67) T.1 t0 tT_12 rfl
  rw [tU_93 y43 tA_93] at f42
  refine wk_aload_n wm_260 wd_260_0 l0 ?_
  refine wk_getf wm_260 wd_260_1 (by decide +kernel) T.1 t0 tT_12 f42 ?_
  refine wk_iload_n wm_260 wd_260_4 l1 ?_
  refine wk_iald wm_260 wd_260_5 sv_ty_lt T.1 tA_93 tT_93 (by decide) ⟨by omega, by omega⟩ (fun q44 q45 => ?_)
  refine wk_istore_n wm_260 wd_260_6 (by decide +kernel) (fun lv46 s47 => ?_)
  have l48 := s47.2 0 _ l0 (by decide) (Or.inl rfl)
  have l49 := s47.2 1 _ l1 (by decide) (Or.inl rfl)
  have l50 := s47.2 2 _ l2 (by decide) (Or.inl rfl)
  have l51 := s47.1
  have ef : wk_R h 156 k = J 2 k := by rw [← hJ, wm_J_at (by omega)]; rfl
  refine wk_iload_n wm_260 wd_260_7 l51 ?_
  refine wk_if 24 wm_260 wd_260_8 (by decide) (by unfold sv_I; omega) (fun c52 => ?_) (fun c52 => ?_)
  · have c52 : ((wk_R h 156 k) : Int) ≥ 0 := c52
    refine wk_iconst wm_260 wd_260_24 (by decide) ?_
    refine wk_istore wm_260 wd_260_25 (by decide +kernel) (fun lv53 s54 => ?_)
    have l55 := s54.2 0 _ l48 (by decide) (Or.inl rfl)
    have l56 := s54.2 1 _ l49 (by decide) (Or.inl rfl)
    have l57 := s54.2 2 _ l50 (by decide) (Or.inl rfl)
    have l58 := s54.2 3 _ l51 (by decide) (Or.inl rfl)
    have l59 := s54.1
    exact wm_27 m1 m2 m3 m4 m5 m6 t0 hk hv hs ef.symm ⟨by omega, by omega⟩ (by rw [ef]; exact h6 (by omega)) g 21 lv53 h 0 T hJ (by rw [wm_n_0]; exact hR) l55 l56 l57 l58 l59 (by omega) (by omega) (by omega)
  · have c52 : ¬ (((wk_R h 156 k) : Int) ≥ 0) := c52
    refine wk_aload_n wm_260 wd_260_11 l48 ?_
    refine wk_bipush wm_260 wd_260_12 (by decide) ?_
    refine wk_bipush wm_260 wd_260_14 (by decide) ?_
    refine wk_bipush wm_260 wd_260_16 (by decide) ?_
    refine wk_iload_n wm_260 wd_260_18 l50 ?_
    refine wk_imul wm_260 wd_260_19 ?_
    refine wk_iadd wm_260 wd_260_20 ?_
    refine wk_call (Or.inr ⟨rfl, rfl⟩) wm_260 wd_260_21 (by decide +kernel) wm_257 (by decide +kernel) rfl rfl (wk_rcv T.1 t0 tT_12) ?_
    refine wm_lay m1 m2 t0 T hJ hR ⟨by show 0 ≤ s.1; omega, by show s.1 ≤ 199; omega⟩ ⟨by omega, by omega⟩ ⟨by omega, by omega⟩ rfl rfl rfl (fun hn60 Tn60 jn60 Rn60 => ?_)
    show sv_G Q 260 24 lv46 [] hn60
    refine wk_iconst wm_260 wd_260_24 (by decide) ?_
    refine wk_istore wm_260 wd_260_25 (by decide +kernel) (fun lv61 s62 => ?_)
    have l63 := s62.2 0 _ l48 (by decide) (Or.inl rfl)
    have l64 := s62.2 1 _ l49 (by decide) (Or.inl rfl)
    have l65 := s62.2 2 _ l50 (by decide) (Or.inl rfl)
    have l66 := s62.2 3 _ l51 (by decide) (Or.inl rfl)
    have l67 := s62.1
    refine wk_iload_n wm_260 wd_260_27 l66 ?_
    refine wk_if 82 wm_260 wd_260_28 (by decide) (by unfold sv_I; omega) (fun c68 => ?_) (fun c68 => ?_)
    · have e1 : wm_fl J k = 1 := by unfold wm_fl; rw [if_pos (by omega)]
      exact wm_82 m1 m2 m3 m4 m5 m6 t0 hk hv Tn60 jn60 Rn60 ⟨by show 0 ≤ s.1 + 1; omega, by show s.1 + 1 ≤ 190; omega⟩ l63 l64 l65 (fun h2 a b c => g h2 a b (by unfold wm_ad; rw [e1]; exact c))
    · have c68 : ¬ ((wk_R h 156 k) < 0) := c68
      exfalso; omega
/-- is a WANT in a set -/
def wm_bt (set k : Int) : Int := (((set.toNat >>> k.toNat) % 2 : Nat) : Int)
theorem wm_bt_eq {set k : Int} (hs : 0 ≤ set ∧ set < 2147483648) : sv_g (sv_u (((set.toNat >>> k.toNat : Nat) : Nat) : Int) &&& sv_u 1) = wm_bt set k := by
  have hle : set.toNat >>> k.toNat ≤ set.toNat := Nat.shiftRight_le _ _
  rw [sv_u_nat (by omega), show sv_u 1 = 1 from rfl, show (set.toNat >>> k.toNat) &&& 1 = (set.toNat >>> k.toNat) % 2 from Nat.and_one_is_mod _, wk_g_nat (by omega)]
  rfl
theorem wm_bt01 (set k : Int) : 0 ≤ wm_bt set k ∧ wm_bt set k ≤ 1 := by unfold wm_bt; omega
def wm_dg (J : Nat → Int → Int) (set : Int) : Nat → Int
  | 0 => 0
  | k + 1 => wm_dg J set k + (if wm_bt set k = 1 then J 3 k else 0)
def wm_mb (set : Int) : Nat → Int
  | 0 => 0
  | k + 1 => wm_mb set k + wm_bt set k
def wm_br (J : Nat → Int → Int) : Nat → Int
  | 0 => 0
  | o + 1 => wm_br J o + (if J 0 o = 0 then 0 else 3)
def wm_a1 (J : Nat → Int → Int) (set : Int) (s : wm_S) : Nat → wm_S
  | 0 => s
  | k + 1 => if wm_bt set k = 1 then wm_ad J k (wm_a1 J set s k) else wm_a1 J set s k
def wm_pi (why : Int) (s : wm_S) : Nat → wm_S
  | 0 => s
  | i + 1 => wm_n 2 (wm_pt why (wm_pi why s i))
def wm_p1 (J : Nat → Int → Int) (set : Int) (s : wm_S) : Nat → wm_S
  | 0 => s
  | k + 1 => if wm_bt set k = 1 then wm_n 1 (wm_pi (20 + J 4 k) (wm_p1 J set s k) (J 3 k).toNat) else wm_p1 J set s k
def wm_z : wm_S := (0, 0, fun _ => 0, fun _ => 0)
def wm_s1 (J : Nat → Int → Int) (set : Int) : wm_S := wm_a1 J set (wm_n (wm_br J 3) wm_z) (J 1 0).toNat
def wm_all (J : Nat → Int → Int) (set : Int) : wm_S := wm_p1 J set (wm_s1 J set) (J 1 0).toNat
def wm_fit (J : Nat → Int → Int) (set : Int) : Prop := wm_dg J set (J 1 0).toNat ≤ 12 ∧ (wm_all J set).1 ≤ 60
theorem wm_bits : ∀ s : Fin 256, ((wk_bl 64 s.val : Nat) : Int) = wm_mb (s.val : Int) 8 := by decide +kernel
theorem wm_bits_eq {set : Int} (hs : 0 ≤ set ∧ set ≤ 255) : ((wk_bl 64 set.toNat : Nat) : Int) = wm_mb set 8 := by
  have := wm_bits ⟨set.toNat, by omega⟩
  have this : ((wk_bl 64 set.toNat : Nat) : Int) = wm_mb ((set.toNat : Nat) : Int) 8 := this
  rw [Int.toNat_of_nonneg hs.1] at this; exact this
theorem wm_mb_le (set : Int) {m : Nat} : ∀ {n : Nat}, m ≤ n → wm_mb set m ≤ wm_mb set n
  | 0, h => by rw [Nat.le_zero.mp h]; exact Int.le_refl _
  | n + 1, h => by
    by_cases e : m = n + 1
    · rw [e]; exact Int.le_refl _
    · have := wm_mb_le set (m := m) (n := n) (by omega)
      have := wm_bt01 set n
      show _ ≤ wm_mb set n + wm_bt set n
      omega
theorem wm_mb_0 (set : Int) : ∀ n : Nat, 0 ≤ wm_mb set n ∧ wm_mb set n ≤ n
  | 0 => by show (0 : Int) ≤ 0 ∧ (0 : Int) ≤ ((0 : Nat) : Int); omega
  | n + 1 => by
    have := wm_mb_0 set n
    have := wm_bt01 set n
    show 0 ≤ wm_mb set n + wm_bt set n ∧ wm_mb set n + wm_bt set n ≤ ((n + 1 : Nat) : Int)
    omega
theorem wm_dg_le {J : Nat → Int → Int} {set : Int} {c : Nat} (hJ : ∀ k : Int, 0 ≤ k → k < c → 0 ≤ J 3 k) {m : Nat} : ∀ {n : Nat}, m ≤ n → n ≤ c → wm_dg J set m ≤ wm_dg J set n
  | 0, h, _ => by rw [Nat.le_zero.mp h]; exact Int.le_refl _
  | n + 1, h, hc => by
    by_cases e : m = n + 1
    · rw [e]; exact Int.le_refl _
    · have := wm_dg_le (J := J) (set := set) (c := c) hJ (m := m) (n := n) (by omega) (by omega)
      have h3 := hJ n (by omega) (by omega)
      show _ ≤ wm_dg J set n + (if wm_bt set n = 1 then J 3 n else 0)
      split <;> omega
theorem wm_br_le (J : Nat → Int → Int) : ∀ o : Nat, 0 ≤ wm_br J o ∧ wm_br J o ≤ 3 * o
  | 0 => by show (0 : Int) ≤ 0 ∧ (0 : Int) ≤ 3 * ((0 : Nat) : Int); omega
  | o + 1 => by
    have := wm_br_le J o
    show 0 ≤ wm_br J o + _ ∧ wm_br J o + _ ≤ 3 * ((o + 1 : Nat) : Int)
    split <;> omega
theorem wm_ov_n (J : Nat → Int → Int) (k : Int) (s : wm_S) : (wm_ov J k s).1 - (wm_ov J k s).2.1 ≤ s.1 - s.2.1 + 3 ∧ s.1 ≤ (wm_ov J k s).1 := by
  unfold wm_ov
  split
  · show s.1 + 1 - s.2.1 ≤ _ ∧ s.1 ≤ s.1 + 1
    omega
  · have := wm_pt_n (J 5 k) s
    show (wm_pt (J 5 k) s).1 + 3 - (wm_pt (J 5 k) s).2.1 ≤ _ ∧ s.1 ≤ (wm_pt (J 5 k) s).1 + 3
    omega
theorem wm_ad_n {J : Nat → Int → Int} {k : Int} (h7 : 0 ≤ J 2 k → J 7 (J 2 k) ≤ 20 ∧ 1 ≤ J 6 (J 2 k)) (s : wm_S) : (wm_ad J k s).1 - (wm_ad J k s).2.1 ≤ s.1 - s.2.1 + 23 ∧ s.1 ≤ (wm_ad J k s).1 := by
  unfold wm_ad
  have := wm_ov_n J k (wm_n (wm_fl J k) s)
  have h2 : (wm_n (wm_fl J k) s).1 = s.1 + wm_fl J k := rfl
  have h3 : (wm_n (wm_fl J k) s).2.1 = s.2.1 := rfl
  have h4 : 0 ≤ wm_fl J k ∧ wm_fl J k ≤ 20 := by
    unfold wm_fl
    split
    · omega
    · have := h7 (by omega)
      split <;> omega
  omega
theorem wm_pi_n (why : Int) (s : wm_S) : ∀ i : Nat, (wm_pi why s i).1 - (wm_pi why s i).2.1 = s.1 - s.2.1 + 2 * i ∧ s.1 ≤ (wm_pi why s i).1
  | 0 => by show s.1 - s.2.1 = s.1 - s.2.1 + 2 * ((0 : Nat) : Int) ∧ s.1 ≤ s.1; omega
  | i + 1 => by
    have h1 := wm_pi_n why s i
    have h2 := wm_pt_n why (wm_pi why s i)
    show (wm_pt why (wm_pi why s i)).1 + 2 - (wm_pt why (wm_pi why s i)).2.1 = s.1 - s.2.1 + 2 * ((i + 1 : Nat) : Int) ∧ s.1 ≤ (wm_pt why (wm_pi why s i)).1 + 2
    omega

theorem wm_251 {mods : List (Nat × Nat)} {h0 : ae_H} {Q : ae_R → Prop} {k0 : Nat} {set : Int} {J : Nat → Int → Int} (m1 : (98, 0) ∈ mods) (m2 : (12, 79) ∈ mods) (m3 : (99, 0) ∈ mods) (m4 : (100, 0) ∈ mods) (m5 : (12, 80) ∈ mods) (m6 : (12, 81) ∈ mods) (t0 : sv_ty k0 = some 12) (hset : 0 ≤ set ∧ set ≤ 255) {k v bar0 : Int} {s : wm_S} (hk : 0 ≤ k ∧ k < 8) (hv : 0 ≤ v ∧ v ≤ 7) (hb : 0 ≤ bar0 ∧ bar0 ≤ 12) (hs : 0 ≤ s.1 ∧ s.1 - s.2.1 ≤ 130) (hw : 0 ≤ J 3 k ∧ J 3 k ≤ 6) (hw4 : 0 ≤ J 4 k ∧ J 4 k ≤ 3)
    (g : ∀ (lv : ae_L) (h : ae_H), sv_Tk sv_ty sv_tt mods h0 h → (wm_J h = J) → (wm_R h k0 (wm_n 1 (wm_pi (20 + J 4 k) s (J 3 k).toNat))) → (ae_lk lv 0 = some (wk_r k0)) → (ae_lk lv 1 = some (wk_i set)) → (ae_lk lv 4 = some (wk_i (v + 1))) → (ae_lk lv 5 = some (wk_i (bar0 + J 3 k))) → (ae_lk lv 6 = some (wk_i k)) → sv_G Q 259 343 lv [] h) :
    ∀ (m : Nat) (lv : ae_L) (h : ae_H) (d : Int), sv_Tk sv_ty sv_tt mods h0 h → (wm_J h = J) → (wm_R h k0 (wm_pi (20 + J 4 k) s (J 3 k - 1 - d).toNat)) → (ae_lk lv 0 = some (wk_r k0)) → (ae_lk lv 1 = some (wk_i set)) → (ae_lk lv 4 = some (wk_i v)) → (ae_lk lv 5 = some (wk_i (bar0 + (J 3 k - 1 - d)))) → (ae_lk lv 6 = some (wk_i k)) → (ae_lk lv 7 = some (wk_i d)) → (-1 ≤ d ∧ d ≤ J 3 k - 1) → (d + 1 ≤ m) → sv_G Q 259 251 lv [] h := by
  intro m
  induction m with
  | zero =>
    intro lv h d T hJ hR l0 l1 l4 l5 l6 l7 hd hm
    have pn := wm_pi_n (20 + J 4 k) s (J 3 k - 1 - d).toNat
    have hm4 := hR.2.2.1
    refine wk_iload wm_259 wd_259_251 l7 ?_
    refine wk_if 318 wm_259 wd_259_253 (by decide) (by unfold sv_I; omega) (fun c69 => ?_) (fun c69 => ?_)
    · have c69 : (d : Int) < 0 := c69
      obtain ⟨k70, f71, y72⟩ := wk_ref (j := 69) T.1 t0 tT_12 rfl
      rw [tU_95 y72 tA_95] at f71
      refine wk_aload_n wm_259 wd_259_318 l0 ?_
      refine wk_bipush wm_259 wd_259_319 (by decide) ?_
      refine wk_aload_n wm_259 wd_259_321 l0 ?_
      refine wk_getf wm_259 wd_259_322 (by decide +kernel) T.1 t0 tT_12 f71 ?_
      refine wk_iload wm_259 wd_259_325 l6 ?_
      refine wk_iald wm_259 wd_259_327 sv_ty_lt T.1 tA_95 tT_95 (by decide) ⟨by omega, by omega⟩ (fun q73 q74 => ?_)
      have eo : wk_R h 158 k = J 4 k := by rw [← hJ, wm_J_at (by omega)]; rfl
      refine wk_iadd wm_259 wd_259_328 ?_
      refine wk_iconst wm_259 wd_259_329 (by decide) ?_
      refine wk_isub wm_259 wd_259_330 ?_
      refine wk_sipush wm_259 wd_259_331 (by decide) ?_
      refine wk_iload wm_259 wd_259_334 l4 ?_
      refine wk_iadd wm_259 wd_259_336 ?_
      refine wk_call (Or.inr ⟨rfl, rfl⟩) wm_259 wd_259_337 (by decide +kernel) wm_257 (by decide +kernel) rfl rfl (wk_rcv T.1 t0 tT_12) ?_
      refine wm_lay m1 m2 t0 T hJ hR ⟨by show 0 ≤ (wm_pi (20 + J 4 k) s (J 3 k - 1 - d).toNat).1; omega, by show (wm_pi (20 + J 4 k) s (J 3 k - 1 - d).toNat).1 ≤ 199; omega⟩ ⟨by omega, by omega⟩ ⟨by omega, by omega⟩ rfl rfl rfl (fun hn75 Tn75 jn75 Rn75 => ?_)
      show sv_G Q 259 340 lv [] hn75
      refine wk_iinc wm_259 wd_259_340 (by decide +kernel) (by decide) l4 (fun lv76 s77 => ?_)
      have l78 := s77.2 0 _ l0 (by decide) (Or.inl rfl)
      have l79 := s77.2 1 _ l1 (by decide) (Or.inl rfl)
      have l80 := s77.2 5 _ l5 (by decide) (Or.inl rfl)
      have l81 := s77.2 6 _ l6 (by decide) (Or.inl rfl)
      have l82 := s77.2 7 _ l7 (by decide) (Or.inl rfl)
      have l83 := s77.1
      rw [show (J 3 k - 1 - d).toNat = (J 3 k).toNat by omega] at Rn75
      exact g lv76 hn75 Tn75 jn75 Rn75 l78 l79 l83 (by rw [show bar0 + J 3 k = bar0 + (J 3 k - 1 - d) by omega]; exact l80) l81
    · have c69 : ¬ ((d : Int) < 0) := c69
      exfalso; omega
  | succ m ih =>
    intro lv h d T hJ hR l0 l1 l4 l5 l6 l7 hd hm
    have pn := wm_pi_n (20 + J 4 k) s (J 3 k - 1 - d).toNat
    have hm4 := hR.2.2.1
    refine wk_iload wm_259 wd_259_251 l7 ?_
    refine wk_if 318 wm_259 wd_259_253 (by decide) (by unfold sv_I; omega) (fun c84 => ?_) (fun c84 => ?_)
    · have c84 : (d : Int) < 0 := c84
      obtain ⟨k85, f86, y87⟩ := wk_ref (j := 69) T.1 t0 tT_12 rfl
      rw [tU_95 y87 tA_95] at f86
      refine wk_aload_n wm_259 wd_259_318 l0 ?_
      refine wk_bipush wm_259 wd_259_319 (by decide) ?_
      refine wk_aload_n wm_259 wd_259_321 l0 ?_
      refine wk_getf wm_259 wd_259_322 (by decide +kernel) T.1 t0 tT_12 f86 ?_
      refine wk_iload wm_259 wd_259_325 l6 ?_
      refine wk_iald wm_259 wd_259_327 sv_ty_lt T.1 tA_95 tT_95 (by decide) ⟨by omega, by omega⟩ (fun q88 q89 => ?_)
      have eo : wk_R h 158 k = J 4 k := by rw [← hJ, wm_J_at (by omega)]; rfl
      refine wk_iadd wm_259 wd_259_328 ?_
      refine wk_iconst wm_259 wd_259_329 (by decide) ?_
      refine wk_isub wm_259 wd_259_330 ?_
      refine wk_sipush wm_259 wd_259_331 (by decide) ?_
      refine wk_iload wm_259 wd_259_334 l4 ?_
      refine wk_iadd wm_259 wd_259_336 ?_
      refine wk_call (Or.inr ⟨rfl, rfl⟩) wm_259 wd_259_337 (by decide +kernel) wm_257 (by decide +kernel) rfl rfl (wk_rcv T.1 t0 tT_12) ?_
      refine wm_lay m1 m2 t0 T hJ hR ⟨by show 0 ≤ (wm_pi (20 + J 4 k) s (J 3 k - 1 - d).toNat).1; omega, by show (wm_pi (20 + J 4 k) s (J 3 k - 1 - d).toNat).1 ≤ 199; omega⟩ ⟨by omega, by omega⟩ ⟨by omega, by omega⟩ rfl rfl rfl (fun hn90 Tn90 jn90 Rn90 => ?_)
      show sv_G Q 259 340 lv [] hn90
      refine wk_iinc wm_259 wd_259_340 (by decide +kernel) (by decide) l4 (fun lv91 s92 => ?_)
      have l93 := s92.2 0 _ l0 (by decide) (Or.inl rfl)
      have l94 := s92.2 1 _ l1 (by decide) (Or.inl rfl)
      have l95 := s92.2 5 _ l5 (by decide) (Or.inl rfl)
      have l96 := s92.2 6 _ l6 (by decide) (Or.inl rfl)
      have l97 := s92.2 7 _ l7 (by decide) (Or.inl rfl)
      have l98 := s92.1
      rw [show (J 3 k - 1 - d).toNat = (J 3 k).toNat by omega] at Rn90
      exact g lv91 hn90 Tn90 jn90 Rn90 l93 l94 l98 (by rw [show bar0 + J 3 k = bar0 + (J 3 k - 1 - d) by omega]; exact l95) l96
    · have c84 : ¬ ((d : Int) < 0) := c84
      obtain ⟨k99, f100, y101⟩ := wk_ref (j := 69) T.1 t0 tT_12 rfl
      rw [tU_95 y101 tA_95] at f100
      refine wk_aload_n wm_259 wd_259_256 l0 ?_
      refine wk_bipush wm_259 wd_259_257 (by decide) ?_
      refine wk_aload_n wm_259 wd_259_259 l0 ?_
      refine wk_getf wm_259 wd_259_260 (by decide +kernel) T.1 t0 tT_12 f100 ?_
      refine wk_iload wm_259 wd_259_263 l6 ?_
      refine wk_iald wm_259 wd_259_265 sv_ty_lt T.1 tA_95 tT_95 (by decide) ⟨by omega, by omega⟩ (fun q102 q103 => ?_)
      have eo : wk_R h 158 k = J 4 k := by rw [← hJ, wm_J_at (by omega)]; rfl
      refine wk_iadd wm_259 wd_259_266 ?_
      refine wk_call (Or.inr ⟨rfl, rfl⟩) wm_259 wd_259_267 (by decide +kernel) wm_258 (by decide +kernel) rfl rfl (wk_rcv T.1 t0 tT_12) ?_
      refine wm_point m1 m2 m3 m4 m5 m6 t0 T hJ hR ⟨by omega, by omega⟩ (why := 20 + wk_R h 158 k) ⟨by omega, by omega⟩ (fun h5 x T5 j5 R5 hx => ?_) rfl rfl
      rw [eo] at R5
      have pp := wm_pt_n (20 + J 4 k) (wm_pi (20 + J 4 k) s (J 3 k - 1 - d).toNat)
      have hm5 := R5.2.2.1
      show sv_G Q 259 270 lv [wk_i x] h5
      refine wk_istore wm_259 wd_259_270 (by decide +kernel) (fun lv104 s105 => ?_)
      have l106 := s105.2 0 _ l0 (by decide) (Or.inl rfl)
      have l107 := s105.2 1 _ l1 (by decide) (Or.inl rfl)
      have l108 := s105.2 4 _ l4 (by decide) (Or.inl rfl)
      have l109 := s105.2 5 _ l5 (by decide) (Or.inl rfl)
      have l110 := s105.2 6 _ l6 (by decide) (Or.inl rfl)
      have l111 := s105.2 7 _ l7 (by decide) (Or.inl rfl)
      have l112 := s105.1
      refine wk_aload_n wm_259 wd_259_272 l106 ?_
      refine wk_bipush wm_259 wd_259_273 (by decide) ?_
      refine wk_bipush wm_259 wd_259_275 (by decide) ?_
      refine wk_iload wm_259 wd_259_277 l108 ?_
      refine wk_imul wm_259 wd_259_279 ?_
      refine wk_iadd wm_259 wd_259_280 ?_
      refine wk_iload wm_259 wd_259_281 l111 ?_
      refine wk_iadd wm_259 wd_259_283 ?_
      refine wk_sipush wm_259 wd_259_284 (by decide) ?_
      refine wk_iload wm_259 wd_259_287 l112 ?_
      refine wk_iadd wm_259 wd_259_289 ?_
      refine wk_call (Or.inr ⟨rfl, rfl⟩) wm_259 wd_259_290 (by decide +kernel) wm_257 (by decide +kernel) rfl rfl (wk_rcv T5.1 t0 tT_12) ?_
      refine wm_lay m1 m2 t0 T5 j5 R5 ⟨by show 0 ≤ (wm_pt (20 + J 4 k) (wm_pi (20 + J 4 k) s (J 3 k - 1 - d).toNat)).1; omega, by show (wm_pt (20 + J 4 k) (wm_pi (20 + J 4 k) s (J 3 k - 1 - d).toNat)).1 ≤ 199; omega⟩ ⟨by omega, by omega⟩ ⟨by omega, by omega⟩ rfl rfl rfl (fun hn113 Tn113 jn113 Rn113 => ?_)
      show sv_G Q 259 293 lv104 [] hn113
      refine wk_aload_n wm_259 wd_259_293 l106 ?_
      refine wk_sipush wm_259 wd_259_294 (by decide) ?_
      refine wk_iload wm_259 wd_259_297 l112 ?_
      refine wk_iadd wm_259 wd_259_299 ?_
      refine wk_sipush wm_259 wd_259_300 (by decide) ?_
      refine wk_iload wm_259 wd_259_303 l109 ?_
      refine wk_iadd wm_259 wd_259_305 ?_
      refine wk_call (Or.inr ⟨rfl, rfl⟩) wm_259 wd_259_306 (by decide +kernel) wm_257 (by decide +kernel) rfl rfl (wk_rcv Tn113.1 t0 tT_12) ?_
      refine wm_lay m1 m2 t0 Tn113 jn113 Rn113 ⟨by show 0 ≤ ((wm_pt (20 + J 4 k) (wm_pi (20 + J 4 k) s (J 3 k - 1 - d).toNat)).1 + 1); omega, by show ((wm_pt (20 + J 4 k) (wm_pi (20 + J 4 k) s (J 3 k - 1 - d).toNat)).1 + 1) ≤ 199; omega⟩ ⟨by omega, by omega⟩ ⟨by omega, by omega⟩ rfl rfl rfl (fun hn114 Tn114 jn114 Rn114 => ?_)
      show sv_G Q 259 309 lv104 [] hn114
      refine wk_iinc wm_259 wd_259_309 (by decide +kernel) (by decide) l109 (fun lv115 s116 => ?_)
      have l117 := s116.2 0 _ l106 (by decide) (Or.inl rfl)
      have l118 := s116.2 1 _ l107 (by decide) (Or.inl rfl)
      have l119 := s116.2 4 _ l108 (by decide) (Or.inl rfl)
      have l120 := s116.2 6 _ l110 (by decide) (Or.inl rfl)
      have l121 := s116.2 7 _ l111 (by decide) (Or.inl rfl)
      have l122 := s116.2 8 _ l112 (by decide) (Or.inl rfl)
      have l123 := s116.1
      refine wk_iinc wm_259 wd_259_312 (by decide +kernel) (by decide) l121 (fun lv124 s125 => ?_)
      have l126 := s125.2 0 _ l117 (by decide) (Or.inl rfl)
      have l127 := s125.2 1 _ l118 (by decide) (Or.inl rfl)
      have l128 := s125.2 4 _ l119 (by decide) (Or.inl rfl)
      have l129 := s125.2 5 _ l123 (by decide) (Or.inl rfl)
      have l130 := s125.2 6 _ l120 (by decide) (Or.inl rfl)
      have l131 := s125.2 8 _ l122 (by decide) (Or.inl rfl)
      have l132 := s125.1
      refine wk_goto 251 wm_259 wd_259_315 (by decide) ?_
      have R9 : wm_R hn114 k0 (wm_pi (20 + J 4 k) s (J 3 k - 1 - (d + (-1))).toNat) := by
        rw [show (J 3 k - 1 - (d + (-1))).toNat = (J 3 k - 1 - d).toNat + 1 by omega]
        show wm_R hn114 k0 (wm_n 2 (wm_pt (20 + J 4 k) (wm_pi (20 + J 4 k) s (J 3 k - 1 - d).toNat)))
        rw [show (2 : Int) = 1 + 1 from rfl, ← wm_n_n]; exact Rn114
      exact ih lv124 hn114 (d + (-1)) Tn114 jn114 R9 l126 l127 l128 (by rw [show bar0 + (J 3 k - 1 - (d + (-1))) = bar0 + (J 3 k - 1 - d) + 1 by omega]; exact l129) l130 l132 (by omega) (by omega)
theorem wm_217 {mods : List (Nat × Nat)} {h0 : ae_H} {Q : ae_R → Prop} {k0 : Nat} {set : Int} {J : Nat → Int → Int} (m1 : (98, 0) ∈ mods) (m2 : (12, 79) ∈ mods) (m3 : (99, 0) ∈ mods) (m4 : (100, 0) ∈ mods) (m5 : (12, 80) ∈ mods) (m6 : (12, 81) ∈ mods) (t0 : sv_ty k0 = some 12) (hset : 0 ≤ set ∧ set ≤ 255) {c : Int} {s : wm_S} (hc : J 1 0 = c ∧ 0 ≤ c ∧ c ≤ 8) (hmb : wm_mb set 8 ≤ 4) (hdg : wm_dg J set c.toNat ≤ 12) (es : s = wm_s1 J set) (hs : 0 ≤ s.1 ∧ s.1 - s.2.1 ≤ 101) (g : ∀ h2 x n, sv_Tk sv_ty sv_tt mods h0 h2 → wm_J h2 = J → wk_F h2 k0 79 = some (wk_i n) → (0 ≤ n ∧ n ≤ 200) → (x = 0 ∨ x = 1) → (x = 1 → wm_fit J set) → (wm_fit J set → n ≤ 60) → Q (some (wk_i x), h2)) :
    ∀ (m : Nat) (lv : ae_L) (h : ae_H) (k : Int), sv_Tk sv_ty sv_tt mods h0 h → (wm_J h = J) → (wm_R h k0 (wm_p1 J set s k.toNat)) → (0 ≤ (wm_p1 J set s k.toNat).1 ∧ (wm_p1 J set s k.toNat).1 - (wm_p1 J set s k.toNat).2.1 ≤ 101 + 2 * wm_dg J set k.toNat + wm_mb set k.toNat) → (ae_lk lv 0 = some (wk_r k0)) → (ae_lk lv 1 = some (wk_i set)) → (ae_lk lv 4 = some (wk_i (wm_mb set k.toNat))) → (ae_lk lv 5 = some (wk_i (wm_dg J set k.toNat))) → (ae_lk lv 6 = some (wk_i k)) → (0 ≤ k ∧ k ≤ c) → (c - k ≤ m) → sv_G Q 259 217 lv [] h := by
  intro m
  induction m with
  | zero =>
    intro lv h k T hJ hR hn l0 l1 l4 l5 l6 hk hm
    obtain ⟨k133, f134, y135⟩ := wk_ref (j := 66) T.1 t0 tT_12 rfl
    rw [tU_92 y135 tA_92] at f134
    obtain ⟨k136, f137, y138⟩ := wk_ref (j := 68) T.1 t0 tT_12 rfl
    rw [tU_94 y138 tA_94] at f137
    refine wk_iload wm_259 wd_259_217 l6 ?_
    refine wk_aload_n wm_259 wd_259_219 l0 ?_
    refine wk_getf wm_259 wd_259_220 (by decide +kernel) T.1 t0 tT_12 f134 ?_
    refine wk_iconst wm_259 wd_259_223 (by decide) ?_
    refine wk_iald wm_259 wd_259_224 sv_ty_lt T.1 tA_92 tT_92 (by decide) ⟨by omega, by omega⟩ (fun q139 q140 => ?_)
    have ec : wk_R h 155 0 = J 1 0 := by rw [← hJ, wm_J_at (by omega)]; rfl
    refine wk_icmp 349 wm_259 wd_259_225 (by decide) (by unfold sv_I; omega) (by unfold sv_I; omega) (fun c141 => ?_) (fun c141 => ?_)
    · have c141 : (k : Int) ≥ (wk_R h 155 0) := c141
      have ek : k.toNat = c.toNat := by omega
      have ea : wm_p1 J set s k.toNat = wm_all J set := by unfold wm_all; rw [es, ek, hc.1]
      rw [ea] at hR hn
      have F9 := hR.1
      obtain ⟨x142, f143, i144, i145, i146⟩ := wk_int (j := 81) T.1 t0 tT_12 rfl
      unfold sv_I at i144
      have hJ3 : ∀ z : Int, 0 ≤ z → z < c.toNat → 0 ≤ J 3 z := fun z a b => by
        rw [← hJ, wm_J_at a]; exact (wk_rng (i := z) T.1 tA_94 tT_94 ⟨a, by omega⟩).1
      have b2 := wm_dg_le (J := J) (set := set) hJ3 (m := k.toNat) (n := c.toNat) (by omega) (Nat.le_refl _)
      have b1 := wm_mb_le set (m := k.toNat) (n := 8) (by omega)
      have hm4 := hR.2.2.1
      refine wk_aload_n wm_259 wd_259_349 l0 ?_
      refine wk_getf wm_259 wd_259_350 (by decide +kernel) T.1 t0 tT_12 f143 ?_
      refine wk_if 369 wm_259 wd_259_353 (by decide) (by unfold sv_I; omega) (fun c147 => ?_) (fun c147 => ?_)
      · have c147 : (x142 : Int) ≠ 0 := c147
        refine wk_iconst wm_259 wd_259_369 (by decide) ?_
        refine wk_zreturn wm_259 wd_259_370 rfl (by omega) ?_
        exact g _ _ _ T hJ F9 ⟨by omega, by omega⟩ (by omega) (fun z => absurd z (by decide)) (fun z => z.2)
      · have c147 : ¬ ((x142 : Int) ≠ 0) := c147
        refine wk_aload_n wm_259 wd_259_356 l0 ?_
        refine wk_getf wm_259 wd_259_357 (by decide +kernel) T.1 t0 tT_12 F9 ?_
        refine wk_bipush wm_259 wd_259_360 (by decide) ?_
        refine wk_icmp 369 wm_259 wd_259_362 (by decide) (by unfold sv_I; omega) (by unfold sv_I; omega) (fun c148 => ?_) (fun c148 => ?_)
        · have c148 : ((wm_all J set).1 : Int) > 60 := c148
          refine wk_iconst wm_259 wd_259_369 (by decide) ?_
          refine wk_zreturn wm_259 wd_259_370 rfl (by omega) ?_
          exact g _ _ _ T hJ F9 ⟨by omega, by omega⟩ (by omega) (fun z => absurd z (by decide)) (fun z => z.2)
        · have c148 : ¬ (((wm_all J set).1 : Int) > 60) := c148
          refine wk_iconst wm_259 wd_259_365 (by decide) ?_
          refine wk_goto 370 wm_259 wd_259_366 (by decide) ?_
          refine wk_zreturn wm_259 wd_259_370 rfl (by omega) ?_
          exact g _ _ _ T hJ F9 ⟨by omega, by omega⟩ (by omega) (fun _ => ⟨by rw [hc.1]; exact hdg, by omega⟩) (fun z => z.2)
    · have c141 : ¬ ((k : Int) ≥ (wk_R h 155 0)) := c141
      exfalso; omega
  | succ m ih =>
    intro lv h k T hJ hR hn l0 l1 l4 l5 l6 hk hm
    obtain ⟨k149, f150, y151⟩ := wk_ref (j := 66) T.1 t0 tT_12 rfl
    rw [tU_92 y151 tA_92] at f150
    obtain ⟨k152, f153, y154⟩ := wk_ref (j := 68) T.1 t0 tT_12 rfl
    rw [tU_94 y154 tA_94] at f153
    refine wk_iload wm_259 wd_259_217 l6 ?_
    refine wk_aload_n wm_259 wd_259_219 l0 ?_
    refine wk_getf wm_259 wd_259_220 (by decide +kernel) T.1 t0 tT_12 f150 ?_
    refine wk_iconst wm_259 wd_259_223 (by decide) ?_
    refine wk_iald wm_259 wd_259_224 sv_ty_lt T.1 tA_92 tT_92 (by decide) ⟨by omega, by omega⟩ (fun q155 q156 => ?_)
    have ec : wk_R h 155 0 = J 1 0 := by rw [← hJ, wm_J_at (by omega)]; rfl
    refine wk_icmp 349 wm_259 wd_259_225 (by decide) (by unfold sv_I; omega) (by unfold sv_I; omega) (fun c157 => ?_) (fun c157 => ?_)
    · have c157 : (k : Int) ≥ (wk_R h 155 0) := c157
      have ek : k.toNat = c.toNat := by omega
      have ea : wm_p1 J set s k.toNat = wm_all J set := by unfold wm_all; rw [es, ek, hc.1]
      rw [ea] at hR hn
      have F9 := hR.1
      obtain ⟨x158, f159, i160, i161, i162⟩ := wk_int (j := 81) T.1 t0 tT_12 rfl
      unfold sv_I at i160
      have hJ3 : ∀ z : Int, 0 ≤ z → z < c.toNat → 0 ≤ J 3 z := fun z a b => by
        rw [← hJ, wm_J_at a]; exact (wk_rng (i := z) T.1 tA_94 tT_94 ⟨a, by omega⟩).1
      have b2 := wm_dg_le (J := J) (set := set) hJ3 (m := k.toNat) (n := c.toNat) (by omega) (Nat.le_refl _)
      have b1 := wm_mb_le set (m := k.toNat) (n := 8) (by omega)
      have hm4 := hR.2.2.1
      refine wk_aload_n wm_259 wd_259_349 l0 ?_
      refine wk_getf wm_259 wd_259_350 (by decide +kernel) T.1 t0 tT_12 f159 ?_
      refine wk_if 369 wm_259 wd_259_353 (by decide) (by unfold sv_I; omega) (fun c163 => ?_) (fun c163 => ?_)
      · have c163 : (x158 : Int) ≠ 0 := c163
        refine wk_iconst wm_259 wd_259_369 (by decide) ?_
        refine wk_zreturn wm_259 wd_259_370 rfl (by omega) ?_
        exact g _ _ _ T hJ F9 ⟨by omega, by omega⟩ (by omega) (fun z => absurd z (by decide)) (fun z => z.2)
      · have c163 : ¬ ((x158 : Int) ≠ 0) := c163
        refine wk_aload_n wm_259 wd_259_356 l0 ?_
        refine wk_getf wm_259 wd_259_357 (by decide +kernel) T.1 t0 tT_12 F9 ?_
        refine wk_bipush wm_259 wd_259_360 (by decide) ?_
        refine wk_icmp 369 wm_259 wd_259_362 (by decide) (by unfold sv_I; omega) (by unfold sv_I; omega) (fun c164 => ?_) (fun c164 => ?_)
        · have c164 : ((wm_all J set).1 : Int) > 60 := c164
          refine wk_iconst wm_259 wd_259_369 (by decide) ?_
          refine wk_zreturn wm_259 wd_259_370 rfl (by omega) ?_
          exact g _ _ _ T hJ F9 ⟨by omega, by omega⟩ (by omega) (fun z => absurd z (by decide)) (fun z => z.2)
        · have c164 : ¬ (((wm_all J set).1 : Int) > 60) := c164
          refine wk_iconst wm_259 wd_259_365 (by decide) ?_
          refine wk_goto 370 wm_259 wd_259_366 (by decide) ?_
          refine wk_zreturn wm_259 wd_259_370 rfl (by omega) ?_
          exact g _ _ _ T hJ F9 ⟨by omega, by omega⟩ (by omega) (fun _ => ⟨by rw [hc.1]; exact hdg, by omega⟩) (fun z => z.2)
    · have c157 : ¬ ((k : Int) ≥ (wk_R h 155 0)) := c157
      refine wk_iload_n wm_259 wd_259_228 l1 ?_
      refine wk_iload wm_259 wd_259_229 l6 ?_
      refine wk_ishr wm_259 wd_259_231 ⟨by omega, by omega⟩ ⟨by omega, by omega⟩ ?_
      refine wk_iconst wm_259 wd_259_232 (by decide) ?_
      refine wk_iand wm_259 wd_259_233 ?_
      have eb := wm_bt_eq (set := set) (k := k) ⟨by omega, by omega⟩
      have eb1 := wm_bt01 set k
      refine wk_if 240 wm_259 wd_259_234 (by decide) (by unfold sv_I; omega) (fun c165 => ?_) (fun c165 => ?_)
      · have c165 : ((sv_g (sv_u (((set).toNat >>> (k).toNat : Nat) : Int) &&& sv_u 1)) : Int) ≠ 0 := c165
        have q1 : wm_bt set k = 1 := by omega
        refine wk_aload_n wm_259 wd_259_240 l0 ?_
        refine wk_getf wm_259 wd_259_241 (by decide +kernel) T.1 t0 tT_12 f153 ?_
        refine wk_iload wm_259 wd_259_244 l6 ?_
        refine wk_iald wm_259 wd_259_246 sv_ty_lt T.1 tA_94 tT_94 (by decide) ⟨by omega, by omega⟩ (fun q166 q167 => ?_)
        have e3 : wk_R h 157 k = J 3 k := by rw [← hJ, wm_J_at (by omega)]; rfl
        refine wk_iconst wm_259 wd_259_247 (by decide) ?_
        refine wk_isub wm_259 wd_259_248 ?_
        refine wk_istore wm_259 wd_259_249 (by decide +kernel) (fun lv168 s169 => ?_)
        have l170 := s169.2 0 _ l0 (by decide) (Or.inl rfl)
        have l171 := s169.2 1 _ l1 (by decide) (Or.inl rfl)
        have l172 := s169.2 4 _ l4 (by decide) (Or.inl rfl)
        have l173 := s169.2 5 _ l5 (by decide) (Or.inl rfl)
        have l174 := s169.2 6 _ l6 (by decide) (Or.inl rfl)
        have l175 := s169.1
        have hJ3 : ∀ z : Int, 0 ≤ z → z < c.toNat → 0 ≤ J 3 z := fun z a b => by
          rw [← hJ, wm_J_at a]; exact (wk_rng (i := z) T.1 tA_94 tT_94 ⟨a, by omega⟩).1
        have h4 : 0 ≤ J 4 k ∧ J 4 k ≤ 3 := by
          rw [← hJ, wm_J_at hk.1]; have q := wk_rng (i := k) T.1 tA_95 tT_95 ⟨hk.1, by omega⟩; exact ⟨q.1, q.2.1⟩
        have b1 := wm_mb_le set (m := k.toNat + 1) (n := 8) (by omega)
        have b1 : wm_mb set k.toNat + wm_bt set ((k.toNat : Nat) : Int) ≤ wm_mb set 8 := b1
        rw [Int.toNat_of_nonneg hk.1] at b1
        have b0 := wm_mb_0 set k.toNat
        have b2 := wm_dg_le (J := J) (set := set) hJ3 (m := k.toNat + 1) (n := c.toNat) (by omega) (Nat.le_refl _)
        have b2 : wm_dg J set k.toNat + (if wm_bt set ((k.toNat : Nat) : Int) = 1 then J 3 ((k.toNat : Nat) : Int) else 0) ≤ wm_dg J set c.toNat := b2
        rw [Int.toNat_of_nonneg hk.1, if_pos q1] at b2
        have b3 := wm_dg_le (J := J) (set := set) hJ3 (m := 0) (n := k.toNat) (by omega) (by omega)
        have b3 : 0 ≤ wm_dg J set k.toNat := b3
        have e1 : wm_p1 J set s (k + 1).toNat = wm_n 1 (wm_pi (20 + J 4 k) (wm_p1 J set s k.toNat) (J 3 k).toNat) := by
          rw [show (k + 1).toNat = k.toNat + 1 by omega]
          show (if wm_bt set ((k.toNat : Nat) : Int) = 1 then wm_n 1 (wm_pi (20 + J 4 ((k.toNat : Nat) : Int)) (wm_p1 J set s k.toNat) (J 3 ((k.toNat : Nat) : Int)).toNat) else _) = _
          rw [Int.toNat_of_nonneg hk.1, if_pos q1]
        have e2 : wm_mb set (k + 1).toNat = wm_mb set k.toNat + 1 := by
          rw [show (k + 1).toNat = k.toNat + 1 by omega]
          show wm_mb set k.toNat + wm_bt set ((k.toNat : Nat) : Int) = _
          rw [Int.toNat_of_nonneg hk.1]; omega
        have e4 : wm_dg J set (k + 1).toNat = wm_dg J set k.toNat + J 3 k := by
          rw [show (k + 1).toNat = k.toNat + 1 by omega]
          show wm_dg J set k.toNat + (if wm_bt set ((k.toNat : Nat) : Int) = 1 then J 3 ((k.toNat : Nat) : Int) else 0) = _
          rw [Int.toNat_of_nonneg hk.1, if_pos q1]
        have pn := wm_pi_n (20 + J 4 k) (wm_p1 J set s k.toNat) (J 3 k).toNat
        refine wm_251 m1 m2 m3 m4 m5 m6 t0 hset (k := k) (v := wm_mb set k.toNat) (bar0 := wm_dg J set k.toNat) (s := wm_p1 J set s k.toNat) ⟨hk.1, by omega⟩ ⟨by omega, by omega⟩ ⟨by omega, by omega⟩ ⟨by omega, by omega⟩ ⟨by omega, by omega⟩ h4 (fun lv2 h2 T2 j2 R2 a0 a1 a4 a5 a6 => ?_) 6 lv168 h (J 3 k - 1) T hJ (by rw [show (J 3 k - 1 - (J 3 k - 1)).toNat = 0 by omega]; exact hR) l170 l171 l172 (by rw [show wm_dg J set k.toNat + (J 3 k - 1 - (J 3 k - 1)) = wm_dg J set k.toNat by omega]; exact l173) l174 (by rw [← e3]; exact l175) ⟨by omega, by omega⟩ (by omega)
        refine wk_iinc wm_259 wd_259_343 (by decide +kernel) (by decide) a6 (fun lv176 s177 => ?_)
        have l178 := s177.2 0 _ a0 (by decide) (Or.inl rfl)
        have l179 := s177.2 1 _ a1 (by decide) (Or.inl rfl)
        have l180 := s177.2 4 _ a4 (by decide) (Or.inl rfl)
        have l181 := s177.2 5 _ a5 (by decide) (Or.inl rfl)
        have l182 := s177.1
        refine wk_goto 217 wm_259 wd_259_346 (by decide) ?_
        exact ih lv176 h2 (k + 1) T2 j2 (by rw [e1]; exact R2) ⟨by rw [e1]; show 0 ≤ _ + 1; omega, by rw [e1, e2, e4]; show _ + 1 - (wm_pi (20 + J 4 k) (wm_p1 J set s k.toNat) (J 3 k).toNat).2.1 ≤ _; omega⟩ l178 l179 (by rw [e2]; exact l180) (by rw [e4]; exact l181) l182 (by omega) (by omega)
      · have c165 : ¬ (((sv_g (sv_u (((set).toNat >>> (k).toNat : Nat) : Int) &&& sv_u 1)) : Int) ≠ 0) := c165
        have q0 : wm_bt set k = 0 := by omega
        have e1 : wm_p1 J set s (k + 1).toNat = wm_p1 J set s k.toNat := by
          rw [show (k + 1).toNat = k.toNat + 1 by omega]
          show (if wm_bt set ((k.toNat : Nat) : Int) = 1 then _ else _) = _
          rw [Int.toNat_of_nonneg hk.1, if_neg (by omega)]
        have e2 : wm_mb set (k + 1).toNat = wm_mb set k.toNat := by
          rw [show (k + 1).toNat = k.toNat + 1 by omega]
          show wm_mb set k.toNat + wm_bt set ((k.toNat : Nat) : Int) = _
          rw [Int.toNat_of_nonneg hk.1]; omega
        have e3 : wm_dg J set (k + 1).toNat = wm_dg J set k.toNat := by
          rw [show (k + 1).toNat = k.toNat + 1 by omega]
          show wm_dg J set k.toNat + (if wm_bt set ((k.toNat : Nat) : Int) = 1 then _ else _) = _
          rw [Int.toNat_of_nonneg hk.1, if_neg (by omega)]; omega
        refine wk_goto 343 wm_259 wd_259_237 (by decide) ?_
        refine wk_iinc wm_259 wd_259_343 (by decide +kernel) (by decide) l6 (fun lv183 s184 => ?_)
        have l185 := s184.2 0 _ l0 (by decide) (Or.inl rfl)
        have l186 := s184.2 1 _ l1 (by decide) (Or.inl rfl)
        have l187 := s184.2 4 _ l4 (by decide) (Or.inl rfl)
        have l188 := s184.2 5 _ l5 (by decide) (Or.inl rfl)
        have l189 := s184.1
        refine wk_goto 217 wm_259 wd_259_346 (by decide) ?_
        exact ih lv183 h (k + 1) T hJ (by rw [e1]; exact hR) (by rw [e1, e2, e3]; exact hn) l185 l186 (by rw [e2]; exact l187) (by rw [e3]; exact l188) l189 (by omega) (by omega)
theorem wm_168 {mods : List (Nat × Nat)} {h0 : ae_H} {Q : ae_R → Prop} {k0 : Nat} {set : Int} {J : Nat → Int → Int} (m1 : (98, 0) ∈ mods) (m2 : (12, 79) ∈ mods) (m3 : (99, 0) ∈ mods) (m4 : (100, 0) ∈ mods) (m5 : (12, 80) ∈ mods) (m6 : (12, 81) ∈ mods) (t0 : sv_ty k0 = some 12) (hset : 0 ≤ set ∧ set ≤ 255) {c : Int} {s : wm_S} (hc : J 1 0 = c ∧ 0 ≤ c ∧ c ≤ 8) (hmb : wm_mb set 8 ≤ 4) (hdg : wm_dg J set c.toNat ≤ 12) (es : s = wm_n (wm_br J 3) wm_z) (hs : 0 ≤ s.1 ∧ s.1 - s.2.1 ≤ 9) (h6 : ∀ k, 0 ≤ k → k < c → 0 ≤ J 2 k → J 7 (J 2 k) ≤ 20 ∧ 1 ≤ J 6 (J 2 k)) (g : ∀ h2 x n, sv_Tk sv_ty sv_tt mods h0 h2 → wm_J h2 = J → wk_F h2 k0 79 = some (wk_i n) → (0 ≤ n ∧ n ≤ 200) → (x = 0 ∨ x = 1) → (x = 1 → wm_fit J set) → (wm_fit J set → n ≤ 60) → Q (some (wk_i x), h2)) :
    ∀ (m : Nat) (lv : ae_L) (h : ae_H) (k : Int), sv_Tk sv_ty sv_tt mods h0 h → (wm_J h = J) → (wm_R h k0 (wm_a1 J set s k.toNat)) → (0 ≤ (wm_a1 J set s k.toNat).1 ∧ (wm_a1 J set s k.toNat).1 - (wm_a1 J set s k.toNat).2.1 ≤ 9 + 23 * wm_mb set k.toNat) → (ae_lk lv 0 = some (wk_r k0)) → (ae_lk lv 1 = some (wk_i set)) → (ae_lk lv 4 = some (wk_i (wm_mb set k.toNat))) → (ae_lk lv 5 = some (wk_i k)) → (0 ≤ k ∧ k ≤ c) → (c - k ≤ m) → sv_G Q 259 168 lv [] h := by
  intro m
  induction m with
  | zero =>
    intro lv h k T hJ hR hn l0 l1 l4 l5 hk hm
    obtain ⟨k190, f191, y192⟩ := wk_ref (j := 66) T.1 t0 tT_12 rfl
    rw [tU_92 y192 tA_92] at f191
    refine wk_iload wm_259 wd_259_168 l5 ?_
    refine wk_aload_n wm_259 wd_259_170 l0 ?_
    refine wk_getf wm_259 wd_259_171 (by decide +kernel) T.1 t0 tT_12 f191 ?_
    refine wk_iconst wm_259 wd_259_174 (by decide) ?_
    refine wk_iald wm_259 wd_259_175 sv_ty_lt T.1 tA_92 tT_92 (by decide) ⟨by omega, by omega⟩ (fun q193 q194 => ?_)
    have ec : wk_R h 155 0 = J 1 0 := by rw [← hJ, wm_J_at (by omega)]; rfl
    refine wk_icmp 208 wm_259 wd_259_176 (by decide) (by unfold sv_I; omega) (by unfold sv_I; omega) (fun c195 => ?_) (fun c195 => ?_)
    · have c195 : (k : Int) ≥ (wk_R h 155 0) := c195
      refine wk_iconst wm_259 wd_259_208 (by decide) ?_
      refine wk_istore wm_259 wd_259_209 (by decide +kernel) (fun lv196 s197 => ?_)
      have l198 := s197.2 0 _ l0 (by decide) (Or.inl rfl)
      have l199 := s197.2 1 _ l1 (by decide) (Or.inl rfl)
      have l200 := s197.2 5 _ l5 (by decide) (Or.inl rfl)
      have l201 := s197.1
      refine wk_iconst wm_259 wd_259_211 (by decide) ?_
      refine wk_istore wm_259 wd_259_212 (by decide +kernel) (fun lv202 s203 => ?_)
      have l204 := s203.2 0 _ l198 (by decide) (Or.inl rfl)
      have l205 := s203.2 1 _ l199 (by decide) (Or.inl rfl)
      have l206 := s203.2 4 _ l201 (by decide) (Or.inl rfl)
      have l207 := s203.1
      refine wk_iconst wm_259 wd_259_214 (by decide) ?_
      refine wk_istore wm_259 wd_259_215 (by decide +kernel) (fun lv208 s209 => ?_)
      have l210 := s209.2 0 _ l204 (by decide) (Or.inl rfl)
      have l211 := s209.2 1 _ l205 (by decide) (Or.inl rfl)
      have l212 := s209.2 4 _ l206 (by decide) (Or.inl rfl)
      have l213 := s209.2 5 _ l207 (by decide) (Or.inl rfl)
      have l214 := s209.1
      have ek : k.toNat = c.toNat := by omega
      have ea : wm_a1 J set s k.toNat = wm_s1 J set := by unfold wm_s1; rw [es, ek, hc.1]
      have b1 := wm_mb_le set (m := k.toNat) (n := 8) (by omega)
      exact wm_217 m1 m2 m3 m4 m5 m6 t0 hset hc hmb hdg ea ⟨by omega, by omega⟩ g 8 lv208 h 0 T hJ hR ⟨by show 0 ≤ (wm_a1 J set s k.toNat).1; omega, by show (wm_a1 J set s k.toNat).1 - (wm_a1 J set s k.toNat).2.1 ≤ 101 + 2 * 0 + 0; omega⟩ l210 l211 l212 l213 l214 (by omega) (by omega)
    · have c195 : ¬ ((k : Int) ≥ (wk_R h 155 0)) := c195
      exfalso; omega
  | succ m ih =>
    intro lv h k T hJ hR hn l0 l1 l4 l5 hk hm
    obtain ⟨k215, f216, y217⟩ := wk_ref (j := 66) T.1 t0 tT_12 rfl
    rw [tU_92 y217 tA_92] at f216
    refine wk_iload wm_259 wd_259_168 l5 ?_
    refine wk_aload_n wm_259 wd_259_170 l0 ?_
    refine wk_getf wm_259 wd_259_171 (by decide +kernel) T.1 t0 tT_12 f216 ?_
    refine wk_iconst wm_259 wd_259_174 (by decide) ?_
    refine wk_iald wm_259 wd_259_175 sv_ty_lt T.1 tA_92 tT_92 (by decide) ⟨by omega, by omega⟩ (fun q218 q219 => ?_)
    have ec : wk_R h 155 0 = J 1 0 := by rw [← hJ, wm_J_at (by omega)]; rfl
    refine wk_icmp 208 wm_259 wd_259_176 (by decide) (by unfold sv_I; omega) (by unfold sv_I; omega) (fun c220 => ?_) (fun c220 => ?_)
    · have c220 : (k : Int) ≥ (wk_R h 155 0) := c220
      refine wk_iconst wm_259 wd_259_208 (by decide) ?_
      refine wk_istore wm_259 wd_259_209 (by decide +kernel) (fun lv221 s222 => ?_)
      have l223 := s222.2 0 _ l0 (by decide) (Or.inl rfl)
      have l224 := s222.2 1 _ l1 (by decide) (Or.inl rfl)
      have l225 := s222.2 5 _ l5 (by decide) (Or.inl rfl)
      have l226 := s222.1
      refine wk_iconst wm_259 wd_259_211 (by decide) ?_
      refine wk_istore wm_259 wd_259_212 (by decide +kernel) (fun lv227 s228 => ?_)
      have l229 := s228.2 0 _ l223 (by decide) (Or.inl rfl)
      have l230 := s228.2 1 _ l224 (by decide) (Or.inl rfl)
      have l231 := s228.2 4 _ l226 (by decide) (Or.inl rfl)
      have l232 := s228.1
      refine wk_iconst wm_259 wd_259_214 (by decide) ?_
      refine wk_istore wm_259 wd_259_215 (by decide +kernel) (fun lv233 s234 => ?_)
      have l235 := s234.2 0 _ l229 (by decide) (Or.inl rfl)
      have l236 := s234.2 1 _ l230 (by decide) (Or.inl rfl)
      have l237 := s234.2 4 _ l231 (by decide) (Or.inl rfl)
      have l238 := s234.2 5 _ l232 (by decide) (Or.inl rfl)
      have l239 := s234.1
      have ek : k.toNat = c.toNat := by omega
      have ea : wm_a1 J set s k.toNat = wm_s1 J set := by unfold wm_s1; rw [es, ek, hc.1]
      have b1 := wm_mb_le set (m := k.toNat) (n := 8) (by omega)
      exact wm_217 m1 m2 m3 m4 m5 m6 t0 hset hc hmb hdg ea ⟨by omega, by omega⟩ g 8 lv233 h 0 T hJ hR ⟨by show 0 ≤ (wm_a1 J set s k.toNat).1; omega, by show (wm_a1 J set s k.toNat).1 - (wm_a1 J set s k.toNat).2.1 ≤ 101 + 2 * 0 + 0; omega⟩ l235 l236 l237 l238 l239 (by omega) (by omega)
    · have c220 : ¬ ((k : Int) ≥ (wk_R h 155 0)) := c220
      refine wk_iload_n wm_259 wd_259_179 l1 ?_
      refine wk_iload wm_259 wd_259_180 l5 ?_
      refine wk_ishr wm_259 wd_259_182 ⟨by omega, by omega⟩ ⟨by omega, by omega⟩ ?_
      refine wk_iconst wm_259 wd_259_183 (by decide) ?_
      refine wk_iand wm_259 wd_259_184 ?_
      have eb := wm_bt_eq (set := set) (k := k) ⟨by omega, by omega⟩
      have eb1 := wm_bt01 set k
      refine wk_if 191 wm_259 wd_259_185 (by decide) (by unfold sv_I; omega) (fun c240 => ?_) (fun c240 => ?_)
      · have c240 : ((sv_g (sv_u (((set).toNat >>> (k).toNat : Nat) : Int) &&& sv_u 1)) : Int) ≠ 0 := c240
        have q1 : wm_bt set k = 1 := by omega
        have e1 : wm_a1 J set s (k + 1).toNat = wm_ad J k (wm_a1 J set s k.toNat) := by
          rw [show (k + 1).toNat = k.toNat + 1 by omega]
          show (if wm_bt set ((k.toNat : Nat) : Int) = 1 then wm_ad J ((k.toNat : Nat) : Int) (wm_a1 J set s k.toNat) else _) = _
          rw [Int.toNat_of_nonneg hk.1, if_pos q1]
        have e2 : wm_mb set (k + 1).toNat = wm_mb set k.toNat + 1 := by
          rw [show (k + 1).toNat = k.toNat + 1 by omega]
          show wm_mb set k.toNat + wm_bt set ((k.toNat : Nat) : Int) = _
          rw [Int.toNat_of_nonneg hk.1]; omega
        have b1 := wm_mb_le set (m := (k + 1).toNat) (n := 8) (by omega)
        have b0 := wm_mb_0 set k.toNat
        have hm4 := hR.2.2.1
        have an := wm_ad_n (h6 k hk.1 (by omega)) (wm_a1 J set s k.toNat)
        have hn2 : 0 ≤ (wm_a1 J set s (k + 1).toNat).1 ∧ (wm_a1 J set s (k + 1).toNat).1 - (wm_a1 J set s (k + 1).toNat).2.1 ≤ 9 + 23 * wm_mb set (k + 1).toNat := by rw [e1, e2]; omega
        refine wk_aload_n wm_259 wd_259_191 l0 ?_
        refine wk_iload wm_259 wd_259_192 l5 ?_
        refine wk_iload wm_259 wd_259_194 l4 ?_
        refine wk_call (Or.inr ⟨rfl, rfl⟩) wm_259 wd_259_196 (by decide +kernel) wm_260 (by decide +kernel) rfl rfl (wk_rcv T.1 t0 tT_12) ?_
        refine wm_addends m1 m2 m3 m4 m5 m6 t0 ⟨by omega, by omega⟩ ⟨by omega, by omega⟩ T hJ hR ⟨by omega, by omega⟩ (fun z => (h6 k hk.1 (by omega) z).2) rfl rfl rfl (fun h5 T5 j5 R5 => ?_)
        show sv_G Q 259 199 lv [] h5
        refine wk_iinc wm_259 wd_259_199 (by decide +kernel) (by decide) l4 (fun lv241 s242 => ?_)
        have l243 := s242.2 0 _ l0 (by decide) (Or.inl rfl)
        have l244 := s242.2 1 _ l1 (by decide) (Or.inl rfl)
        have l245 := s242.2 5 _ l5 (by decide) (Or.inl rfl)
        have l246 := s242.1
        refine wk_iinc wm_259 wd_259_202 (by decide +kernel) (by decide) l245 (fun lv247 s248 => ?_)
        have l249 := s248.2 0 _ l243 (by decide) (Or.inl rfl)
        have l250 := s248.2 1 _ l244 (by decide) (Or.inl rfl)
        have l251 := s248.2 4 _ l246 (by decide) (Or.inl rfl)
        have l252 := s248.1
        refine wk_goto 168 wm_259 wd_259_205 (by decide) ?_
        exact ih lv247 h5 (k + 1) T5 j5 (by rw [e1]; exact R5) hn2 l249 l250 (by rw [e2]; exact l251) l252 (by omega) (by omega)
      · have c240 : ¬ (((sv_g (sv_u (((set).toNat >>> (k).toNat : Nat) : Int) &&& sv_u 1)) : Int) ≠ 0) := c240
        have q0 : wm_bt set k = 0 := by omega
        have e1 : wm_a1 J set s (k + 1).toNat = wm_a1 J set s k.toNat := by
          rw [show (k + 1).toNat = k.toNat + 1 by omega]
          show (if wm_bt set ((k.toNat : Nat) : Int) = 1 then _ else _) = _
          rw [Int.toNat_of_nonneg hk.1, if_neg (by omega)]
        have e2 : wm_mb set (k + 1).toNat = wm_mb set k.toNat := by
          rw [show (k + 1).toNat = k.toNat + 1 by omega]
          show wm_mb set k.toNat + wm_bt set ((k.toNat : Nat) : Int) = _
          rw [Int.toNat_of_nonneg hk.1]; omega
        have hn2 := hn
        rw [← e1, ← e2] at hn2
        refine wk_goto 202 wm_259 wd_259_188 (by decide) ?_
        refine wk_iinc wm_259 wd_259_202 (by decide +kernel) (by decide) l5 (fun lv253 s254 => ?_)
        have l255 := s254.2 0 _ l0 (by decide) (Or.inl rfl)
        have l256 := s254.2 1 _ l1 (by decide) (Or.inl rfl)
        have l257 := s254.2 4 _ l4 (by decide) (Or.inl rfl)
        have l258 := s254.1
        refine wk_goto 168 wm_259 wd_259_205 (by decide) ?_
        exact ih lv253 h (k + 1) T hJ (by rw [e1]; exact hR) hn2 l255 l256 (by rw [e2]; exact l257) l258 (by omega) (by omega)
theorem wm_79 {mods : List (Nat × Nat)} {h0 : ae_H} {Q : ae_R → Prop} {k0 : Nat} {set : Int} {J : Nat → Int → Int} (m1 : (98, 0) ∈ mods) (m2 : (12, 79) ∈ mods) (m3 : (99, 0) ∈ mods) (m4 : (100, 0) ∈ mods) (m5 : (12, 80) ∈ mods) (m6 : (12, 81) ∈ mods) (t0 : sv_ty k0 = some 12) (hset : 0 ≤ set ∧ set ≤ 255) {c : Int} (hc : J 1 0 = c ∧ 0 ≤ c ∧ c ≤ 8) (hmb : wm_mb set 8 ≤ 4) (hdg : wm_dg J set c.toNat ≤ 12) (h6 : ∀ k, 0 ≤ k → k < c → 0 ≤ J 2 k → J 7 (J 2 k) ≤ 20 ∧ 1 ≤ J 6 (J 2 k)) (g : ∀ h2 x n, sv_Tk sv_ty sv_tt mods h0 h2 → wm_J h2 = J → wk_F h2 k0 79 = some (wk_i n) → (0 ≤ n ∧ n ≤ 200) → (x = 0 ∨ x = 1) → (x = 1 → wm_fit J set) → (wm_fit J set → n ≤ 60) → Q (some (wk_i x), h2)) :
    ∀ (m : Nat) (lv : ae_L) (h : ae_H) (j o : Int), sv_Tk sv_ty sv_tt mods h0 h → (wm_J h = J) → (wm_R h k0 (wm_n (wm_br J o.toNat) wm_z)) → (ae_lk lv 0 = some (wk_r k0)) → (ae_lk lv 1 = some (wk_i set)) → (ae_lk lv 3 = some (wk_i j)) → (ae_lk lv 4 = some (wk_i o)) → (0 ≤ o ∧ o ≤ 3) → (0 ≤ j ∧ j ≤ o) → (3 - o ≤ m) → sv_G Q 259 79 lv [] h := by
  intro m
  induction m with
  | zero =>
    intro lv h j o T hJ hR l0 l1 l3 l4 ho hj hm
    have bn := wm_br_le J o.toNat
    obtain ⟨k259, f260, y261⟩ := wk_ref (j := 65) T.1 t0 tT_12 rfl
    rw [tU_91 y261 tA_91] at f260
    refine wk_iload wm_259 wd_259_79 l4 ?_
    refine wk_iconst wm_259 wd_259_81 (by decide) ?_
    refine wk_icmp 162 wm_259 wd_259_82 (by decide) (by unfold sv_I; omega) (by unfold sv_I; omega) (fun c262 => ?_) (fun c262 => ?_)
    · have c262 : (o : Int) ≥ 3 := c262
      refine wk_iconst wm_259 wd_259_162 (by decide) ?_
      refine wk_istore wm_259 wd_259_163 (by decide +kernel) (fun lv263 s264 => ?_)
      have l265 := s264.2 0 _ l0 (by decide) (Or.inl rfl)
      have l266 := s264.2 1 _ l1 (by decide) (Or.inl rfl)
      have l267 := s264.2 3 _ l3 (by decide) (Or.inl rfl)
      have l268 := s264.1
      refine wk_iconst wm_259 wd_259_165 (by decide) ?_
      refine wk_istore wm_259 wd_259_166 (by decide +kernel) (fun lv269 s270 => ?_)
      have l271 := s270.2 0 _ l265 (by decide) (Or.inl rfl)
      have l272 := s270.2 1 _ l266 (by decide) (Or.inl rfl)
      have l273 := s270.2 3 _ l267 (by decide) (Or.inl rfl)
      have l274 := s270.2 4 _ l268 (by decide) (Or.inl rfl)
      have l275 := s270.1
      have eo : o.toNat = 3 := by omega
      rw [eo] at hR bn
      exact wm_168 m1 m2 m3 m4 m5 m6 t0 hset hc hmb hdg rfl ⟨by show 0 ≤ 0 + wm_br J 3; omega, by show 0 + wm_br J 3 - 0 ≤ 9; omega⟩ h6 g 8 lv269 h 0 T hJ hR ⟨by show 0 ≤ 0 + wm_br J 3; omega, by show 0 + wm_br J 3 - 0 ≤ 9 + 23 * 0; omega⟩ l271 l272 l274 l275 (by omega) (by omega)
    · have c262 : ¬ ((o : Int) ≥ 3) := c262
      exfalso; omega
  | succ m ih =>
    intro lv h j o T hJ hR l0 l1 l3 l4 ho hj hm
    have bn := wm_br_le J o.toNat
    obtain ⟨k276, f277, y278⟩ := wk_ref (j := 65) T.1 t0 tT_12 rfl
    rw [tU_91 y278 tA_91] at f277
    refine wk_iload wm_259 wd_259_79 l4 ?_
    refine wk_iconst wm_259 wd_259_81 (by decide) ?_
    refine wk_icmp 162 wm_259 wd_259_82 (by decide) (by unfold sv_I; omega) (by unfold sv_I; omega) (fun c279 => ?_) (fun c279 => ?_)
    · have c279 : (o : Int) ≥ 3 := c279
      refine wk_iconst wm_259 wd_259_162 (by decide) ?_
      refine wk_istore wm_259 wd_259_163 (by decide +kernel) (fun lv280 s281 => ?_)
      have l282 := s281.2 0 _ l0 (by decide) (Or.inl rfl)
      have l283 := s281.2 1 _ l1 (by decide) (Or.inl rfl)
      have l284 := s281.2 3 _ l3 (by decide) (Or.inl rfl)
      have l285 := s281.1
      refine wk_iconst wm_259 wd_259_165 (by decide) ?_
      refine wk_istore wm_259 wd_259_166 (by decide +kernel) (fun lv286 s287 => ?_)
      have l288 := s287.2 0 _ l282 (by decide) (Or.inl rfl)
      have l289 := s287.2 1 _ l283 (by decide) (Or.inl rfl)
      have l290 := s287.2 3 _ l284 (by decide) (Or.inl rfl)
      have l291 := s287.2 4 _ l285 (by decide) (Or.inl rfl)
      have l292 := s287.1
      have eo : o.toNat = 3 := by omega
      rw [eo] at hR bn
      exact wm_168 m1 m2 m3 m4 m5 m6 t0 hset hc hmb hdg rfl ⟨by show 0 ≤ 0 + wm_br J 3; omega, by show 0 + wm_br J 3 - 0 ≤ 9; omega⟩ h6 g 8 lv286 h 0 T hJ hR ⟨by show 0 ≤ 0 + wm_br J 3; omega, by show 0 + wm_br J 3 - 0 ≤ 9 + 23 * 0; omega⟩ l288 l289 l291 l292 (by omega) (by omega)
    · have c279 : ¬ ((o : Int) ≥ 3) := c279
      refine wk_aload_n wm_259 wd_259_85 l0 ?_
      refine wk_getf wm_259 wd_259_86 (by decide +kernel) T.1 t0 tT_12 f277 ?_
      refine wk_iload wm_259 wd_259_89 l4 ?_
      refine wk_iald wm_259 wd_259_91 sv_ty_lt T.1 tA_91 tT_91 (by decide) ⟨by omega, by omega⟩ (fun q293 q294 => ?_)
      have eb : wk_R h 154 o = J 0 o := by rw [← hJ, wm_J_at (by omega)]; rfl
      refine wk_if 98 wm_259 wd_259_92 (by decide) (by unfold sv_I; omega) (fun c295 => ?_) (fun c295 => ?_)
      · have c295 : ((wk_R h 154 o) : Int) ≠ 0 := c295
        have e1 : wm_br J (o + 1).toNat = wm_br J o.toNat + 1 + 1 + 1 := by
          rw [show (o + 1).toNat = o.toNat + 1 by omega]
          show wm_br J o.toNat + (if J 0 ((o.toNat : Nat) : Int) = 0 then 0 else 3) = _
          rw [Int.toNat_of_nonneg ho.1, if_neg (by omega)]; omega
        refine wk_aload_n wm_259 wd_259_98 l0 ?_
        refine wk_iconst wm_259 wd_259_99 (by decide) ?_
        refine wk_aload_n wm_259 wd_259_100 l0 ?_
        refine wk_getf wm_259 wd_259_101 (by decide +kernel) T.1 t0 tT_12 f277 ?_
        refine wk_iload wm_259 wd_259_104 l4 ?_
        refine wk_iald wm_259 wd_259_106 sv_ty_lt T.1 tA_91 tT_91 (by decide) ⟨by omega, by omega⟩ (fun q296 q297 => ?_)
        refine wk_iadd wm_259 wd_259_107 ?_
        refine wk_iconst wm_259 wd_259_108 (by decide) ?_
        refine wk_isub wm_259 wd_259_109 ?_
        refine wk_sipush wm_259 wd_259_110 (by decide) ?_
        refine wk_iload_n wm_259 wd_259_113 l3 ?_
        refine wk_iadd wm_259 wd_259_114 ?_
        refine wk_call (Or.inr ⟨rfl, rfl⟩) wm_259 wd_259_115 (by decide +kernel) wm_257 (by decide +kernel) rfl rfl (wk_rcv T.1 t0 tT_12) ?_
        refine wm_lay m1 m2 t0 T hJ hR ⟨by show 0 ≤ ((0 : Int) + wm_br J o.toNat); omega, by show ((0 : Int) + wm_br J o.toNat) ≤ 199; omega⟩ ⟨by omega, by omega⟩ ⟨by omega, by omega⟩ rfl rfl rfl (fun hn298 Tn298 jn298 Rn298 => ?_)
        show sv_G Q 259 118 lv [] hn298
        obtain ⟨k299, f300, y301⟩ := wk_ref (j := 65) Tn298.1 t0 tT_12 rfl
        rw [tU_91 y301 tA_91] at f300
        refine wk_aload_n wm_259 wd_259_118 l0 ?_
        refine wk_bipush wm_259 wd_259_119 (by decide) ?_
        refine wk_aload_n wm_259 wd_259_121 l0 ?_
        refine wk_getf wm_259 wd_259_122 (by decide +kernel) Tn298.1 t0 tT_12 f300 ?_
        refine wk_iload wm_259 wd_259_125 l4 ?_
        refine wk_iald wm_259 wd_259_127 sv_ty_lt Tn298.1 tA_91 tT_91 (by decide) ⟨by omega, by omega⟩ (fun q302 q303 => ?_)
        have eb2 : wk_R hn298 154 o = J 0 o := by rw [← jn298, wm_J_at (by omega)]; rfl
        refine wk_iadd wm_259 wd_259_128 ?_
        refine wk_iconst wm_259 wd_259_129 (by decide) ?_
        refine wk_isub wm_259 wd_259_130 ?_
        refine wk_sipush wm_259 wd_259_131 (by decide) ?_
        refine wk_iload_n wm_259 wd_259_134 l3 ?_
        refine wk_iadd wm_259 wd_259_135 ?_
        refine wk_call (Or.inr ⟨rfl, rfl⟩) wm_259 wd_259_136 (by decide +kernel) wm_257 (by decide +kernel) rfl rfl (wk_rcv Tn298.1 t0 tT_12) ?_
        refine wm_lay m1 m2 t0 Tn298 jn298 Rn298 ⟨by show 0 ≤ (((0 : Int) + wm_br J o.toNat) + 1); omega, by show (((0 : Int) + wm_br J o.toNat) + 1) ≤ 199; omega⟩ ⟨by omega, by omega⟩ ⟨by omega, by omega⟩ rfl rfl rfl (fun hn304 Tn304 jn304 Rn304 => ?_)
        show sv_G Q 259 139 lv [] hn304
        obtain ⟨k305, f306, y307⟩ := wk_ref (j := 65) Tn304.1 t0 tT_12 rfl
        rw [tU_91 y307 tA_91] at f306
        refine wk_aload_n wm_259 wd_259_139 l0 ?_
        refine wk_bipush wm_259 wd_259_140 (by decide) ?_
        refine wk_iload_n wm_259 wd_259_142 l3 ?_
        refine wk_iadd wm_259 wd_259_143 ?_
        refine wk_sipush wm_259 wd_259_144 (by decide) ?_
        refine wk_iload wm_259 wd_259_147 l4 ?_
        refine wk_iadd wm_259 wd_259_149 ?_
        refine wk_call (Or.inr ⟨rfl, rfl⟩) wm_259 wd_259_150 (by decide +kernel) wm_257 (by decide +kernel) rfl rfl (wk_rcv Tn304.1 t0 tT_12) ?_
        refine wm_lay m1 m2 t0 Tn304 jn304 Rn304 ⟨by show 0 ≤ ((((0 : Int) + wm_br J o.toNat) + 1) + 1); omega, by show ((((0 : Int) + wm_br J o.toNat) + 1) + 1) ≤ 199; omega⟩ ⟨by omega, by omega⟩ ⟨by omega, by omega⟩ rfl rfl rfl (fun hn308 Tn308 jn308 Rn308 => ?_)
        show sv_G Q 259 153 lv [] hn308
        refine wk_iinc wm_259 wd_259_153 (by decide +kernel) (by decide) l3 (fun lv309 s310 => ?_)
        have l311 := s310.2 0 _ l0 (by decide) (Or.inl rfl)
        have l312 := s310.2 1 _ l1 (by decide) (Or.inl rfl)
        have l313 := s310.2 4 _ l4 (by decide) (Or.inl rfl)
        have l314 := s310.1
        refine wk_iinc wm_259 wd_259_156 (by decide +kernel) (by decide) l313 (fun lv315 s316 => ?_)
        have l317 := s316.2 0 _ l311 (by decide) (Or.inl rfl)
        have l318 := s316.2 1 _ l312 (by decide) (Or.inl rfl)
        have l319 := s316.2 3 _ l314 (by decide) (Or.inl rfl)
        have l320 := s316.1
        refine wk_goto 79 wm_259 wd_259_159 (by decide) ?_
        exact ih lv315 hn308 (j + 1) (o + 1) Tn308 jn308 (by rw [e1]; rw [← wm_n_n, ← wm_n_n, ← wm_n_n]; exact Rn308) l317 l318 l319 l320 (by omega) (by omega) (by omega)
      · have c295 : ¬ (((wk_R h 154 o) : Int) ≠ 0) := c295
        have e1 : wm_br J (o + 1).toNat = wm_br J o.toNat := by
          rw [show (o + 1).toNat = o.toNat + 1 by omega]
          show wm_br J o.toNat + (if J 0 ((o.toNat : Nat) : Int) = 0 then 0 else 3) = _
          rw [Int.toNat_of_nonneg ho.1, if_pos (by omega)]; omega
        refine wk_goto 156 wm_259 wd_259_95 (by decide) ?_
        refine wk_iinc wm_259 wd_259_156 (by decide +kernel) (by decide) l4 (fun lv321 s322 => ?_)
        have l323 := s322.2 0 _ l0 (by decide) (Or.inl rfl)
        have l324 := s322.2 1 _ l1 (by decide) (Or.inl rfl)
        have l325 := s322.2 3 _ l3 (by decide) (Or.inl rfl)
        have l326 := s322.1
        refine wk_goto 79 wm_259 wd_259_159 (by decide) ?_
        exact ih lv321 h j (o + 1) T hJ (by rw [e1]; exact hR) l323 l324 l325 l326 (by omega) (by omega) (by omega)
theorem wm_19 {mods : List (Nat × Nat)} {h0 : ae_H} {Q : ae_R → Prop} {k0 : Nat} {set : Int} {J : Nat → Int → Int} (m1 : (98, 0) ∈ mods) (m2 : (12, 79) ∈ mods) (m3 : (99, 0) ∈ mods) (m4 : (100, 0) ∈ mods) (m5 : (12, 80) ∈ mods) (m6 : (12, 81) ∈ mods) (t0 : sv_ty k0 = some 12) (hset : 0 ≤ set ∧ set ≤ 255) {c : Int} (hc : J 1 0 = c ∧ 0 ≤ c ∧ c ≤ 8) (h6 : ∀ k, 0 ≤ k → k < c → 0 ≤ J 2 k → J 7 (J 2 k) ≤ 20 ∧ 1 ≤ J 6 (J 2 k)) {h : ae_H} (T : sv_Tk sv_ty sv_tt mods h0 h) (hJ : wm_J h = J) (hR : wm_R h k0 wm_z) (g : ∀ h2 x n, sv_Tk sv_ty sv_tt mods h0 h2 → wm_J h2 = J → wk_F h2 k0 79 = some (wk_i n) → (0 ≤ n ∧ n ≤ 200) → (x = 0 ∨ x = 1) → (x = 1 → wm_fit J set) → (wm_fit J set → n ≤ 60) → Q (some (wk_i x), h2)) :
    ∀ (m : Nat) (lv : ae_L) (k : Int), (ae_lk lv 0 = some (wk_r k0)) → (ae_lk lv 1 = some (wk_i set)) → (ae_lk lv 2 = some (wk_i (wm_dg J set k.toNat))) → (ae_lk lv 3 = some (wk_i k)) → (0 ≤ k ∧ k ≤ c) → (0 ≤ wm_dg J set k.toNat ∧ wm_dg J set k.toNat ≤ 6 * k) → (c - k ≤ m) → sv_G Q 259 19 lv [] h := by
  intro m
  induction m with
  | zero =>
    intro lv k l0 l1 l2 l3 hk hn hm
    obtain ⟨k327, f328, y329⟩ := wk_ref (j := 66) T.1 t0 tT_12 rfl
    rw [tU_92 y329 tA_92] at f328
    obtain ⟨k330, f331, y332⟩ := wk_ref (j := 68) T.1 t0 tT_12 rfl
    rw [tU_94 y332 tA_94] at f331
    refine wk_iload_n wm_259 wd_259_19 l3 ?_
    refine wk_aload_n wm_259 wd_259_20 l0 ?_
    refine wk_getf wm_259 wd_259_21 (by decide +kernel) T.1 t0 tT_12 f328 ?_
    refine wk_iconst wm_259 wd_259_24 (by decide) ?_
    refine wk_iald wm_259 wd_259_25 sv_ty_lt T.1 tA_92 tT_92 (by decide) ⟨by omega, by omega⟩ (fun q333 q334 => ?_)
    have ec : wk_R h 155 0 = J 1 0 := by rw [← hJ, wm_J_at (by omega)]; rfl
    refine wk_icmp 57 wm_259 wd_259_26 (by decide) (by unfold sv_I; omega) (by unfold sv_I; omega) (fun c335 => ?_) (fun c335 => ?_)
    · have c335 : (k : Int) ≥ (wk_R h 155 0) := c335
      have ek : k.toNat = c.toNat := by omega
      refine wk_iload_n wm_259 wd_259_57 l1 ?_
      refine wk_i2l wm_259 wd_259_58 ⟨by omega, by omega⟩ ?_
      refine wk_call (Or.inl ⟨rfl, rfl⟩) wm_259 wd_259_59 (by decide +kernel) wm_232 (by decide +kernel) rfl rfl rfl ?_
      refine wb_bits rfl (by omega) ?_
      rw [wm_bits_eq hset]
      show sv_G Q 259 62 lv [wk_i (wm_mb set 8)] h
      have mm := wm_mb_0 set 8
      refine wk_iconst wm_259 wd_259_62 (by decide) ?_
      refine wk_icmp 72 wm_259 wd_259_63 (by decide) (by unfold sv_I; omega) (by unfold sv_I; omega) (fun c336 => ?_) (fun c336 => ?_)
      · have c336 : ((wm_mb set 8) : Int) > 4 := c336
        refine wk_iconst wm_259 wd_259_72 (by decide) ?_
        refine wk_zreturn wm_259 wd_259_73 rfl (by omega) ?_
        exact g _ _ _ T hJ hR.1 ⟨by show (0 : Int) ≤ 0; omega, by show (0 : Int) ≤ 200; omega⟩ (by omega) (fun z => absurd z (by decide)) (fun _ => by show (0 : Int) ≤ 60; omega)
      · have c336 : ¬ (((wm_mb set 8) : Int) > 4) := c336
        refine wk_iload_n wm_259 wd_259_66 l2 ?_
        refine wk_bipush wm_259 wd_259_67 (by decide) ?_
        refine wk_icmp 74 wm_259 wd_259_69 (by decide) (by unfold sv_I; omega) (by unfold sv_I; omega) (fun c337 => ?_) (fun c337 => ?_)
        · have c337 : ((wm_dg J set k.toNat) : Int) ≤ 12 := c337
          refine wk_iconst wm_259 wd_259_74 (by decide) ?_
          refine wk_istore_n wm_259 wd_259_75 (by decide +kernel) (fun lv338 s339 => ?_)
          have l340 := s339.2 0 _ l0 (by decide) (Or.inl rfl)
          have l341 := s339.2 1 _ l1 (by decide) (Or.inl rfl)
          have l342 := s339.2 2 _ l2 (by decide) (Or.inl rfl)
          have l343 := s339.1
          refine wk_iconst wm_259 wd_259_76 (by decide) ?_
          refine wk_istore wm_259 wd_259_77 (by decide +kernel) (fun lv344 s345 => ?_)
          have l346 := s345.2 0 _ l340 (by decide) (Or.inl rfl)
          have l347 := s345.2 1 _ l341 (by decide) (Or.inl rfl)
          have l348 := s345.2 2 _ l342 (by decide) (Or.inl rfl)
          have l349 := s345.2 3 _ l343 (by decide) (Or.inl rfl)
          have l350 := s345.1
          exact wm_79 m1 m2 m3 m4 m5 m6 t0 hset hc (by omega) (by rw [← ek]; omega) h6 g 3 lv344 h 0 0 T hJ (by show wm_R h k0 (wm_n 0 wm_z); rw [wm_n_0]; exact hR) l346 l347 l349 l350 (by omega) (by omega) (by omega)
        · have c337 : ¬ (((wm_dg J set k.toNat) : Int) ≤ 12) := c337
          refine wk_iconst wm_259 wd_259_72 (by decide) ?_
          refine wk_zreturn wm_259 wd_259_73 rfl (by omega) ?_
          exact g _ _ _ T hJ hR.1 ⟨by show (0 : Int) ≤ 0; omega, by show (0 : Int) ≤ 200; omega⟩ (by omega) (fun z => absurd z (by decide)) (fun _ => by show (0 : Int) ≤ 60; omega)
    · have c335 : ¬ ((k : Int) ≥ (wk_R h 155 0)) := c335
      exfalso; omega
  | succ m ih =>
    intro lv k l0 l1 l2 l3 hk hn hm
    obtain ⟨k351, f352, y353⟩ := wk_ref (j := 66) T.1 t0 tT_12 rfl
    rw [tU_92 y353 tA_92] at f352
    obtain ⟨k354, f355, y356⟩ := wk_ref (j := 68) T.1 t0 tT_12 rfl
    rw [tU_94 y356 tA_94] at f355
    refine wk_iload_n wm_259 wd_259_19 l3 ?_
    refine wk_aload_n wm_259 wd_259_20 l0 ?_
    refine wk_getf wm_259 wd_259_21 (by decide +kernel) T.1 t0 tT_12 f352 ?_
    refine wk_iconst wm_259 wd_259_24 (by decide) ?_
    refine wk_iald wm_259 wd_259_25 sv_ty_lt T.1 tA_92 tT_92 (by decide) ⟨by omega, by omega⟩ (fun q357 q358 => ?_)
    have ec : wk_R h 155 0 = J 1 0 := by rw [← hJ, wm_J_at (by omega)]; rfl
    refine wk_icmp 57 wm_259 wd_259_26 (by decide) (by unfold sv_I; omega) (by unfold sv_I; omega) (fun c359 => ?_) (fun c359 => ?_)
    · have c359 : (k : Int) ≥ (wk_R h 155 0) := c359
      have ek : k.toNat = c.toNat := by omega
      refine wk_iload_n wm_259 wd_259_57 l1 ?_
      refine wk_i2l wm_259 wd_259_58 ⟨by omega, by omega⟩ ?_
      refine wk_call (Or.inl ⟨rfl, rfl⟩) wm_259 wd_259_59 (by decide +kernel) wm_232 (by decide +kernel) rfl rfl rfl ?_
      refine wb_bits rfl (by omega) ?_
      rw [wm_bits_eq hset]
      show sv_G Q 259 62 lv [wk_i (wm_mb set 8)] h
      have mm := wm_mb_0 set 8
      refine wk_iconst wm_259 wd_259_62 (by decide) ?_
      refine wk_icmp 72 wm_259 wd_259_63 (by decide) (by unfold sv_I; omega) (by unfold sv_I; omega) (fun c360 => ?_) (fun c360 => ?_)
      · have c360 : ((wm_mb set 8) : Int) > 4 := c360
        refine wk_iconst wm_259 wd_259_72 (by decide) ?_
        refine wk_zreturn wm_259 wd_259_73 rfl (by omega) ?_
        exact g _ _ _ T hJ hR.1 ⟨by show (0 : Int) ≤ 0; omega, by show (0 : Int) ≤ 200; omega⟩ (by omega) (fun z => absurd z (by decide)) (fun _ => by show (0 : Int) ≤ 60; omega)
      · have c360 : ¬ (((wm_mb set 8) : Int) > 4) := c360
        refine wk_iload_n wm_259 wd_259_66 l2 ?_
        refine wk_bipush wm_259 wd_259_67 (by decide) ?_
        refine wk_icmp 74 wm_259 wd_259_69 (by decide) (by unfold sv_I; omega) (by unfold sv_I; omega) (fun c361 => ?_) (fun c361 => ?_)
        · have c361 : ((wm_dg J set k.toNat) : Int) ≤ 12 := c361
          refine wk_iconst wm_259 wd_259_74 (by decide) ?_
          refine wk_istore_n wm_259 wd_259_75 (by decide +kernel) (fun lv362 s363 => ?_)
          have l364 := s363.2 0 _ l0 (by decide) (Or.inl rfl)
          have l365 := s363.2 1 _ l1 (by decide) (Or.inl rfl)
          have l366 := s363.2 2 _ l2 (by decide) (Or.inl rfl)
          have l367 := s363.1
          refine wk_iconst wm_259 wd_259_76 (by decide) ?_
          refine wk_istore wm_259 wd_259_77 (by decide +kernel) (fun lv368 s369 => ?_)
          have l370 := s369.2 0 _ l364 (by decide) (Or.inl rfl)
          have l371 := s369.2 1 _ l365 (by decide) (Or.inl rfl)
          have l372 := s369.2 2 _ l366 (by decide) (Or.inl rfl)
          have l373 := s369.2 3 _ l367 (by decide) (Or.inl rfl)
          have l374 := s369.1
          exact wm_79 m1 m2 m3 m4 m5 m6 t0 hset hc (by omega) (by rw [← ek]; omega) h6 g 3 lv368 h 0 0 T hJ (by show wm_R h k0 (wm_n 0 wm_z); rw [wm_n_0]; exact hR) l370 l371 l373 l374 (by omega) (by omega) (by omega)
        · have c361 : ¬ (((wm_dg J set k.toNat) : Int) ≤ 12) := c361
          refine wk_iconst wm_259 wd_259_72 (by decide) ?_
          refine wk_zreturn wm_259 wd_259_73 rfl (by omega) ?_
          exact g _ _ _ T hJ hR.1 ⟨by show (0 : Int) ≤ 0; omega, by show (0 : Int) ≤ 200; omega⟩ (by omega) (fun z => absurd z (by decide)) (fun _ => by show (0 : Int) ≤ 60; omega)
    · have c359 : ¬ ((k : Int) ≥ (wk_R h 155 0)) := c359
      refine wk_iload_n wm_259 wd_259_29 l2 ?_
      refine wk_iload_n wm_259 wd_259_30 l1 ?_
      refine wk_iload_n wm_259 wd_259_31 l3 ?_
      refine wk_ishr wm_259 wd_259_32 ⟨by omega, by omega⟩ ⟨by omega, by omega⟩ ?_
      refine wk_iconst wm_259 wd_259_33 (by decide) ?_
      refine wk_iand wm_259 wd_259_34 ?_
      refine wk_iconst wm_259 wd_259_35 (by decide) ?_
      have eb := wm_bt_eq (set := set) (k := k) ⟨by omega, by omega⟩
      have eb1 := wm_bt01 set k
      refine wk_icmp 48 wm_259 wd_259_36 (by decide) (by unfold sv_I; omega) (by unfold sv_I; omega) (fun c375 => ?_) (fun c375 => ?_)
      · have c375 : ((sv_g (sv_u (((set).toNat >>> (k).toNat : Nat) : Int) &&& sv_u 1)) : Int) ≠ 1 := c375
        have e4 : wm_dg J set (k + 1).toNat = wm_dg J set k.toNat + 0 := by
          rw [show (k + 1).toNat = k.toNat + 1 by omega]
          show wm_dg J set k.toNat + (if wm_bt set ((k.toNat : Nat) : Int) = 1 then J 3 ((k.toNat : Nat) : Int) else 0) = _
          rw [Int.toNat_of_nonneg hk.1, if_neg (by omega)]
        refine wk_iconst wm_259 wd_259_48 (by decide) ?_
        refine wk_iadd wm_259 wd_259_49 ?_
        refine wk_istore_n wm_259 wd_259_50 (by decide +kernel) (fun lv376 s377 => ?_)
        have l378 := s377.2 0 _ l0 (by decide) (Or.inl rfl)
        have l379 := s377.2 1 _ l1 (by decide) (Or.inl rfl)
        have l380 := s377.2 3 _ l3 (by decide) (Or.inl rfl)
        have l381 := s377.1
        refine wk_iinc wm_259 wd_259_51 (by decide +kernel) (by decide) l380 (fun lv382 s383 => ?_)
        have l384 := s383.2 0 _ l378 (by decide) (Or.inl rfl)
        have l385 := s383.2 1 _ l379 (by decide) (Or.inl rfl)
        have l386 := s383.2 2 _ l381 (by decide) (Or.inl rfl)
        have l387 := s383.1
        refine wk_goto 19 wm_259 wd_259_54 (by decide) ?_
        exact ih lv382 (k + 1) l384 l385 (by rw [e4]; exact l386) l387 (by omega) (by omega) (by omega)
      · have c375 : ¬ (((sv_g (sv_u (((set).toNat >>> (k).toNat : Nat) : Int) &&& sv_u 1)) : Int) ≠ 1) := c375
        have e4 : wm_dg J set (k + 1).toNat = wm_dg J set k.toNat + J 3 k := by
          rw [show (k + 1).toNat = k.toNat + 1 by omega]
          show wm_dg J set k.toNat + (if wm_bt set ((k.toNat : Nat) : Int) = 1 then J 3 ((k.toNat : Nat) : Int) else 0) = _
          rw [Int.toNat_of_nonneg hk.1, if_pos (by omega)]
        refine wk_aload_n wm_259 wd_259_39 l0 ?_
        refine wk_getf wm_259 wd_259_40 (by decide +kernel) T.1 t0 tT_12 f355 ?_
        refine wk_iload_n wm_259 wd_259_43 l3 ?_
        refine wk_iald wm_259 wd_259_44 sv_ty_lt T.1 tA_94 tT_94 (by decide) ⟨by omega, by omega⟩ (fun q388 q389 => ?_)
        have e3 : wk_R h 157 k = J 3 k := by rw [← hJ, wm_J_at (by omega)]; rfl
        refine wk_goto 49 wm_259 wd_259_45 (by decide) ?_
        refine wk_iadd wm_259 wd_259_49 ?_
        refine wk_istore_n wm_259 wd_259_50 (by decide +kernel) (fun lv390 s391 => ?_)
        have l392 := s391.2 0 _ l0 (by decide) (Or.inl rfl)
        have l393 := s391.2 1 _ l1 (by decide) (Or.inl rfl)
        have l394 := s391.2 3 _ l3 (by decide) (Or.inl rfl)
        have l395 := s391.1
        refine wk_iinc wm_259 wd_259_51 (by decide +kernel) (by decide) l394 (fun lv396 s397 => ?_)
        have l398 := s397.2 0 _ l392 (by decide) (Or.inl rfl)
        have l399 := s397.2 1 _ l393 (by decide) (Or.inl rfl)
        have l400 := s397.2 2 _ l395 (by decide) (Or.inl rfl)
        have l401 := s397.1
        refine wk_goto 19 wm_259 wd_259_54 (by decide) ?_
        exact ih lv396 (k + 1) l398 l399 (by rw [e4, ← e3]; exact l400) l401 (by omega) (by omega) (by omega)
theorem wm_make0 {mods : List (Nat × Nat)} {h0 : ae_H} {Q : ae_R → Prop} {k0 : Nat} {set : Int} {J : Nat → Int → Int} (m1 : (98, 0) ∈ mods) (m2 : (12, 79) ∈ mods) (m3 : (99, 0) ∈ mods) (m4 : (100, 0) ∈ mods) (m5 : (12, 80) ∈ mods) (m6 : (12, 81) ∈ mods) (t0 : sv_ty k0 = some 12) (hset : 0 ≤ set ∧ set ≤ 255) {c : Int} (hc : J 1 0 = c ∧ 0 ≤ c ∧ c ≤ 8) (h6 : ∀ k, 0 ≤ k → k < c → 0 ≤ J 2 k → J 7 (J 2 k) ≤ 20 ∧ 1 ≤ J 6 (J 2 k)) {h : ae_H} {lv : ae_L} (T : sv_Tk sv_ty sv_tt mods h0 h) (hJ : wm_J h = J) (l0 : ae_lk lv 0 = some (wk_r k0)) (l1 : ae_lk lv 1 = some (wk_i set)) (g : ∀ h2 x n, sv_Tk sv_ty sv_tt mods h0 h2 → wm_J h2 = J → wk_F h2 k0 79 = some (wk_i n) → (0 ≤ n ∧ n ≤ 200) → (x = 0 ∨ x = 1) → (x = 1 → wm_fit J set) → (wm_fit J set → n ≤ 60) → Q (some (wk_i x), h2)) : sv_G Q 259 0 lv [] h := by
  refine wk_aload_n wm_259 wd_259_0 l0 ?_
  refine wk_iconst wm_259 wd_259_1 (by decide) ?_
  refine wk_putf (fk := 0) (ft := (0, 0, 200, 0)) wm_259 wd_259_2 (by decide +kernel) sv_ty_lt T m2 t0 tT_12 rfl (by decide +kernel) rfl rfl ⟨0, rfl, by unfold sv_I; omega, by show (0 : Int) ≤ 0; omega, by show 0 ≤ (200 : Int); omega⟩ (fun h402 T403 u404 g405 => ?_)
  have f406 := (u404.2 k0 79).trans (if_pos ⟨rfl, rfl⟩)
  refine wk_aload_n wm_259 wd_259_5 l0 ?_
  refine wk_iconst wm_259 wd_259_6 (by decide) ?_
  refine wk_putf (fk := 0) (ft := (0, 0, 4, 0)) wm_259 wd_259_7 (by decide +kernel) sv_ty_lt T403 m5 t0 tT_12 rfl (by decide +kernel) rfl rfl ⟨0, rfl, by unfold sv_I; omega, by show (0 : Int) ≤ 0; omega, by show 0 ≤ (4 : Int); omega⟩ (fun h407 T408 u409 g410 => ?_)
  have f411 := ((u409.2 _ _).trans (if_neg (fun z => absurd z.2 (by decide)))).trans f406
  have f412 := (u409.2 k0 80).trans (if_pos ⟨rfl, rfl⟩)
  refine wk_aload_n wm_259 wd_259_10 l0 ?_
  refine wk_iconst wm_259 wd_259_11 (by decide) ?_
  refine wk_putf (fk := 1) (ft := (0, 0, 1, 0)) wm_259 wd_259_12 (by decide +kernel) sv_ty_lt T408 m6 t0 tT_12 rfl (by decide +kernel) rfl rfl ⟨0, rfl, by unfold sv_I; omega, by show (0 : Int) ≤ 0; omega, by show 0 ≤ (1 : Int); omega⟩ (fun h413 T414 u415 g416 => ?_)
  have f417 := ((u415.2 _ _).trans (if_neg (fun z => absurd z.2 (by decide)))).trans f411
  have f418 := ((u415.2 _ _).trans (if_neg (fun z => absurd z.2 (by decide)))).trans f412
  have f419 := (u415.2 k0 81).trans (if_pos ⟨rfl, rfl⟩)
  refine wk_iconst wm_259 wd_259_15 (by decide) ?_
  refine wk_istore_n wm_259 wd_259_16 (by decide +kernel) (fun lv420 s421 => ?_)
  have l422 := s421.2 0 _ l0 (by decide) (Or.inl rfl)
  have l423 := s421.2 1 _ l1 (by decide) (Or.inl rfl)
  have l424 := s421.1
  refine wk_iconst wm_259 wd_259_17 (by decide) ?_
  refine wk_istore_n wm_259 wd_259_18 (by decide +kernel) (fun lv425 s426 => ?_)
  have l427 := s426.2 0 _ l422 (by decide) (Or.inl rfl)
  have l428 := s426.2 1 _ l423 (by decide) (Or.inl rfl)
  have l429 := s426.2 2 _ l424 (by decide) (Or.inl rfl)
  have l430 := s426.1
  exact wm_19 m1 m2 m3 m4 m5 m6 t0 hset hc h6 T414 ((wm_J_uf u415).trans ((wm_J_uf u409).trans ((wm_J_uf u404).trans hJ))) ⟨f417, f418, by show (0 : Int) ≤ 0 ∧ (0 : Int) ≤ 4; omega, fun j a b => by have b : j < 0 := b; omega⟩ g 8 lv425 0 l427 l428 l429 l430 (by omega) (by show (0 : Int) ≤ 0 ∧ (0 : Int) ≤ 6 * 0; omega) (by omega)
