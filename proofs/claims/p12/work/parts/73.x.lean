/-! OTHER TYPES: the hall (110), the JOB that stays (111) and its rows (from 112 on) apart (wip/p2/hand/g73.py) -/
def sv_ttX : List sv_T := sv_tt ++ [(0, 11, 0, 0, 0, 0, [(1, 0, 0, 9), (1, 0, 0, 1), (1, 0, 0, 5), (1, 0, 0, 3), (1, 0, 0, 10), (1, 0, 0, 6), (1, 0, 0, 8), (1, 0, 0, 7), (1, 0, 0, 0), (1, 0, 0, 0), (1, 0, 0, 111), (1, 0, 0, 2), (0, 0, 1, 0), (0, (-2147483648), 2147483647, 0)]),
  (0, 2, 0, 0, 0, 0, [(1, 0, 0, 112), (1, 0, 0, 113), (1, 0, 0, 114), (0, 0, 6, 0), (1, 0, 0, 115), (1, 0, 0, 116), (1, 0, 0, 117), (1, 0, 0, 118), (1, 0, 0, 119), (0, 0, 8, 0)]),
  (1, 0, 6, (-2147483648), 2147483647, 0, []),
  (1, 0, 6, 0, 20, 0, []),
  (1, 0, 6, 0, 20, 0, []),
  (1, 0, 4, 0, 20, 0, []),
  (1, 0, 8, (-1), 5, 0, []),
  (1, 0, 8, 0, 6, 0, []),
  (1, 0, 8, 0, 3, 0, []),
  (1, 0, 8, 0, 20, 0, [])]
theorem sv_ttX_len : sv_tt.length = 110 := by decide +kernel
theorem svC_2_x : sx_meth sv_ttX sv_od (sv_cf sv_ct0) svC_2 svC_2_c [] 3000 [0] = true := by decide +kernel
def svX_3 : List (Nat × List sv_C) := (118, [svC_2]) :: sv_ct0
theorem svC_3_x : sx_meth sv_ttX sv_od (sv_cf svX_3) svC_3 svC_3_c [] 3000 [0] = true := by decide +kernel
def svX_4 : List (Nat × List sv_C) := (119, [svC_3]) :: svX_3
theorem svC_4_x : sx_meth sv_ttX sv_od (sv_cf svX_4) svC_4 svC_4_c [] 3000 [0] = true := by decide +kernel
def svX_5 : List (Nat × List sv_C) := (117, [svC_4]) :: svX_4
theorem svC_5_x : sx_meth sv_ttX sv_od (sv_cf svX_5) svC_5 svC_5_c [] 3000 [] = true := by decide +kernel
theorem svC_6_x : sx_meth sv_ttX sv_od (sv_cf svX_5) svC_6 svC_6_c [] 3000 [] = true := by decide +kernel
theorem svC_7_x : sx_meth sv_ttX sv_od (sv_cf svX_5) svC_7 svC_7_c [] 3000 [] = true := by decide +kernel
theorem svC_8_x : sx_meth sv_ttX sv_od (sv_cf svX_5) svC_8 svC_8_c [] 3000 [] = true := by decide +kernel
theorem svC_9_x : sx_meth sv_ttX sv_od (sv_cf svX_5) svC_9 svC_9_c [] 3000 [] = true := by decide +kernel
theorem svC_10_x : sx_meth sv_ttX sv_od (sv_cf svX_5) svC_10 svC_10_c [] 3000 [] = true := by decide +kernel
def svX_11 : List (Nat × List sv_C) := (122, [svC_5, svC_6, svC_7, svC_8, svC_9, svC_10]) :: svX_5
theorem svC_11_x : sx_meth sv_ttX sv_od (sv_cf svX_11) svC_11 svC_11_c [] 3000 [] = true := by decide +kernel
def svX_12 : List (Nat × List sv_C) := (125, [svC_11]) :: svX_11
theorem svC_12_x : sx_meth sv_ttX sv_od (sv_cf svX_12) svC_12 svC_12_c [] 3000 [] = true := by decide +kernel
def svX_13 : List (Nat × List sv_C) := (126, [svC_12]) :: svX_12
theorem svC_34_x : sx_meth sv_ttX sv_od (sv_cf svX_13) svC_34 svC_34_c [] 3000 [] = true := by decide +kernel
theorem svC_35_x : sx_meth sv_ttX sv_od (sv_cf svX_13) svC_35 svC_35_c [] 3000 [] = true := by decide +kernel
theorem svC_36_x : sx_meth sv_ttX sv_od (sv_cf svX_13) svC_36 svC_36_c [] 3000 [] = true := by decide +kernel
theorem svC_37_x : sx_meth sv_ttX sv_od (sv_cf svX_13) svC_37 svC_37_c [] 3000 [] = true := by decide +kernel
theorem svC_38_x : sx_meth sv_ttX sv_od (sv_cf svX_13) svC_38 svC_38_c [] 3000 [] = true := by decide +kernel
theorem svC_39_x : sx_meth sv_ttX sv_od (sv_cf svX_13) svC_39 svC_39_c [] 3000 [] = true := by decide +kernel
def svX_40 : List (Nat × List sv_C) := (285, [svC_34, svC_35, svC_36, svC_37, svC_38, svC_39]) :: svX_13
theorem svC_83_x : sx_meth sv_ttX sv_od (sv_cf svX_40) svC_83 svC_83_c [] 3000 [] = true := by decide +kernel
theorem svC_84_x : sx_meth sv_ttX sv_od (sv_cf svX_40) svC_84 svC_84_c [] 3000 [] = true := by decide +kernel
theorem svC_85_x : sx_meth sv_ttX sv_od (sv_cf svX_40) svC_85 svC_85_c [] 3000 [] = true := by decide +kernel
def svX_86 : List (Nat × List sv_C) := (37, [svC_83, svC_84, svC_85]) :: svX_40
theorem svC_86_x : sx_meth sv_ttX sv_od (sv_cf svX_86) svC_86 svC_86_c [] 3000 [] = true := by decide +kernel
def svX_87 : List (Nat × List sv_C) := (38, [svC_86]) :: svX_86
theorem svC_87_x : sx_meth sv_ttX sv_od (sv_cf svX_87) svC_87 svC_87_c [] 3000 [] = true := by decide +kernel
def svX_88 : List (Nat × List sv_C) := (43, [svC_87]) :: svX_87
theorem svC_88_x : sx_meth sv_ttX sv_od (sv_cf svX_88) svC_88 svC_88_c [] 3000 [] = true := by decide +kernel
theorem svC_89_x : sx_meth sv_ttX sv_od (sv_cf svX_88) svC_89 svC_89_c [] 3000 [] = true := by decide +kernel
theorem svC_90_x : sx_meth sv_ttX sv_od (sv_cf svX_88) svC_90 svC_90_c [] 3000 [] = true := by decide +kernel
def svX_91 : List (Nat × List sv_C) := (39, [svC_88, svC_89, svC_90]) :: svX_88
theorem svC_91_x : sx_meth sv_ttX sv_od (sv_cf svX_91) svC_91 svC_91_c [] 3000 [] = true := by decide +kernel
theorem svC_92_x : sx_meth sv_ttX sv_od (sv_cf svX_91) svC_92 svC_92_c [] 3000 [] = true := by decide +kernel
theorem svC_93_x : sx_meth sv_ttX sv_od (sv_cf svX_91) svC_93 svC_93_c [] 3000 [] = true := by decide +kernel
def svX_94 : List (Nat × List sv_C) := (40, [svC_91, svC_92, svC_93]) :: svX_91
theorem svC_94_x : sx_meth sv_ttX sv_od (sv_cf svX_94) svC_94 svC_94_c [] 3000 [] = true := by decide +kernel
theorem svC_95_x : sx_meth sv_ttX sv_od (sv_cf svX_94) svC_95 svC_95_c [] 3000 [] = true := by decide +kernel
theorem svC_96_x : sx_meth sv_ttX sv_od (sv_cf svX_94) svC_96 svC_96_c [] 3000 [] = true := by decide +kernel
def svX_97 : List (Nat × List sv_C) := (41, [svC_94, svC_95, svC_96]) :: svX_94
theorem svC_97_x : sx_meth sv_ttX sv_od (sv_cf svX_97) svC_97 svC_97_c [] 3000 [] = true := by decide +kernel
theorem svC_98_x : sx_meth sv_ttX sv_od (sv_cf svX_97) svC_98 svC_98_c [] 3000 [] = true := by decide +kernel
theorem svC_99_x : sx_meth sv_ttX sv_od (sv_cf svX_97) svC_99 svC_99_c [] 3000 [] = true := by decide +kernel
def svX_100 : List (Nat × List sv_C) := (42, [svC_97, svC_98, svC_99]) :: svX_97
theorem svC_100_x : sx_meth sv_ttX sv_od (sv_cf svX_100) svC_100 svC_100_c [] 3000 [] = true := by decide +kernel
theorem svC_101_x : sx_meth sv_ttX sv_od (sv_cf svX_100) svC_101 svC_101_c [] 3000 [] = true := by decide +kernel
theorem svC_102_x : sx_meth sv_ttX sv_od (sv_cf svX_100) svC_102 svC_102_c [] 3000 [] = true := by decide +kernel
def svX_103 : List (Nat × List sv_C) := (36, [svC_100, svC_101, svC_102]) :: svX_100
theorem svC_103_x : sx_meth sv_ttX sv_od (sv_cf svX_103) svC_103 svC_103_c [] 3000 [] = true := by decide +kernel
def svX_104 : List (Nat × List sv_C) := (35, [svC_103]) :: svX_103
def sv_oT (_ : Nat) (_ : ae_H) (_ _ : Nat) (_ _ _ _ : Int) : Prop := True
theorem sv_oT_k (ty : Nat → Option Nat) : sv_opk ty sv_oT sv_od := fun _ _ _ _ _ _ _ _ _ _ _ _ _ => trivial
section
variable {ty : Nat → Option Nat}
def sv_allX (ty : Nat → Option Nat) (l : List (Nat × List sv_C)) : Prop := ∀ mj, ∀ C ∈ sv_cf l mj, C.1 = mj ∧ sv_ctk ty sv_ttX sv_oT C
theorem sv_allX0 : sv_allX ty sv_ct0 := fun mj C hC => by cases hC
theorem sv_allXs {l : List (Nat × List sv_C)} {mj : Nat} {cs : List sv_C} (hl : sv_allX ty l) (hc : wa_A (fun C => C.1 = mj ∧ sv_ctk ty sv_ttX sv_oT C) cs) : sv_allX ty ((mj, cs) :: l) := fun mj' C hC => by
  have e : sv_cf ((mj, cs) :: l) mj' = cond (Nat.beq mj mj') cs (sv_cf l mj') := by
    unfold sv_cf
    show (match cond (Nat.beq mj mj') (some cs) (ae_lk l mj') with
      | some c => c
      | none => []) = _
    cases Nat.beq mj mj' <;> rfl
  rw [e] at hC
  cases hb : Nat.beq mj mj' with
  | true =>
    rw [hb, cond_true] at hC
    rw [← Nat.eq_of_beq_eq_true hb]
    exact wa_A_ok hc C hC
  | false => rw [hb, cond_false] at hC; exact hl mj' C hC
theorem svX_3_h (hty : ∀ q t, ty q = some t → q < 256) : sv_allX ty svX_3 := sv_allXs sv_allX0 ⟨⟨rfl, sx_meth_ok hty (sv_oT_k ty) sv_allX0 svC_2_x⟩, trivial⟩
theorem svX_4_h (hty : ∀ q t, ty q = some t → q < 256) : sv_allX ty svX_4 := sv_allXs (svX_3_h hty) ⟨⟨rfl, sx_meth_ok hty (sv_oT_k ty) (svX_3_h hty) svC_3_x⟩, trivial⟩
theorem svX_5_h (hty : ∀ q t, ty q = some t → q < 256) : sv_allX ty svX_5 := sv_allXs (svX_4_h hty) ⟨⟨rfl, sx_meth_ok hty (sv_oT_k ty) (svX_4_h hty) svC_4_x⟩, trivial⟩
theorem svX_11_h (hty : ∀ q t, ty q = some t → q < 256) : sv_allX ty svX_11 := sv_allXs (svX_5_h hty) ⟨⟨rfl, sx_meth_ok hty (sv_oT_k ty) (svX_5_h hty) svC_5_x⟩, ⟨rfl, sx_meth_ok hty (sv_oT_k ty) (svX_5_h hty) svC_6_x⟩, ⟨rfl, sx_meth_ok hty (sv_oT_k ty) (svX_5_h hty) svC_7_x⟩, ⟨rfl, sx_meth_ok hty (sv_oT_k ty) (svX_5_h hty) svC_8_x⟩, ⟨rfl, sx_meth_ok hty (sv_oT_k ty) (svX_5_h hty) svC_9_x⟩, ⟨rfl, sx_meth_ok hty (sv_oT_k ty) (svX_5_h hty) svC_10_x⟩, trivial⟩
theorem svX_12_h (hty : ∀ q t, ty q = some t → q < 256) : sv_allX ty svX_12 := sv_allXs (svX_11_h hty) ⟨⟨rfl, sx_meth_ok hty (sv_oT_k ty) (svX_11_h hty) svC_11_x⟩, trivial⟩
theorem svX_13_h (hty : ∀ q t, ty q = some t → q < 256) : sv_allX ty svX_13 := sv_allXs (svX_12_h hty) ⟨⟨rfl, sx_meth_ok hty (sv_oT_k ty) (svX_12_h hty) svC_12_x⟩, trivial⟩
theorem svX_40_h (hty : ∀ q t, ty q = some t → q < 256) : sv_allX ty svX_40 := sv_allXs (svX_13_h hty) ⟨⟨rfl, sx_meth_ok hty (sv_oT_k ty) (svX_13_h hty) svC_34_x⟩, ⟨rfl, sx_meth_ok hty (sv_oT_k ty) (svX_13_h hty) svC_35_x⟩, ⟨rfl, sx_meth_ok hty (sv_oT_k ty) (svX_13_h hty) svC_36_x⟩, ⟨rfl, sx_meth_ok hty (sv_oT_k ty) (svX_13_h hty) svC_37_x⟩, ⟨rfl, sx_meth_ok hty (sv_oT_k ty) (svX_13_h hty) svC_38_x⟩, ⟨rfl, sx_meth_ok hty (sv_oT_k ty) (svX_13_h hty) svC_39_x⟩, trivial⟩
theorem svX_86_h (hty : ∀ q t, ty q = some t → q < 256) : sv_allX ty svX_86 := sv_allXs (svX_40_h hty) ⟨⟨rfl, sx_meth_ok hty (sv_oT_k ty) (svX_40_h hty) svC_83_x⟩, ⟨rfl, sx_meth_ok hty (sv_oT_k ty) (svX_40_h hty) svC_84_x⟩, ⟨rfl, sx_meth_ok hty (sv_oT_k ty) (svX_40_h hty) svC_85_x⟩, trivial⟩
theorem svX_87_h (hty : ∀ q t, ty q = some t → q < 256) : sv_allX ty svX_87 := sv_allXs (svX_86_h hty) ⟨⟨rfl, sx_meth_ok hty (sv_oT_k ty) (svX_86_h hty) svC_86_x⟩, trivial⟩
theorem svX_88_h (hty : ∀ q t, ty q = some t → q < 256) : sv_allX ty svX_88 := sv_allXs (svX_87_h hty) ⟨⟨rfl, sx_meth_ok hty (sv_oT_k ty) (svX_87_h hty) svC_87_x⟩, trivial⟩
theorem svX_91_h (hty : ∀ q t, ty q = some t → q < 256) : sv_allX ty svX_91 := sv_allXs (svX_88_h hty) ⟨⟨rfl, sx_meth_ok hty (sv_oT_k ty) (svX_88_h hty) svC_88_x⟩, ⟨rfl, sx_meth_ok hty (sv_oT_k ty) (svX_88_h hty) svC_89_x⟩, ⟨rfl, sx_meth_ok hty (sv_oT_k ty) (svX_88_h hty) svC_90_x⟩, trivial⟩
theorem svX_94_h (hty : ∀ q t, ty q = some t → q < 256) : sv_allX ty svX_94 := sv_allXs (svX_91_h hty) ⟨⟨rfl, sx_meth_ok hty (sv_oT_k ty) (svX_91_h hty) svC_91_x⟩, ⟨rfl, sx_meth_ok hty (sv_oT_k ty) (svX_91_h hty) svC_92_x⟩, ⟨rfl, sx_meth_ok hty (sv_oT_k ty) (svX_91_h hty) svC_93_x⟩, trivial⟩
theorem svX_97_h (hty : ∀ q t, ty q = some t → q < 256) : sv_allX ty svX_97 := sv_allXs (svX_94_h hty) ⟨⟨rfl, sx_meth_ok hty (sv_oT_k ty) (svX_94_h hty) svC_94_x⟩, ⟨rfl, sx_meth_ok hty (sv_oT_k ty) (svX_94_h hty) svC_95_x⟩, ⟨rfl, sx_meth_ok hty (sv_oT_k ty) (svX_94_h hty) svC_96_x⟩, trivial⟩
theorem svX_100_h (hty : ∀ q t, ty q = some t → q < 256) : sv_allX ty svX_100 := sv_allXs (svX_97_h hty) ⟨⟨rfl, sx_meth_ok hty (sv_oT_k ty) (svX_97_h hty) svC_97_x⟩, ⟨rfl, sx_meth_ok hty (sv_oT_k ty) (svX_97_h hty) svC_98_x⟩, ⟨rfl, sx_meth_ok hty (sv_oT_k ty) (svX_97_h hty) svC_99_x⟩, trivial⟩
theorem svX_103_h (hty : ∀ q t, ty q = some t → q < 256) : sv_allX ty svX_103 := sv_allXs (svX_100_h hty) ⟨⟨rfl, sx_meth_ok hty (sv_oT_k ty) (svX_100_h hty) svC_100_x⟩, ⟨rfl, sx_meth_ok hty (sv_oT_k ty) (svX_100_h hty) svC_101_x⟩, ⟨rfl, sx_meth_ok hty (sv_oT_k ty) (svX_100_h hty) svC_102_x⟩, trivial⟩
theorem svX_104_h (hty : ∀ q t, ty q = some t → q < 256) : sv_allX ty svX_104 := sv_allXs (svX_103_h hty) ⟨⟨rfl, sx_meth_ok hty (sv_oT_k ty) (svX_103_h hty) svC_103_x⟩, trivial⟩
theorem svX_read (hty : ∀ q t, ty q = some t → q < 256) : sv_ctk ty sv_ttX sv_oT svC_103 := (svX_104_h hty 35 svC_103 (List.mem_cons_self ..)).2
end
