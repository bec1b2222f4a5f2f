/-! RUNS READ BACKWARDS (printed by wip/p8/g8g.py). The shapes of the cells by their types: kind (0 object, 1 row of ints, 2 row of longs, 3 row of things), class or tag, length, fields: 0 int, 1 own thing (so far behind), 2 a thing of a type, 3 one or null, 4 long, 5 the thing at a place -/
abbrev dc_S : Type := Nat × Nat × Nat × List (Nat × Nat)
def dc_tt : List dc_S := [(0, 0, 0, [(1, 1), (1, 2), (0, 0)]),
  (0, 1, 0, [(1, 1), (1, 2), (1, 3), (1, 4), (0, 0), (1, 5), (1, 6), (1, 7)]),
  (0, 2, 0, [(1, 1), (1, 2), (1, 3), (0, 0), (1, 4), (1, 5), (1, 6), (1, 7), (1, 8), (0, 0)]),
  (0, 3, 0, [(5, 3), (1, 1), (1, 8), (1, 9), (1, 10), (1, 11), (1, 12), (0, 0), (0, 0), (0, 0), (0, 0), (2, 5), (3, 7), (0, 0), (0, 0)]),
  (0, 4, 0, [(1, 1), (1, 2), (0, 0), (1, 3), (0, 0), (1, 4), (0, 0), (0, 0), (0, 0), (1, 5), (0, 0), (0, 0), (1, 6), (0, 0)]),
  (0, 5, 0, [(1, 1), (1, 3), (1, 4), (0, 0), (0, 0), (0, 0), (0, 0), (0, 0), (0, 0), (0, 0)]),
  (0, 6, 0, [(1, 1), (0, 0), (1, 2), (1, 3), (1, 4), (1, 7), (1, 8), (0, 0), (0, 0), (0, 0), (2, 0), (1, 9)]),
  (0, 7, 0, [(1, 1), (0, 0)]),
  (0, 8, 0, [(1, 1), (0, 0), (0, 0), (1, 2), (1, 3), (1, 4), (1, 5), (1, 6), (1, 7), (0, 0)]),
  (0, 9, 0, [(1, 1), (0, 0), (0, 0), (0, 0), (0, 0), (0, 0), (0, 0), (0, 0), (0, 0), (0, 0)]),
  (0, 10, 0, [(5, 3), (5, 16), (1, 1), (1, 6), (1, 11), (1, 13), (0, 0), (1, 14), (0, 0), (0, 0), (1, 15), (0, 0), (1, 16), (0, 0)]),
  (0, 11, 0, [(1, 1), (1, 3), (1, 11), (1, 16), (1, 29), (1, 46), (1, 56), (1, 88), (2, 0), (2, 0), (2, 2), (2, 2), (0, 0), (0, 0)]),
  (0, 12, 0, [(0, 0), (1, 1), (0, 0), (0, 0), (0, 0), (1, 2), (1, 3), (0, 0), (0, 0), (0, 0), (0, 0), (0, 0), (0, 0), (4, 0), (0, 0), (1, 4), (1, 5), (1, 6), (1, 7), (1, 8), (0, 0), (0, 0), (0, 0), (1, 9), (1, 10), (1, 11), (1, 12), (1, 13), (1, 14), (1, 15), (1, 16), (1, 17), (1, 18), (1, 19), (1, 20), (1, 21), (1, 22), (1, 23), (1, 24), (1, 25), (1, 26), (0, 0), (0, 0), (0, 0), (0, 0), (1, 27), (1, 28), (0, 0), (1, 29), (1, 30), (1, 31), (1, 32), (1, 33), (0, 0), (0, 0), (0, 0), (0, 0), (0, 0), (1, 34), (1, 35), (1, 36), (0, 0), (1, 37), (1, 38), (1, 39), (1, 40), (1, 41), (1, 42), (1, 43), (1, 44), (1, 45), (1, 46), (1, 47), (1, 48), (1, 49), (1, 50), (1, 51), (1, 52), (1, 53), (0, 0), (0, 0), (0, 0), (1, 54), (1, 55), (0, 0), (0, 0), (0, 0), (1, 56), (1, 57), (1, 58), (0, 0), (1, 59)]),
  (1, 0, 740, []),
  (1, 1, 6400, []),
  (1, 0, 320, []),
  (1, 0, 8, []),
  (1, 0, 40, []),
  (1, 0, 40, []),
  (1, 0, 40, []),
  (1, 0, 12, []),
  (1, 0, 60, []),
  (1, 1, 720, []),
  (1, 0, 4, []),
  (1, 1, 800, []),
  (1, 0, 217, []),
  (1, 0, 60, []),
  (1, 0, 960, []),
  (1, 0, 96, []),
  (1, 0, 85, []),
  (1, 0, 12, []),
  (1, 0, 96, []),
  (1, 0, 85, []),
  (1, 0, 60, []),
  (1, 0, 60, []),
  (1, 0, 60, []),
  (1, 0, 60, []),
  (2, 3, 10, []),
  (1, 0, 40, []),
  (1, 0, 300, []),
  (1, 0, 6, []),
  (1, 0, 6, []),
  (1, 0, 6, []),
  (1, 0, 4, []),
  (1, 0, 8, []),
  (1, 0, 8, []),
  (1, 0, 8, []),
  (1, 0, 8, []),
  (1, 0, 8, []),
  (1, 2, 256, []),
  (1, 0, 256, []),
  (1, 0, 4, []),
  (1, 0, 4, []),
  (1, 0, 8, []),
  (3, 4, 8, [(0, 64)]),
  (1, 0, 6, []),
  (1, 0, 6, []),
  (1, 0, 42, []),
  (1, 0, 6, []),
  (1, 0, 6, []),
  (1, 1, 740, []),
  (1, 0, 6400, []),
  (1, 0, 8, []),
  (1, 0, 600, []),
  (1, 0, 10, []),
  (1, 0, 217, []),
  (1, 2, 8, []),
  (1, 0, 800, []),
  (1, 0, 96, []),
  (1, 0, 217, []),
  (1, 0, 217, []),
  (1, 0, 217, []),
  (1, 2, 4, []),
  (1, 0, 3, []),
  (1, 0, 3, []),
  (1, 0, 3, []),
  (1, 0, 2160, []),
  (1, 0, 12, []),
  (1, 0, 2400, []),
  (1, 0, 3, []),
  (1, 0, 40, []),
  (1, 0, 800, []),
  (1, 0, 60, []),
  (1, 0, 40, []),
  (1, 0, 720, []),
  (1, 0, 3, []),
  (2, 3, 10, []),
  (1, 0, 100, []),
  (1, 0, 2, []),
  (1, 0, 12, []),
  (1, 0, 12, []),
  (1, 0, 6, []),
  (1, 0, 2, []),
  (1, 0, 16, []),
  (1, 0, 16, []),
  (1, 0, 16, []),
  (1, 0, 16, []),
  (2, 3, 12, []),
  (1, 0, 200, []),
  (1, 0, 4, []),
  (1, 0, 4, []),
  (1, 0, 256, []),
  (1, 0, 256, []),
  (1, 2, 256, []),
  (1, 0, 720, []),
  (1, 0, 8, []),
  (1, 0, 720, []),
  (1, 0, 6, []),
  (1, 0, 6, []),
  (1, 2, 60, [])]
theorem dt_0 : dc_tt[0]? = some (0, 0, 0, [(1, 1), (1, 2), (0, 0)]) := rfl
theorem dt_1 : dc_tt[1]? = some (0, 1, 0, [(1, 1), (1, 2), (1, 3), (1, 4), (0, 0), (1, 5), (1, 6), (1, 7)]) := rfl
theorem dt_2 : dc_tt[2]? = some (0, 2, 0, [(1, 1), (1, 2), (1, 3), (0, 0), (1, 4), (1, 5), (1, 6), (1, 7), (1, 8), (0, 0)]) := rfl
theorem dt_3 : dc_tt[3]? = some (0, 3, 0, [(5, 3), (1, 1), (1, 8), (1, 9), (1, 10), (1, 11), (1, 12), (0, 0), (0, 0), (0, 0), (0, 0), (2, 5), (3, 7), (0, 0), (0, 0)]) := rfl
theorem dt_4 : dc_tt[4]? = some (0, 4, 0, [(1, 1), (1, 2), (0, 0), (1, 3), (0, 0), (1, 4), (0, 0), (0, 0), (0, 0), (1, 5), (0, 0), (0, 0), (1, 6), (0, 0)]) := rfl
theorem dt_5 : dc_tt[5]? = some (0, 5, 0, [(1, 1), (1, 3), (1, 4), (0, 0), (0, 0), (0, 0), (0, 0), (0, 0), (0, 0), (0, 0)]) := rfl
theorem dt_6 : dc_tt[6]? = some (0, 6, 0, [(1, 1), (0, 0), (1, 2), (1, 3), (1, 4), (1, 7), (1, 8), (0, 0), (0, 0), (0, 0), (2, 0), (1, 9)]) := rfl
theorem dt_7 : dc_tt[7]? = some (0, 7, 0, [(1, 1), (0, 0)]) := rfl
theorem dt_8 : dc_tt[8]? = some (0, 8, 0, [(1, 1), (0, 0), (0, 0), (1, 2), (1, 3), (1, 4), (1, 5), (1, 6), (1, 7), (0, 0)]) := rfl
theorem dt_9 : dc_tt[9]? = some (0, 9, 0, [(1, 1), (0, 0), (0, 0), (0, 0), (0, 0), (0, 0), (0, 0), (0, 0), (0, 0), (0, 0)]) := rfl
theorem dt_10 : dc_tt[10]? = some (0, 10, 0, [(5, 3), (5, 16), (1, 1), (1, 6), (1, 11), (1, 13), (0, 0), (1, 14), (0, 0), (0, 0), (1, 15), (0, 0), (1, 16), (0, 0)]) := rfl
theorem dt_11 : dc_tt[11]? = some (0, 11, 0, [(1, 1), (1, 3), (1, 11), (1, 16), (1, 29), (1, 46), (1, 56), (1, 88), (2, 0), (2, 0), (2, 2), (2, 2), (0, 0), (0, 0)]) := rfl
theorem dt_12 : dc_tt[12]? = some (0, 12, 0, [(0, 0), (1, 1), (0, 0), (0, 0), (0, 0), (1, 2), (1, 3), (0, 0), (0, 0), (0, 0), (0, 0), (0, 0), (0, 0), (4, 0), (0, 0), (1, 4), (1, 5), (1, 6), (1, 7), (1, 8), (0, 0), (0, 0), (0, 0), (1, 9), (1, 10), (1, 11), (1, 12), (1, 13), (1, 14), (1, 15), (1, 16), (1, 17), (1, 18), (1, 19), (1, 20), (1, 21), (1, 22), (1, 23), (1, 24), (1, 25), (1, 26), (0, 0), (0, 0), (0, 0), (0, 0), (1, 27), (1, 28), (0, 0), (1, 29), (1, 30), (1, 31), (1, 32), (1, 33), (0, 0), (0, 0), (0, 0), (0, 0), (0, 0), (1, 34), (1, 35), (1, 36), (0, 0), (1, 37), (1, 38), (1, 39), (1, 40), (1, 41), (1, 42), (1, 43), (1, 44), (1, 45), (1, 46), (1, 47), (1, 48), (1, 49), (1, 50), (1, 51), (1, 52), (1, 53), (0, 0), (0, 0), (0, 0), (1, 54), (1, 55), (0, 0), (0, 0), (0, 0), (1, 56), (1, 57), (1, 58), (0, 0), (1, 59)]) := rfl
theorem dt_13 : dc_tt[13]? = some (1, 0, 740, []) := rfl
theorem dt_14 : dc_tt[14]? = some (1, 1, 6400, []) := rfl
theorem dt_15 : dc_tt[15]? = some (1, 0, 320, []) := rfl
theorem dt_16 : dc_tt[16]? = some (1, 0, 8, []) := rfl
theorem dt_17 : dc_tt[17]? = some (1, 0, 40, []) := rfl
theorem dt_18 : dc_tt[18]? = some (1, 0, 40, []) := rfl
theorem dt_19 : dc_tt[19]? = some (1, 0, 40, []) := rfl
theorem dt_20 : dc_tt[20]? = some (1, 0, 12, []) := rfl
theorem dt_21 : dc_tt[21]? = some (1, 0, 60, []) := rfl
theorem dt_22 : dc_tt[22]? = some (1, 1, 720, []) := rfl
theorem dt_23 : dc_tt[23]? = some (1, 0, 4, []) := rfl
theorem dt_24 : dc_tt[24]? = some (1, 1, 800, []) := rfl
theorem dt_25 : dc_tt[25]? = some (1, 0, 217, []) := rfl
theorem dt_26 : dc_tt[26]? = some (1, 0, 60, []) := rfl
theorem dt_27 : dc_tt[27]? = some (1, 0, 960, []) := rfl
theorem dt_28 : dc_tt[28]? = some (1, 0, 96, []) := rfl
theorem dt_29 : dc_tt[29]? = some (1, 0, 85, []) := rfl
theorem dt_30 : dc_tt[30]? = some (1, 0, 12, []) := rfl
theorem dt_31 : dc_tt[31]? = some (1, 0, 96, []) := rfl
theorem dt_32 : dc_tt[32]? = some (1, 0, 85, []) := rfl
theorem dt_33 : dc_tt[33]? = some (1, 0, 60, []) := rfl
theorem dt_34 : dc_tt[34]? = some (1, 0, 60, []) := rfl
theorem dt_35 : dc_tt[35]? = some (1, 0, 60, []) := rfl
theorem dt_36 : dc_tt[36]? = some (1, 0, 60, []) := rfl
theorem dt_37 : dc_tt[37]? = some (2, 3, 10, []) := rfl
theorem dt_38 : dc_tt[38]? = some (1, 0, 40, []) := rfl
theorem dt_39 : dc_tt[39]? = some (1, 0, 300, []) := rfl
theorem dt_40 : dc_tt[40]? = some (1, 0, 6, []) := rfl
theorem dt_41 : dc_tt[41]? = some (1, 0, 6, []) := rfl
theorem dt_42 : dc_tt[42]? = some (1, 0, 6, []) := rfl
theorem dt_43 : dc_tt[43]? = some (1, 0, 4, []) := rfl
theorem dt_44 : dc_tt[44]? = some (1, 0, 8, []) := rfl
theorem dt_45 : dc_tt[45]? = some (1, 0, 8, []) := rfl
theorem dt_46 : dc_tt[46]? = some (1, 0, 8, []) := rfl
theorem dt_47 : dc_tt[47]? = some (1, 0, 8, []) := rfl
theorem dt_48 : dc_tt[48]? = some (1, 0, 8, []) := rfl
theorem dt_49 : dc_tt[49]? = some (1, 2, 256, []) := rfl
theorem dt_50 : dc_tt[50]? = some (1, 0, 256, []) := rfl
theorem dt_51 : dc_tt[51]? = some (1, 0, 4, []) := rfl
theorem dt_52 : dc_tt[52]? = some (1, 0, 4, []) := rfl
theorem dt_53 : dc_tt[53]? = some (1, 0, 8, []) := rfl
theorem dt_54 : dc_tt[54]? = some (3, 4, 8, [(0, 64)]) := rfl
theorem dt_55 : dc_tt[55]? = some (1, 0, 6, []) := rfl
theorem dt_56 : dc_tt[56]? = some (1, 0, 6, []) := rfl
theorem dt_57 : dc_tt[57]? = some (1, 0, 42, []) := rfl
theorem dt_58 : dc_tt[58]? = some (1, 0, 6, []) := rfl
theorem dt_59 : dc_tt[59]? = some (1, 0, 6, []) := rfl
theorem dt_60 : dc_tt[60]? = some (1, 1, 740, []) := rfl
theorem dt_61 : dc_tt[61]? = some (1, 0, 6400, []) := rfl
theorem dt_62 : dc_tt[62]? = some (1, 0, 8, []) := rfl
theorem dt_63 : dc_tt[63]? = some (1, 0, 600, []) := rfl
theorem dt_64 : dc_tt[64]? = some (1, 0, 10, []) := rfl
theorem dt_65 : dc_tt[65]? = some (1, 0, 217, []) := rfl
theorem dt_66 : dc_tt[66]? = some (1, 2, 8, []) := rfl
theorem dt_67 : dc_tt[67]? = some (1, 0, 800, []) := rfl
theorem dt_68 : dc_tt[68]? = some (1, 0, 96, []) := rfl
theorem dt_69 : dc_tt[69]? = some (1, 0, 217, []) := rfl
theorem dt_70 : dc_tt[70]? = some (1, 0, 217, []) := rfl
theorem dt_71 : dc_tt[71]? = some (1, 0, 217, []) := rfl
theorem dt_72 : dc_tt[72]? = some (1, 2, 4, []) := rfl
theorem dt_73 : dc_tt[73]? = some (1, 0, 3, []) := rfl
theorem dt_74 : dc_tt[74]? = some (1, 0, 3, []) := rfl
theorem dt_75 : dc_tt[75]? = some (1, 0, 3, []) := rfl
theorem dt_76 : dc_tt[76]? = some (1, 0, 2160, []) := rfl
theorem dt_77 : dc_tt[77]? = some (1, 0, 12, []) := rfl
theorem dt_78 : dc_tt[78]? = some (1, 0, 2400, []) := rfl
theorem dt_79 : dc_tt[79]? = some (1, 0, 3, []) := rfl
theorem dt_80 : dc_tt[80]? = some (1, 0, 40, []) := rfl
theorem dt_81 : dc_tt[81]? = some (1, 0, 800, []) := rfl
theorem dt_82 : dc_tt[82]? = some (1, 0, 60, []) := rfl
theorem dt_83 : dc_tt[83]? = some (1, 0, 40, []) := rfl
theorem dt_84 : dc_tt[84]? = some (1, 0, 720, []) := rfl
theorem dt_85 : dc_tt[85]? = some (1, 0, 3, []) := rfl
theorem dt_86 : dc_tt[86]? = some (2, 3, 10, []) := rfl
theorem dt_87 : dc_tt[87]? = some (1, 0, 100, []) := rfl
theorem dt_88 : dc_tt[88]? = some (1, 0, 2, []) := rfl
theorem dt_89 : dc_tt[89]? = some (1, 0, 12, []) := rfl
theorem dt_90 : dc_tt[90]? = some (1, 0, 12, []) := rfl
theorem dt_91 : dc_tt[91]? = some (1, 0, 6, []) := rfl
theorem dt_92 : dc_tt[92]? = some (1, 0, 2, []) := rfl
theorem dt_93 : dc_tt[93]? = some (1, 0, 16, []) := rfl
theorem dt_94 : dc_tt[94]? = some (1, 0, 16, []) := rfl
theorem dt_95 : dc_tt[95]? = some (1, 0, 16, []) := rfl
theorem dt_96 : dc_tt[96]? = some (1, 0, 16, []) := rfl
theorem dt_97 : dc_tt[97]? = some (2, 3, 12, []) := rfl
theorem dt_98 : dc_tt[98]? = some (1, 0, 200, []) := rfl
theorem dt_99 : dc_tt[99]? = some (1, 0, 4, []) := rfl
theorem dt_100 : dc_tt[100]? = some (1, 0, 4, []) := rfl
theorem dt_101 : dc_tt[101]? = some (1, 0, 256, []) := rfl
theorem dt_102 : dc_tt[102]? = some (1, 0, 256, []) := rfl
theorem dt_103 : dc_tt[103]? = some (1, 2, 256, []) := rfl
theorem dt_104 : dc_tt[104]? = some (1, 0, 720, []) := rfl
theorem dt_105 : dc_tt[105]? = some (1, 0, 8, []) := rfl
theorem dt_106 : dc_tt[106]? = some (1, 0, 720, []) := rfl
theorem dt_107 : dc_tt[107]? = some (1, 0, 6, []) := rfl
theorem dt_108 : dc_tt[108]? = some (1, 0, 6, []) := rfl
theorem dt_109 : dc_tt[109]? = some (1, 2, 60, []) := rfl
/-- behind each t stands, d further, u -/
def dy_c (t d u : Nat) : List Nat → Bool
  | [] => true
  | a :: r => and (cond (Nat.beq a t) (match (a :: r)[d]? with
    | some z => Nat.beq z u
    | none => false) true) (dy_c t d u r)
theorem dy_l {t d u : Nat} : ∀ {l : List Nat}, dy_c t d u l = true → ∀ k : Nat, l[k]? = some t → l[k + d]? = some u
  | [], _, k, h => by simp at h
  | a :: r, hc, k, h => by
    have hc : and (cond (Nat.beq a t) (match (a :: r)[d]? with
      | some z => Nat.beq z u
      | none => false) true) (dy_c t d u r) = true := hc
    rw [Bool.and_eq_true] at hc
    cases k with
    | zero =>
      have e : a = t := Option.some.inj h
      subst e
      have h1 := hc.1
      rw [Nat.beq_refl, cond_true] at h1
      rw [Nat.zero_add]
      cases hz : (a :: r)[d]? with
      | none => rw [hz] at h1; cases h1
      | some z =>
        rw [hz] at h1
        rw [Nat.eq_of_beq_eq_true h1]
    | succ k =>
      have h : r[k]? = some t := h
      have e := dy_l hc.2 k h
      rw [show k + 1 + d = (k + d) + 1 by omega]
      exact e
theorem dy_ok {t d u : Nat} (h : dy_c t d u sv_tys = true) : ∀ k, k < 174 → sv_tys[k]? = some t → sv_tys[k + d]? = some u := fun k _ => dy_l h k
theorem do_0_0 {k : Nat} (h : sv_ty k = some 0) : sv_ty (k + 1) = some 21 := by
  have hl : k < 174 := (List.getElem?_eq_some_iff.mp h).1
  have key : ∀ k, k < 174 → sv_tys[k]? = some 0 → sv_tys[k + 1]? = some 21 := dy_ok (by decide +kernel)
  exact key k hl h
theorem do_0_1 {k : Nat} (h : sv_ty k = some 0) : sv_ty (k + 2) = some 21 := by
  have hl : k < 174 := (List.getElem?_eq_some_iff.mp h).1
  have key : ∀ k, k < 174 → sv_tys[k]? = some 0 → sv_tys[k + 2]? = some 21 := dy_ok (by decide +kernel)
  exact key k hl h
theorem do_1_0 {k : Nat} (h : sv_ty k = some 1) : sv_ty (k + 1) = some 14 := by
  have hl : k < 174 := (List.getElem?_eq_some_iff.mp h).1
  have key : ∀ k, k < 174 → sv_tys[k]? = some 1 → sv_tys[k + 1]? = some 14 := dy_ok (by decide +kernel)
  exact key k hl h
theorem do_1_1 {k : Nat} (h : sv_ty k = some 1) : sv_ty (k + 2) = some 15 := by
  have hl : k < 174 := (List.getElem?_eq_some_iff.mp h).1
  have key : ∀ k, k < 174 → sv_tys[k]? = some 1 → sv_tys[k + 2]? = some 15 := dy_ok (by decide +kernel)
  exact key k hl h
theorem do_1_2 {k : Nat} (h : sv_ty k = some 1) : sv_ty (k + 3) = some 16 := by
  have hl : k < 174 := (List.getElem?_eq_some_iff.mp h).1
  have key : ∀ k, k < 174 → sv_tys[k]? = some 1 → sv_tys[k + 3]? = some 16 := dy_ok (by decide +kernel)
  exact key k hl h
theorem do_1_3 {k : Nat} (h : sv_ty k = some 1) : sv_ty (k + 4) = some 17 := by
  have hl : k < 174 := (List.getElem?_eq_some_iff.mp h).1
  have key : ∀ k, k < 174 → sv_tys[k]? = some 1 → sv_tys[k + 4]? = some 17 := dy_ok (by decide +kernel)
  exact key k hl h
theorem do_1_5 {k : Nat} (h : sv_ty k = some 1) : sv_ty (k + 5) = some 18 := by
  have hl : k < 174 := (List.getElem?_eq_some_iff.mp h).1
  have key : ∀ k, k < 174 → sv_tys[k]? = some 1 → sv_tys[k + 5]? = some 18 := dy_ok (by decide +kernel)
  exact key k hl h
theorem do_1_6 {k : Nat} (h : sv_ty k = some 1) : sv_ty (k + 6) = some 19 := by
  have hl : k < 174 := (List.getElem?_eq_some_iff.mp h).1
  have key : ∀ k, k < 174 → sv_tys[k]? = some 1 → sv_tys[k + 6]? = some 19 := dy_ok (by decide +kernel)
  exact key k hl h
theorem do_1_7 {k : Nat} (h : sv_ty k = some 1) : sv_ty (k + 7) = some 20 := by
  have hl : k < 174 := (List.getElem?_eq_some_iff.mp h).1
  have key : ∀ k, k < 174 → sv_tys[k]? = some 1 → sv_tys[k + 7]? = some 20 := dy_ok (by decide +kernel)
  exact key k hl h
theorem do_2_0 {k : Nat} (h : sv_ty k = some 2) : sv_ty (k + 1) = some 40 := by
  have hl : k < 174 := (List.getElem?_eq_some_iff.mp h).1
  have key : ∀ k, k < 174 → sv_tys[k]? = some 2 → sv_tys[k + 1]? = some 40 := dy_ok (by decide +kernel)
  exact key k hl h
theorem do_2_1 {k : Nat} (h : sv_ty k = some 2) : sv_ty (k + 2) = some 41 := by
  have hl : k < 174 := (List.getElem?_eq_some_iff.mp h).1
  have key : ∀ k, k < 174 → sv_tys[k]? = some 2 → sv_tys[k + 2]? = some 41 := dy_ok (by decide +kernel)
  exact key k hl h
theorem do_2_2 {k : Nat} (h : sv_ty k = some 2) : sv_ty (k + 3) = some 42 := by
  have hl : k < 174 := (List.getElem?_eq_some_iff.mp h).1
  have key : ∀ k, k < 174 → sv_tys[k]? = some 2 → sv_tys[k + 3]? = some 42 := dy_ok (by decide +kernel)
  exact key k hl h
theorem do_2_4 {k : Nat} (h : sv_ty k = some 2) : sv_ty (k + 4) = some 43 := by
  have hl : k < 174 := (List.getElem?_eq_some_iff.mp h).1
  have key : ∀ k, k < 174 → sv_tys[k]? = some 2 → sv_tys[k + 4]? = some 43 := dy_ok (by decide +kernel)
  exact key k hl h
theorem do_2_5 {k : Nat} (h : sv_ty k = some 2) : sv_ty (k + 5) = some 44 := by
  have hl : k < 174 := (List.getElem?_eq_some_iff.mp h).1
  have key : ∀ k, k < 174 → sv_tys[k]? = some 2 → sv_tys[k + 5]? = some 44 := dy_ok (by decide +kernel)
  exact key k hl h
theorem do_2_6 {k : Nat} (h : sv_ty k = some 2) : sv_ty (k + 6) = some 45 := by
  have hl : k < 174 := (List.getElem?_eq_some_iff.mp h).1
  have key : ∀ k, k < 174 → sv_tys[k]? = some 2 → sv_tys[k + 6]? = some 45 := dy_ok (by decide +kernel)
  exact key k hl h
theorem do_2_7 {k : Nat} (h : sv_ty k = some 2) : sv_ty (k + 7) = some 46 := by
  have hl : k < 174 := (List.getElem?_eq_some_iff.mp h).1
  have key : ∀ k, k < 174 → sv_tys[k]? = some 2 → sv_tys[k + 7]? = some 46 := dy_ok (by decide +kernel)
  exact key k hl h
theorem do_2_8 {k : Nat} (h : sv_ty k = some 2) : sv_ty (k + 8) = some 47 := by
  have hl : k < 174 := (List.getElem?_eq_some_iff.mp h).1
  have key : ∀ k, k < 174 → sv_tys[k]? = some 2 → sv_tys[k + 8]? = some 47 := dy_ok (by decide +kernel)
  exact key k hl h
theorem do_3_1 {k : Nat} (h : sv_ty k = some 3) : sv_ty (k + 1) = some 4 := by
  have hl : k < 174 := (List.getElem?_eq_some_iff.mp h).1
  have key : ∀ k, k < 174 → sv_tys[k]? = some 3 → sv_tys[k + 1]? = some 4 := dy_ok (by decide +kernel)
  exact key k hl h
theorem do_3_2 {k : Nat} (h : sv_ty k = some 3) : sv_ty (k + 8) = some 31 := by
  have hl : k < 174 := (List.getElem?_eq_some_iff.mp h).1
  have key : ∀ k, k < 174 → sv_tys[k]? = some 3 → sv_tys[k + 8]? = some 31 := dy_ok (by decide +kernel)
  exact key k hl h
theorem do_3_3 {k : Nat} (h : sv_ty k = some 3) : sv_ty (k + 9) = some 32 := by
  have hl : k < 174 := (List.getElem?_eq_some_iff.mp h).1
  have key : ∀ k, k < 174 → sv_tys[k]? = some 3 → sv_tys[k + 9]? = some 32 := dy_ok (by decide +kernel)
  exact key k hl h
theorem do_3_4 {k : Nat} (h : sv_ty k = some 3) : sv_ty (k + 10) = some 33 := by
  have hl : k < 174 := (List.getElem?_eq_some_iff.mp h).1
  have key : ∀ k, k < 174 → sv_tys[k]? = some 3 → sv_tys[k + 10]? = some 33 := dy_ok (by decide +kernel)
  exact key k hl h
theorem do_3_5 {k : Nat} (h : sv_ty k = some 3) : sv_ty (k + 11) = some 34 := by
  have hl : k < 174 := (List.getElem?_eq_some_iff.mp h).1
  have key : ∀ k, k < 174 → sv_tys[k]? = some 3 → sv_tys[k + 11]? = some 34 := dy_ok (by decide +kernel)
  exact key k hl h
theorem do_3_6 {k : Nat} (h : sv_ty k = some 3) : sv_ty (k + 12) = some 35 := by
  have hl : k < 174 := (List.getElem?_eq_some_iff.mp h).1
  have key : ∀ k, k < 174 → sv_tys[k]? = some 3 → sv_tys[k + 12]? = some 35 := dy_ok (by decide +kernel)
  exact key k hl h
theorem do_4_0 {k : Nat} (h : sv_ty k = some 4) : sv_ty (k + 1) = some 25 := by
  have hl : k < 174 := (List.getElem?_eq_some_iff.mp h).1
  have key : ∀ k, k < 174 → sv_tys[k]? = some 4 → sv_tys[k + 1]? = some 25 := dy_ok (by decide +kernel)
  exact key k hl h
theorem do_4_1 {k : Nat} (h : sv_ty k = some 4) : sv_ty (k + 2) = some 26 := by
  have hl : k < 174 := (List.getElem?_eq_some_iff.mp h).1
  have key : ∀ k, k < 174 → sv_tys[k]? = some 4 → sv_tys[k + 2]? = some 26 := dy_ok (by decide +kernel)
  exact key k hl h
theorem do_4_3 {k : Nat} (h : sv_ty k = some 4) : sv_ty (k + 3) = some 27 := by
  have hl : k < 174 := (List.getElem?_eq_some_iff.mp h).1
  have key : ∀ k, k < 174 → sv_tys[k]? = some 4 → sv_tys[k + 3]? = some 27 := dy_ok (by decide +kernel)
  exact key k hl h
theorem do_4_5 {k : Nat} (h : sv_ty k = some 4) : sv_ty (k + 4) = some 28 := by
  have hl : k < 174 := (List.getElem?_eq_some_iff.mp h).1
  have key : ∀ k, k < 174 → sv_tys[k]? = some 4 → sv_tys[k + 4]? = some 28 := dy_ok (by decide +kernel)
  exact key k hl h
theorem do_4_9 {k : Nat} (h : sv_ty k = some 4) : sv_ty (k + 5) = some 29 := by
  have hl : k < 174 := (List.getElem?_eq_some_iff.mp h).1
  have key : ∀ k, k < 174 → sv_tys[k]? = some 4 → sv_tys[k + 5]? = some 29 := dy_ok (by decide +kernel)
  exact key k hl h
theorem do_4_12 {k : Nat} (h : sv_ty k = some 4) : sv_ty (k + 6) = some 30 := by
  have hl : k < 174 := (List.getElem?_eq_some_iff.mp h).1
  have key : ∀ k, k < 174 → sv_tys[k]? = some 4 → sv_tys[k + 6]? = some 30 := dy_ok (by decide +kernel)
  exact key k hl h
theorem do_5_0 {k : Nat} (h : sv_ty k = some 5) : sv_ty (k + 1) = some 7 := by
  have hl : k < 174 := (List.getElem?_eq_some_iff.mp h).1
  have key : ∀ k, k < 174 → sv_tys[k]? = some 5 → sv_tys[k + 1]? = some 7 := dy_ok (by decide +kernel)
  exact key k hl h
theorem do_5_1 {k : Nat} (h : sv_ty k = some 5) : sv_ty (k + 3) = some 23 := by
  have hl : k < 174 := (List.getElem?_eq_some_iff.mp h).1
  have key : ∀ k, k < 174 → sv_tys[k]? = some 5 → sv_tys[k + 3]? = some 23 := dy_ok (by decide +kernel)
  exact key k hl h
theorem do_5_2 {k : Nat} (h : sv_ty k = some 5) : sv_ty (k + 4) = some 24 := by
  have hl : k < 174 := (List.getElem?_eq_some_iff.mp h).1
  have key : ∀ k, k < 174 → sv_tys[k]? = some 5 → sv_tys[k + 4]? = some 24 := dy_ok (by decide +kernel)
  exact key k hl h
theorem do_6_0 {k : Nat} (h : sv_ty k = some 6) : sv_ty (k + 1) = some 48 := by
  have hl : k < 174 := (List.getElem?_eq_some_iff.mp h).1
  have key : ∀ k, k < 174 → sv_tys[k]? = some 6 → sv_tys[k + 1]? = some 48 := dy_ok (by decide +kernel)
  exact key k hl h
theorem do_6_2 {k : Nat} (h : sv_ty k = some 6) : sv_ty (k + 2) = some 49 := by
  have hl : k < 174 := (List.getElem?_eq_some_iff.mp h).1
  have key : ∀ k, k < 174 → sv_tys[k]? = some 6 → sv_tys[k + 2]? = some 49 := dy_ok (by decide +kernel)
  exact key k hl h
theorem do_6_3 {k : Nat} (h : sv_ty k = some 6) : sv_ty (k + 3) = some 50 := by
  have hl : k < 174 := (List.getElem?_eq_some_iff.mp h).1
  have key : ∀ k, k < 174 → sv_tys[k]? = some 6 → sv_tys[k + 3]? = some 50 := dy_ok (by decide +kernel)
  exact key k hl h
theorem do_6_4 {k : Nat} (h : sv_ty k = some 6) : sv_ty (k + 4) = some 0 := by
  have hl : k < 174 := (List.getElem?_eq_some_iff.mp h).1
  have key : ∀ k, k < 174 → sv_tys[k]? = some 6 → sv_tys[k + 4]? = some 0 := dy_ok (by decide +kernel)
  exact key k hl h
theorem do_6_5 {k : Nat} (h : sv_ty k = some 6) : sv_ty (k + 7) = some 51 := by
  have hl : k < 174 := (List.getElem?_eq_some_iff.mp h).1
  have key : ∀ k, k < 174 → sv_tys[k]? = some 6 → sv_tys[k + 7]? = some 51 := dy_ok (by decide +kernel)
  exact key k hl h
theorem do_6_6 {k : Nat} (h : sv_ty k = some 6) : sv_ty (k + 8) = some 52 := by
  have hl : k < 174 := (List.getElem?_eq_some_iff.mp h).1
  have key : ∀ k, k < 174 → sv_tys[k]? = some 6 → sv_tys[k + 8]? = some 52 := dy_ok (by decide +kernel)
  exact key k hl h
theorem do_6_11 {k : Nat} (h : sv_ty k = some 6) : sv_ty (k + 9) = some 53 := by
  have hl : k < 174 := (List.getElem?_eq_some_iff.mp h).1
  have key : ∀ k, k < 174 → sv_tys[k]? = some 6 → sv_tys[k + 9]? = some 53 := dy_ok (by decide +kernel)
  exact key k hl h
theorem do_7_0 {k : Nat} (h : sv_ty k = some 7) : sv_ty (k + 1) = some 22 := by
  have hl : k < 174 := (List.getElem?_eq_some_iff.mp h).1
  have key : ∀ k, k < 174 → sv_tys[k]? = some 7 → sv_tys[k + 1]? = some 22 := dy_ok (by decide +kernel)
  exact key k hl h
theorem do_8_0 {k : Nat} (h : sv_ty k = some 8) : sv_ty (k + 1) = some 54 := by
  have hl : k < 174 := (List.getElem?_eq_some_iff.mp h).1
  have key : ∀ k, k < 174 → sv_tys[k]? = some 8 → sv_tys[k + 1]? = some 54 := dy_ok (by decide +kernel)
  exact key k hl h
theorem do_8_3 {k : Nat} (h : sv_ty k = some 8) : sv_ty (k + 2) = some 55 := by
  have hl : k < 174 := (List.getElem?_eq_some_iff.mp h).1
  have key : ∀ k, k < 174 → sv_tys[k]? = some 8 → sv_tys[k + 2]? = some 55 := dy_ok (by decide +kernel)
  exact key k hl h
theorem do_8_4 {k : Nat} (h : sv_ty k = some 8) : sv_ty (k + 3) = some 56 := by
  have hl : k < 174 := (List.getElem?_eq_some_iff.mp h).1
  have key : ∀ k, k < 174 → sv_tys[k]? = some 8 → sv_tys[k + 3]? = some 56 := dy_ok (by decide +kernel)
  exact key k hl h
theorem do_8_5 {k : Nat} (h : sv_ty k = some 8) : sv_ty (k + 4) = some 56 := by
  have hl : k < 174 := (List.getElem?_eq_some_iff.mp h).1
  have key : ∀ k, k < 174 → sv_tys[k]? = some 8 → sv_tys[k + 4]? = some 56 := dy_ok (by decide +kernel)
  exact key k hl h
theorem do_8_6 {k : Nat} (h : sv_ty k = some 8) : sv_ty (k + 5) = some 57 := by
  have hl : k < 174 := (List.getElem?_eq_some_iff.mp h).1
  have key : ∀ k, k < 174 → sv_tys[k]? = some 8 → sv_tys[k + 5]? = some 57 := dy_ok (by decide +kernel)
  exact key k hl h
theorem do_8_7 {k : Nat} (h : sv_ty k = some 8) : sv_ty (k + 6) = some 58 := by
  have hl : k < 174 := (List.getElem?_eq_some_iff.mp h).1
  have key : ∀ k, k < 174 → sv_tys[k]? = some 8 → sv_tys[k + 6]? = some 58 := dy_ok (by decide +kernel)
  exact key k hl h
theorem do_8_8 {k : Nat} (h : sv_ty k = some 8) : sv_ty (k + 7) = some 59 := by
  have hl : k < 174 := (List.getElem?_eq_some_iff.mp h).1
  have key : ∀ k, k < 174 → sv_tys[k]? = some 8 → sv_tys[k + 7]? = some 59 := dy_ok (by decide +kernel)
  exact key k hl h
theorem do_9_0 {k : Nat} (h : sv_ty k = some 9) : sv_ty (k + 1) = some 13 := by
  have hl : k < 174 := (List.getElem?_eq_some_iff.mp h).1
  have key : ∀ k, k < 174 → sv_tys[k]? = some 9 → sv_tys[k + 1]? = some 13 := dy_ok (by decide +kernel)
  exact key k hl h
theorem do_10_2 {k : Nat} (h : sv_ty k = some 10) : sv_ty (k + 1) = some 5 := by
  have hl : k < 174 := (List.getElem?_eq_some_iff.mp h).1
  have key : ∀ k, k < 174 → sv_tys[k]? = some 10 → sv_tys[k + 1]? = some 5 := dy_ok (by decide +kernel)
  exact key k hl h
theorem do_10_3 {k : Nat} (h : sv_ty k = some 10) : sv_ty (k + 6) = some 5 := by
  have hl : k < 174 := (List.getElem?_eq_some_iff.mp h).1
  have key : ∀ k, k < 174 → sv_tys[k]? = some 10 → sv_tys[k + 6]? = some 5 := dy_ok (by decide +kernel)
  exact key k hl h
theorem do_10_4 {k : Nat} (h : sv_ty k = some 10) : sv_ty (k + 11) = some 7 := by
  have hl : k < 174 := (List.getElem?_eq_some_iff.mp h).1
  have key : ∀ k, k < 174 → sv_tys[k]? = some 10 → sv_tys[k + 11]? = some 7 := dy_ok (by decide +kernel)
  exact key k hl h
theorem do_10_5 {k : Nat} (h : sv_ty k = some 10) : sv_ty (k + 13) = some 36 := by
  have hl : k < 174 := (List.getElem?_eq_some_iff.mp h).1
  have key : ∀ k, k < 174 → sv_tys[k]? = some 10 → sv_tys[k + 13]? = some 36 := dy_ok (by decide +kernel)
  exact key k hl h
theorem do_10_7 {k : Nat} (h : sv_ty k = some 10) : sv_ty (k + 14) = some 37 := by
  have hl : k < 174 := (List.getElem?_eq_some_iff.mp h).1
  have key : ∀ k, k < 174 → sv_tys[k]? = some 10 → sv_tys[k + 14]? = some 37 := dy_ok (by decide +kernel)
  exact key k hl h
theorem do_10_10 {k : Nat} (h : sv_ty k = some 10) : sv_ty (k + 15) = some 38 := by
  have hl : k < 174 := (List.getElem?_eq_some_iff.mp h).1
  have key : ∀ k, k < 174 → sv_tys[k]? = some 10 → sv_tys[k + 15]? = some 38 := dy_ok (by decide +kernel)
  exact key k hl h
theorem do_10_12 {k : Nat} (h : sv_ty k = some 10) : sv_ty (k + 16) = some 39 := by
  have hl : k < 174 := (List.getElem?_eq_some_iff.mp h).1
  have key : ∀ k, k < 174 → sv_tys[k]? = some 10 → sv_tys[k + 16]? = some 39 := dy_ok (by decide +kernel)
  exact key k hl h
theorem do_11_0 {k : Nat} (h : sv_ty k = some 11) : sv_ty (k + 1) = some 9 := by
  have hl : k < 174 := (List.getElem?_eq_some_iff.mp h).1
  have key : ∀ k, k < 174 → sv_tys[k]? = some 11 → sv_tys[k + 1]? = some 9 := dy_ok (by decide +kernel)
  exact key k hl h
theorem do_11_1 {k : Nat} (h : sv_ty k = some 11) : sv_ty (k + 3) = some 1 := by
  have hl : k < 174 := (List.getElem?_eq_some_iff.mp h).1
  have key : ∀ k, k < 174 → sv_tys[k]? = some 11 → sv_tys[k + 3]? = some 1 := dy_ok (by decide +kernel)
  exact key k hl h
theorem do_11_2 {k : Nat} (h : sv_ty k = some 11) : sv_ty (k + 11) = some 5 := by
  have hl : k < 174 := (List.getElem?_eq_some_iff.mp h).1
  have key : ∀ k, k < 174 → sv_tys[k]? = some 11 → sv_tys[k + 11]? = some 5 := dy_ok (by decide +kernel)
  exact key k hl h
theorem do_11_3 {k : Nat} (h : sv_ty k = some 11) : sv_ty (k + 16) = some 3 := by
  have hl : k < 174 := (List.getElem?_eq_some_iff.mp h).1
  have key : ∀ k, k < 174 → sv_tys[k]? = some 11 → sv_tys[k + 16]? = some 3 := dy_ok (by decide +kernel)
  exact key k hl h
theorem do_11_4 {k : Nat} (h : sv_ty k = some 11) : sv_ty (k + 29) = some 10 := by
  have hl : k < 174 := (List.getElem?_eq_some_iff.mp h).1
  have key : ∀ k, k < 174 → sv_tys[k]? = some 11 → sv_tys[k + 29]? = some 10 := dy_ok (by decide +kernel)
  exact key k hl h
theorem do_11_5 {k : Nat} (h : sv_ty k = some 11) : sv_ty (k + 46) = some 6 := by
  have hl : k < 174 := (List.getElem?_eq_some_iff.mp h).1
  have key : ∀ k, k < 174 → sv_tys[k]? = some 11 → sv_tys[k + 46]? = some 6 := dy_ok (by decide +kernel)
  exact key k hl h
theorem do_11_6 {k : Nat} (h : sv_ty k = some 11) : sv_ty (k + 56) = some 8 := by
  have hl : k < 174 := (List.getElem?_eq_some_iff.mp h).1
  have key : ∀ k, k < 174 → sv_tys[k]? = some 11 → sv_tys[k + 56]? = some 8 := dy_ok (by decide +kernel)
  exact key k hl h
theorem do_11_7 {k : Nat} (h : sv_ty k = some 11) : sv_ty (k + 88) = some 7 := by
  have hl : k < 174 := (List.getElem?_eq_some_iff.mp h).1
  have key : ∀ k, k < 174 → sv_tys[k]? = some 11 → sv_tys[k + 88]? = some 7 := dy_ok (by decide +kernel)
  exact key k hl h
theorem do_12_1 {k : Nat} (h : sv_ty k = some 12) : sv_ty (k + 1) = some 60 := by
  have hl : k < 174 := (List.getElem?_eq_some_iff.mp h).1
  have key : ∀ k, k < 174 → sv_tys[k]? = some 12 → sv_tys[k + 1]? = some 60 := dy_ok (by decide +kernel)
  exact key k hl h
theorem do_12_5 {k : Nat} (h : sv_ty k = some 12) : sv_ty (k + 2) = some 61 := by
  have hl : k < 174 := (List.getElem?_eq_some_iff.mp h).1
  have key : ∀ k, k < 174 → sv_tys[k]? = some 12 → sv_tys[k + 2]? = some 61 := dy_ok (by decide +kernel)
  exact key k hl h
theorem do_12_6 {k : Nat} (h : sv_ty k = some 12) : sv_ty (k + 3) = some 62 := by
  have hl : k < 174 := (List.getElem?_eq_some_iff.mp h).1
  have key : ∀ k, k < 174 → sv_tys[k]? = some 12 → sv_tys[k + 3]? = some 62 := dy_ok (by decide +kernel)
  exact key k hl h
theorem do_12_15 {k : Nat} (h : sv_ty k = some 12) : sv_ty (k + 4) = some 63 := by
  have hl : k < 174 := (List.getElem?_eq_some_iff.mp h).1
  have key : ∀ k, k < 174 → sv_tys[k]? = some 12 → sv_tys[k + 4]? = some 63 := dy_ok (by decide +kernel)
  exact key k hl h
theorem do_12_16 {k : Nat} (h : sv_ty k = some 12) : sv_ty (k + 5) = some 63 := by
  have hl : k < 174 := (List.getElem?_eq_some_iff.mp h).1
  have key : ∀ k, k < 174 → sv_tys[k]? = some 12 → sv_tys[k + 5]? = some 63 := dy_ok (by decide +kernel)
  exact key k hl h
theorem do_12_17 {k : Nat} (h : sv_ty k = some 12) : sv_ty (k + 6) = some 64 := by
  have hl : k < 174 := (List.getElem?_eq_some_iff.mp h).1
  have key : ∀ k, k < 174 → sv_tys[k]? = some 12 → sv_tys[k + 6]? = some 64 := dy_ok (by decide +kernel)
  exact key k hl h
theorem do_12_18 {k : Nat} (h : sv_ty k = some 12) : sv_ty (k + 7) = some 65 := by
  have hl : k < 174 := (List.getElem?_eq_some_iff.mp h).1
  have key : ∀ k, k < 174 → sv_tys[k]? = some 12 → sv_tys[k + 7]? = some 65 := dy_ok (by decide +kernel)
  exact key k hl h
theorem do_12_19 {k : Nat} (h : sv_ty k = some 12) : sv_ty (k + 8) = some 66 := by
  have hl : k < 174 := (List.getElem?_eq_some_iff.mp h).1
  have key : ∀ k, k < 174 → sv_tys[k]? = some 12 → sv_tys[k + 8]? = some 66 := dy_ok (by decide +kernel)
  exact key k hl h
theorem do_12_23 {k : Nat} (h : sv_ty k = some 12) : sv_ty (k + 9) = some 67 := by
  have hl : k < 174 := (List.getElem?_eq_some_iff.mp h).1
  have key : ∀ k, k < 174 → sv_tys[k]? = some 12 → sv_tys[k + 9]? = some 67 := dy_ok (by decide +kernel)
  exact key k hl h
theorem do_12_24 {k : Nat} (h : sv_ty k = some 12) : sv_ty (k + 10) = some 68 := by
  have hl : k < 174 := (List.getElem?_eq_some_iff.mp h).1
  have key : ∀ k, k < 174 → sv_tys[k]? = some 12 → sv_tys[k + 10]? = some 68 := dy_ok (by decide +kernel)
  exact key k hl h
theorem do_12_25 {k : Nat} (h : sv_ty k = some 12) : sv_ty (k + 11) = some 69 := by
  have hl : k < 174 := (List.getElem?_eq_some_iff.mp h).1
  have key : ∀ k, k < 174 → sv_tys[k]? = some 12 → sv_tys[k + 11]? = some 69 := dy_ok (by decide +kernel)
  exact key k hl h
theorem do_12_26 {k : Nat} (h : sv_ty k = some 12) : sv_ty (k + 12) = some 69 := by
  have hl : k < 174 := (List.getElem?_eq_some_iff.mp h).1
  have key : ∀ k, k < 174 → sv_tys[k]? = some 12 → sv_tys[k + 12]? = some 69 := dy_ok (by decide +kernel)
  exact key k hl h
theorem do_12_27 {k : Nat} (h : sv_ty k = some 12) : sv_ty (k + 13) = some 70 := by
  have hl : k < 174 := (List.getElem?_eq_some_iff.mp h).1
  have key : ∀ k, k < 174 → sv_tys[k]? = some 12 → sv_tys[k + 13]? = some 70 := dy_ok (by decide +kernel)
  exact key k hl h
theorem do_12_28 {k : Nat} (h : sv_ty k = some 12) : sv_ty (k + 14) = some 71 := by
  have hl : k < 174 := (List.getElem?_eq_some_iff.mp h).1
  have key : ∀ k, k < 174 → sv_tys[k]? = some 12 → sv_tys[k + 14]? = some 71 := dy_ok (by decide +kernel)
  exact key k hl h
theorem do_12_29 {k : Nat} (h : sv_ty k = some 12) : sv_ty (k + 15) = some 72 := by
  have hl : k < 174 := (List.getElem?_eq_some_iff.mp h).1
  have key : ∀ k, k < 174 → sv_tys[k]? = some 12 → sv_tys[k + 15]? = some 72 := dy_ok (by decide +kernel)
  exact key k hl h
theorem do_12_30 {k : Nat} (h : sv_ty k = some 12) : sv_ty (k + 16) = some 73 := by
  have hl : k < 174 := (List.getElem?_eq_some_iff.mp h).1
  have key : ∀ k, k < 174 → sv_tys[k]? = some 12 → sv_tys[k + 16]? = some 73 := dy_ok (by decide +kernel)
  exact key k hl h
theorem do_12_31 {k : Nat} (h : sv_ty k = some 12) : sv_ty (k + 17) = some 74 := by
  have hl : k < 174 := (List.getElem?_eq_some_iff.mp h).1
  have key : ∀ k, k < 174 → sv_tys[k]? = some 12 → sv_tys[k + 17]? = some 74 := dy_ok (by decide +kernel)
  exact key k hl h
theorem do_12_32 {k : Nat} (h : sv_ty k = some 12) : sv_ty (k + 18) = some 75 := by
  have hl : k < 174 := (List.getElem?_eq_some_iff.mp h).1
  have key : ∀ k, k < 174 → sv_tys[k]? = some 12 → sv_tys[k + 18]? = some 75 := dy_ok (by decide +kernel)
  exact key k hl h
theorem do_12_33 {k : Nat} (h : sv_ty k = some 12) : sv_ty (k + 19) = some 76 := by
  have hl : k < 174 := (List.getElem?_eq_some_iff.mp h).1
  have key : ∀ k, k < 174 → sv_tys[k]? = some 12 → sv_tys[k + 19]? = some 76 := dy_ok (by decide +kernel)
  exact key k hl h
theorem do_12_34 {k : Nat} (h : sv_ty k = some 12) : sv_ty (k + 20) = some 77 := by
  have hl : k < 174 := (List.getElem?_eq_some_iff.mp h).1
  have key : ∀ k, k < 174 → sv_tys[k]? = some 12 → sv_tys[k + 20]? = some 77 := dy_ok (by decide +kernel)
  exact key k hl h
theorem do_12_35 {k : Nat} (h : sv_ty k = some 12) : sv_ty (k + 21) = some 78 := by
  have hl : k < 174 := (List.getElem?_eq_some_iff.mp h).1
  have key : ∀ k, k < 174 → sv_tys[k]? = some 12 → sv_tys[k + 21]? = some 78 := dy_ok (by decide +kernel)
  exact key k hl h
theorem do_12_36 {k : Nat} (h : sv_ty k = some 12) : sv_ty (k + 22) = some 79 := by
  have hl : k < 174 := (List.getElem?_eq_some_iff.mp h).1
  have key : ∀ k, k < 174 → sv_tys[k]? = some 12 → sv_tys[k + 22]? = some 79 := dy_ok (by decide +kernel)
  exact key k hl h
theorem do_12_37 {k : Nat} (h : sv_ty k = some 12) : sv_ty (k + 23) = some 79 := by
  have hl : k < 174 := (List.getElem?_eq_some_iff.mp h).1
  have key : ∀ k, k < 174 → sv_tys[k]? = some 12 → sv_tys[k + 23]? = some 79 := dy_ok (by decide +kernel)
  exact key k hl h
theorem do_12_38 {k : Nat} (h : sv_ty k = some 12) : sv_ty (k + 24) = some 79 := by
  have hl : k < 174 := (List.getElem?_eq_some_iff.mp h).1
  have key : ∀ k, k < 174 → sv_tys[k]? = some 12 → sv_tys[k + 24]? = some 79 := dy_ok (by decide +kernel)
  exact key k hl h
theorem do_12_39 {k : Nat} (h : sv_ty k = some 12) : sv_ty (k + 25) = some 79 := by
  have hl : k < 174 := (List.getElem?_eq_some_iff.mp h).1
  have key : ∀ k, k < 174 → sv_tys[k]? = some 12 → sv_tys[k + 25]? = some 79 := dy_ok (by decide +kernel)
  exact key k hl h
theorem do_12_40 {k : Nat} (h : sv_ty k = some 12) : sv_ty (k + 26) = some 79 := by
  have hl : k < 174 := (List.getElem?_eq_some_iff.mp h).1
  have key : ∀ k, k < 174 → sv_tys[k]? = some 12 → sv_tys[k + 26]? = some 79 := dy_ok (by decide +kernel)
  exact key k hl h
theorem do_12_45 {k : Nat} (h : sv_ty k = some 12) : sv_ty (k + 27) = some 80 := by
  have hl : k < 174 := (List.getElem?_eq_some_iff.mp h).1
  have key : ∀ k, k < 174 → sv_tys[k]? = some 12 → sv_tys[k + 27]? = some 80 := dy_ok (by decide +kernel)
  exact key k hl h
theorem do_12_46 {k : Nat} (h : sv_ty k = some 12) : sv_ty (k + 28) = some 81 := by
  have hl : k < 174 := (List.getElem?_eq_some_iff.mp h).1
  have key : ∀ k, k < 174 → sv_tys[k]? = some 12 → sv_tys[k + 28]? = some 81 := dy_ok (by decide +kernel)
  exact key k hl h
theorem do_12_48 {k : Nat} (h : sv_ty k = some 12) : sv_ty (k + 29) = some 82 := by
  have hl : k < 174 := (List.getElem?_eq_some_iff.mp h).1
  have key : ∀ k, k < 174 → sv_tys[k]? = some 12 → sv_tys[k + 29]? = some 82 := dy_ok (by decide +kernel)
  exact key k hl h
theorem do_12_49 {k : Nat} (h : sv_ty k = some 12) : sv_ty (k + 30) = some 83 := by
  have hl : k < 174 := (List.getElem?_eq_some_iff.mp h).1
  have key : ∀ k, k < 174 → sv_tys[k]? = some 12 → sv_tys[k + 30]? = some 83 := dy_ok (by decide +kernel)
  exact key k hl h
theorem do_12_50 {k : Nat} (h : sv_ty k = some 12) : sv_ty (k + 31) = some 84 := by
  have hl : k < 174 := (List.getElem?_eq_some_iff.mp h).1
  have key : ∀ k, k < 174 → sv_tys[k]? = some 12 → sv_tys[k + 31]? = some 84 := dy_ok (by decide +kernel)
  exact key k hl h
theorem do_12_51 {k : Nat} (h : sv_ty k = some 12) : sv_ty (k + 32) = some 85 := by
  have hl : k < 174 := (List.getElem?_eq_some_iff.mp h).1
  have key : ∀ k, k < 174 → sv_tys[k]? = some 12 → sv_tys[k + 32]? = some 85 := dy_ok (by decide +kernel)
  exact key k hl h
theorem do_12_52 {k : Nat} (h : sv_ty k = some 12) : sv_ty (k + 33) = some 86 := by
  have hl : k < 174 := (List.getElem?_eq_some_iff.mp h).1
  have key : ∀ k, k < 174 → sv_tys[k]? = some 12 → sv_tys[k + 33]? = some 86 := dy_ok (by decide +kernel)
  exact key k hl h
theorem do_12_58 {k : Nat} (h : sv_ty k = some 12) : sv_ty (k + 34) = some 87 := by
  have hl : k < 174 := (List.getElem?_eq_some_iff.mp h).1
  have key : ∀ k, k < 174 → sv_tys[k]? = some 12 → sv_tys[k + 34]? = some 87 := dy_ok (by decide +kernel)
  exact key k hl h
theorem do_12_59 {k : Nat} (h : sv_ty k = some 12) : sv_ty (k + 35) = some 87 := by
  have hl : k < 174 := (List.getElem?_eq_some_iff.mp h).1
  have key : ∀ k, k < 174 → sv_tys[k]? = some 12 → sv_tys[k + 35]? = some 87 := dy_ok (by decide +kernel)
  exact key k hl h
theorem do_12_60 {k : Nat} (h : sv_ty k = some 12) : sv_ty (k + 36) = some 87 := by
  have hl : k < 174 := (List.getElem?_eq_some_iff.mp h).1
  have key : ∀ k, k < 174 → sv_tys[k]? = some 12 → sv_tys[k + 36]? = some 87 := dy_ok (by decide +kernel)
  exact key k hl h
theorem do_12_62 {k : Nat} (h : sv_ty k = some 12) : sv_ty (k + 37) = some 88 := by
  have hl : k < 174 := (List.getElem?_eq_some_iff.mp h).1
  have key : ∀ k, k < 174 → sv_tys[k]? = some 12 → sv_tys[k + 37]? = some 88 := dy_ok (by decide +kernel)
  exact key k hl h
theorem do_12_63 {k : Nat} (h : sv_ty k = some 12) : sv_ty (k + 38) = some 89 := by
  have hl : k < 174 := (List.getElem?_eq_some_iff.mp h).1
  have key : ∀ k, k < 174 → sv_tys[k]? = some 12 → sv_tys[k + 38]? = some 89 := dy_ok (by decide +kernel)
  exact key k hl h
theorem do_12_64 {k : Nat} (h : sv_ty k = some 12) : sv_ty (k + 39) = some 90 := by
  have hl : k < 174 := (List.getElem?_eq_some_iff.mp h).1
  have key : ∀ k, k < 174 → sv_tys[k]? = some 12 → sv_tys[k + 39]? = some 90 := dy_ok (by decide +kernel)
  exact key k hl h
theorem do_12_65 {k : Nat} (h : sv_ty k = some 12) : sv_ty (k + 40) = some 91 := by
  have hl : k < 174 := (List.getElem?_eq_some_iff.mp h).1
  have key : ∀ k, k < 174 → sv_tys[k]? = some 12 → sv_tys[k + 40]? = some 91 := dy_ok (by decide +kernel)
  exact key k hl h
theorem do_12_66 {k : Nat} (h : sv_ty k = some 12) : sv_ty (k + 41) = some 92 := by
  have hl : k < 174 := (List.getElem?_eq_some_iff.mp h).1
  have key : ∀ k, k < 174 → sv_tys[k]? = some 12 → sv_tys[k + 41]? = some 92 := dy_ok (by decide +kernel)
  exact key k hl h
theorem do_12_67 {k : Nat} (h : sv_ty k = some 12) : sv_ty (k + 42) = some 93 := by
  have hl : k < 174 := (List.getElem?_eq_some_iff.mp h).1
  have key : ∀ k, k < 174 → sv_tys[k]? = some 12 → sv_tys[k + 42]? = some 93 := dy_ok (by decide +kernel)
  exact key k hl h
theorem do_12_68 {k : Nat} (h : sv_ty k = some 12) : sv_ty (k + 43) = some 94 := by
  have hl : k < 174 := (List.getElem?_eq_some_iff.mp h).1
  have key : ∀ k, k < 174 → sv_tys[k]? = some 12 → sv_tys[k + 43]? = some 94 := dy_ok (by decide +kernel)
  exact key k hl h
theorem do_12_69 {k : Nat} (h : sv_ty k = some 12) : sv_ty (k + 44) = some 95 := by
  have hl : k < 174 := (List.getElem?_eq_some_iff.mp h).1
  have key : ∀ k, k < 174 → sv_tys[k]? = some 12 → sv_tys[k + 44]? = some 95 := dy_ok (by decide +kernel)
  exact key k hl h
theorem do_12_70 {k : Nat} (h : sv_ty k = some 12) : sv_ty (k + 45) = some 96 := by
  have hl : k < 174 := (List.getElem?_eq_some_iff.mp h).1
  have key : ∀ k, k < 174 → sv_tys[k]? = some 12 → sv_tys[k + 45]? = some 96 := dy_ok (by decide +kernel)
  exact key k hl h
theorem do_12_71 {k : Nat} (h : sv_ty k = some 12) : sv_ty (k + 46) = some 97 := by
  have hl : k < 174 := (List.getElem?_eq_some_iff.mp h).1
  have key : ∀ k, k < 174 → sv_tys[k]? = some 12 → sv_tys[k + 46]? = some 97 := dy_ok (by decide +kernel)
  exact key k hl h
theorem do_12_72 {k : Nat} (h : sv_ty k = some 12) : sv_ty (k + 47) = some 98 := by
  have hl : k < 174 := (List.getElem?_eq_some_iff.mp h).1
  have key : ∀ k, k < 174 → sv_tys[k]? = some 12 → sv_tys[k + 47]? = some 98 := dy_ok (by decide +kernel)
  exact key k hl h
theorem do_12_73 {k : Nat} (h : sv_ty k = some 12) : sv_ty (k + 48) = some 98 := by
  have hl : k < 174 := (List.getElem?_eq_some_iff.mp h).1
  have key : ∀ k, k < 174 → sv_tys[k]? = some 12 → sv_tys[k + 48]? = some 98 := dy_ok (by decide +kernel)
  exact key k hl h
theorem do_12_74 {k : Nat} (h : sv_ty k = some 12) : sv_ty (k + 49) = some 99 := by
  have hl : k < 174 := (List.getElem?_eq_some_iff.mp h).1
  have key : ∀ k, k < 174 → sv_tys[k]? = some 12 → sv_tys[k + 49]? = some 99 := dy_ok (by decide +kernel)
  exact key k hl h
theorem do_12_75 {k : Nat} (h : sv_ty k = some 12) : sv_ty (k + 50) = some 100 := by
  have hl : k < 174 := (List.getElem?_eq_some_iff.mp h).1
  have key : ∀ k, k < 174 → sv_tys[k]? = some 12 → sv_tys[k + 50]? = some 100 := dy_ok (by decide +kernel)
  exact key k hl h
theorem do_12_76 {k : Nat} (h : sv_ty k = some 12) : sv_ty (k + 51) = some 101 := by
  have hl : k < 174 := (List.getElem?_eq_some_iff.mp h).1
  have key : ∀ k, k < 174 → sv_tys[k]? = some 12 → sv_tys[k + 51]? = some 101 := dy_ok (by decide +kernel)
  exact key k hl h
theorem do_12_77 {k : Nat} (h : sv_ty k = some 12) : sv_ty (k + 52) = some 102 := by
  have hl : k < 174 := (List.getElem?_eq_some_iff.mp h).1
  have key : ∀ k, k < 174 → sv_tys[k]? = some 12 → sv_tys[k + 52]? = some 102 := dy_ok (by decide +kernel)
  exact key k hl h
theorem do_12_78 {k : Nat} (h : sv_ty k = some 12) : sv_ty (k + 53) = some 103 := by
  have hl : k < 174 := (List.getElem?_eq_some_iff.mp h).1
  have key : ∀ k, k < 174 → sv_tys[k]? = some 12 → sv_tys[k + 53]? = some 103 := dy_ok (by decide +kernel)
  exact key k hl h
theorem do_12_82 {k : Nat} (h : sv_ty k = some 12) : sv_ty (k + 54) = some 104 := by
  have hl : k < 174 := (List.getElem?_eq_some_iff.mp h).1
  have key : ∀ k, k < 174 → sv_tys[k]? = some 12 → sv_tys[k + 54]? = some 104 := dy_ok (by decide +kernel)
  exact key k hl h
theorem do_12_83 {k : Nat} (h : sv_ty k = some 12) : sv_ty (k + 55) = some 105 := by
  have hl : k < 174 := (List.getElem?_eq_some_iff.mp h).1
  have key : ∀ k, k < 174 → sv_tys[k]? = some 12 → sv_tys[k + 55]? = some 105 := dy_ok (by decide +kernel)
  exact key k hl h
theorem do_12_87 {k : Nat} (h : sv_ty k = some 12) : sv_ty (k + 56) = some 106 := by
  have hl : k < 174 := (List.getElem?_eq_some_iff.mp h).1
  have key : ∀ k, k < 174 → sv_tys[k]? = some 12 → sv_tys[k + 56]? = some 106 := dy_ok (by decide +kernel)
  exact key k hl h
theorem do_12_88 {k : Nat} (h : sv_ty k = some 12) : sv_ty (k + 57) = some 107 := by
  have hl : k < 174 := (List.getElem?_eq_some_iff.mp h).1
  have key : ∀ k, k < 174 → sv_tys[k]? = some 12 → sv_tys[k + 57]? = some 107 := dy_ok (by decide +kernel)
  exact key k hl h
theorem do_12_89 {k : Nat} (h : sv_ty k = some 12) : sv_ty (k + 58) = some 108 := by
  have hl : k < 174 := (List.getElem?_eq_some_iff.mp h).1
  have key : ∀ k, k < 174 → sv_tys[k]? = some 12 → sv_tys[k + 58]? = some 108 := dy_ok (by decide +kernel)
  exact key k hl h
theorem do_12_91 {k : Nat} (h : sv_ty k = some 12) : sv_ty (k + 59) = some 109 := by
  have hl : k < 174 := (List.getElem?_eq_some_iff.mp h).1
  have key : ∀ k, k < 174 → sv_tys[k]? = some 12 → sv_tys[k + 59]? = some 109 := dy_ok (by decide +kernel)
  exact key k hl h
/-! the memory -/
def dc_w (z : Int) : Int := sv_g (sv_u z)
theorem dc_w_I (z : Int) : sv_I (dc_w z) := sv_g_I (sv_u_lt z)
theorem dc_w_eq {z : Int} (h : sv_I z) : dc_w z = z := sv_g_u h
theorem dc_w_i (z : Int) : (wk_i (dc_w z) : ae_V) = wk_i z := by
  show (Sum.inl (Sum.inl (sv_u (sv_g (sv_u z)))) : ae_V) = Sum.inl (Sum.inl (sv_u z))
  rw [sv_u_g (sv_u_lt z)]
abbrev dc_M : Type := Nat → Int → Int
def dc_v (v : ae_V) : Int := match v with
  | .inl (.inl z) => sv_g z
  | .inl (.inr _) => 0
  | .inr (.inl z) => (z : Int)
  | .inr (.inr none) => -1
  | .inr (.inr (some k)) => (k : Int)
noncomputable def dc_c (c : Option ae_C) (i : Nat) : Int := match c with
  | some (.inr (_, fs)) => (match fs[i]? with
    | some v => dc_v v
    | none => 0)
  | some (.inl (t, _, .inl A)) => cond (Nat.beq t 3) ((ae_rd 64 A i : Nat) : Int) (sv_g (ae_rd 32 A i))
  | some (.inl (_, _, .inr (.inr l))) => (match l[i]? with
    | some (some k) => (k : Int)
    | _ => -1)
  | _ => 0
noncomputable def dc_m (h : ae_H) : dc_M := fun k i => if i < 0 then 0 else dc_c (ae_hg h k) i.toNat
def dc_up (m : dc_M) (k : Nat) (i v : Int) : dc_M := fun k' i' => if k' = k ∧ i' = i then v else m k' i'
theorem dc_up_s {m : dc_M} {k : Nat} {i v : Int} : dc_up m k i v k i = v := if_pos ⟨rfl, rfl⟩
theorem dc_up_k {m : dc_M} {k k' : Nat} {i i' v : Int} (h : k' ≠ k) : dc_up m k i v k' i' = m k' i' := if_neg (fun z => h z.1)
theorem dc_up_i {m : dc_M} {k k' : Nat} {i i' v : Int} (h : i' ≠ i) : dc_up m k i v k' i' = m k' i' := if_neg (fun z => h z.2)
/-! the shape -/
def dc_fk (k : Nat) (f : Nat × Nat) (v : ae_V) : Prop := match f.1 with
  | 0 => ∃ z, z < 4294967296 ∧ v = .inl (.inl z)
  | 1 => v = wk_r (k + f.2)
  | 2 => ∃ k2, v = wk_r k2 ∧ sv_ty k2 = some f.2
  | 3 => v = .inr (.inr none) ∨ ∃ k2, v = wk_r k2 ∧ sv_ty k2 = some f.2
  | 4 => ∃ z, z < 18446744073709551616 ∧ v = .inr (.inl z)
  | _ => v = wk_r f.2
def dc_sh (h : ae_H) (k : Nat) (S : dc_S) : Prop := match S.1 with
  | 0 => ∃ fs, ae_hg h k = some (.inr (S.2.1, fs)) ∧ fs.length = S.2.2.2.length ∧ ∀ (j : Nat) (f : Nat × Nat) (v : ae_V), S.2.2.2[j]? = some f → fs[j]? = some v → dc_fk k f v
  | 3 => ae_hg h k = some (.inl (4, S.2.2.1, .inr (.inr ((List.range S.2.2.1).map (fun i => some (((S.2.2.2[0]?).getD (0, 0)).2 + 3 * i))))))
  | _ => ∃ A, ae_hg h k = some (.inl (S.2.1, S.2.2.1, .inl A))
def dc_ok (h : ae_H) : Prop := ∀ k t, sv_ty k = some t → ∃ S, dc_tt[t]? = some S ∧ dc_sh h k S
section
variable {h : ae_H} {k t ci z0 j : Nat} {fl : List (Nat × Nat)}
theorem dc_o (hk : dc_ok h) (ht : sv_ty k = some t) (hT : dc_tt[t]? = some (0, ci, z0, fl)) : ∃ fs, ae_hg h k = some (.inr (ci, fs)) ∧ fs.length = fl.length ∧ ∀ (j : Nat) (f : Nat × Nat) (v : ae_V), fl[j]? = some f → fs[j]? = some v → dc_fk k f v := by
  obtain ⟨S, e, hs⟩ := hk k t ht
  rw [hT] at e
  cases e
  exact hs
theorem dc_a {tag len : Nat} {x : List (Nat × Nat)} (hk : dc_ok h) (ht : sv_ty k = some t) (hT : dc_tt[t]? = some (1, tag, len, x)) : ∃ A, ae_hg h k = some (.inl (tag, len, .inl A)) := by
  obtain ⟨S, e, hs⟩ := hk k t ht
  rw [hT] at e
  cases e
  exact hs
theorem dc_f (hk : dc_ok h) (ht : sv_ty k = some t) (hT : dc_tt[t]? = some (0, ci, z0, fl)) {f : Nat × Nat} (hf : fl[j]? = some f) : ∃ v, wk_F h k j = some v ∧ dc_fk k f v ∧ dc_m h k j = dc_v v := by
  obtain ⟨fs, g1, g2, g3⟩ := dc_o hk ht hT
  have hj : j < fs.length := by rw [g2]; exact (List.getElem?_eq_some_iff.mp hf).1
  have e := List.getElem?_eq_getElem hj
  refine ⟨fs[j], by rw [wk_F_of g1, e], g3 j f _ hf e, ?_⟩
  show (if (j : Int) < 0 then 0 else dc_c (ae_hg h k) (j : Int).toNat) = _
  rw [if_neg (by omega), g1, Int.toNat_natCast]
  show (match fs[j]? with
    | some v => dc_v v
    | none => 0) = _
  rw [e]
theorem dc_fi (hk : dc_ok h) (ht : sv_ty k = some t) (hT : dc_tt[t]? = some (0, ci, z0, fl)) (hf : fl[j]? = some (0, 0)) : wk_F h k j = some (wk_i (dc_m h k j)) ∧ sv_I (dc_m h k j) := by
  obtain ⟨v, h1, ⟨z, hz, e⟩, h3⟩ := dc_f hk ht hT hf
  subst e
  have h3 : dc_m h k j = sv_g z := h3
  rw [h1, h3]
  refine ⟨?_, sv_g_I hz⟩
  show some (Sum.inl (Sum.inl z) : ae_V) = some (Sum.inl (Sum.inl (sv_u (sv_g z))))
  rw [sv_u_g hz]
theorem dc_fr {d : Nat} (hk : dc_ok h) (ht : sv_ty k = some t) (hT : dc_tt[t]? = some (0, ci, z0, fl)) (hf : fl[j]? = some (1, d)) : wk_F h k j = some (wk_r (k + d)) := by
  obtain ⟨v, h1, e, -⟩ := dc_f hk ht hT hf
  have e : v = wk_r (k + d) := e
  rw [h1, e]
theorem dc_fa {d : Nat} (hk : dc_ok h) (ht : sv_ty k = some t) (hT : dc_tt[t]? = some (0, ci, z0, fl)) (hf : fl[j]? = some (5, d)) : wk_F h k j = some (wk_r d) := by
  obtain ⟨v, h1, e, -⟩ := dc_f hk ht hT hf
  have e : v = wk_r d := e
  rw [h1, e]
theorem dc_ft {d : Nat} (hk : dc_ok h) (ht : sv_ty k = some t) (hT : dc_tt[t]? = some (0, ci, z0, fl)) (hf : fl[j]? = some (2, d)) : wk_F h k j = some (wk_r (dc_m h k j).toNat) ∧ sv_ty (dc_m h k j).toNat = some d := by
  obtain ⟨v, h1, ⟨k2, e, e2⟩, h3⟩ := dc_f hk ht hT hf
  subst e
  have h3 : dc_m h k j = (k2 : Int) := h3
  rw [h1, h3, Int.toNat_natCast]
  exact ⟨rfl, e2⟩
theorem dc_fl (hk : dc_ok h) (ht : sv_ty k = some t) (hT : dc_tt[t]? = some (0, ci, z0, fl)) (hf : fl[j]? = some (4, 0)) : wk_F h k j = some (wk_l (dc_m h k j).toNat) ∧ (dc_m h k j).toNat < 18446744073709551616 := by
  obtain ⟨v, h1, ⟨z, hz, e⟩, h3⟩ := dc_f hk ht hT hf
  subst e
  have h3 : dc_m h k j = (z : Int) := h3
  rw [h1, h3, Int.toNat_natCast]
  exact ⟨rfl, hz⟩
/-- a place of a row -/
theorem dc_ra {tag len A : Nat} (hg : ae_hg h k = some (.inl (tag, len, .inl A))) (ht : tag ≠ 3) {i : Int} (hi : 0 ≤ i) : dc_m h k i = sv_g (ae_rd 32 A i.toNat) := by
  show (if i < 0 then 0 else dc_c (ae_hg h k) i.toNat) = _
  rw [if_neg (by omega), hg]
  show cond (Nat.beq tag 3) ((ae_rd 64 A i.toNat : Nat) : Int) (sv_g (ae_rd 32 A i.toNat)) = _
  cases hb : Nat.beq tag 3 with
  | true => exact absurd (Nat.eq_of_beq_eq_true hb) ht
  | false => rfl
theorem dc_m_neg {i : Int} (hi : i < 0) : dc_m h k i = 0 := if_pos hi
theorem dc_aI {tag len : Nat} {x : List (Nat × Nat)} (hk : dc_ok h) (ht : sv_ty k = some t) (hT : dc_tt[t]? = some (1, tag, len, x)) (h3 : tag ≠ 3) (i : Int) : sv_I (dc_m h k i) := by
  obtain ⟨A, hg⟩ := dc_a hk ht hT
  by_cases hi : i < 0
  · rw [dc_m_neg hi]; unfold sv_I; omega
  · rw [dc_ra hg h3 (by omega)]; exact sv_g_I (ae_rd_lt 32 A _)
theorem dc_aR {tag len : Nat} {x : List (Nat × Nat)} (hk : dc_ok h) (ht : sv_ty k = some t) (hT : dc_tt[t]? = some (1, tag, len, x)) (h3 : tag ≠ 3) {i : Int} (hi : 0 ≤ i) : wk_R h k i = dc_m h k i := by
  obtain ⟨A, hg⟩ := dc_a hk ht hT
  rw [dc_ra hg h3 hi, wk_R_of hg]
end
/-! stores -/
theorem dc_set_f {h : ae_H} {k t ci z0 j : Nat} {fl : List (Nat × Nat)} {v : ae_V} {f : Nat × Nat} {fs : List ae_V} (hk : dc_ok h) (ht : sv_ty k = some t) (hT : dc_tt[t]? = some (0, ci, z0, fl)) (hf : fl[j]? = some f) (hv : dc_fk k f v) (g1 : ae_hg h k = some (.inr (ci, fs))) (g2 : fs.length = fl.length) : dc_ok (ae_hs h k (.inr (ci, fs.set j v))) ∧ dc_m (ae_hs h k (.inr (ci, fs.set j v))) = dc_up (dc_m h) k j (dc_v v) := by
  have h256 : k < 256 := sv_ty_lt k t ht
  have hj : j < fs.length := by rw [g2]; exact (List.getElem?_eq_some_iff.mp hf).1
  refine ⟨fun k2 t2 ht2 => ?_, ?_⟩
  · by_cases e : k2 = k
    · subst e
      rw [ht] at ht2
      cases ht2
      refine ⟨_, hT, fs.set j v, wk_hg_s h256, by rw [List.length_set]; exact g2, fun j2 f2 v2 hf2 hv2 => ?_⟩
      by_cases ej : j = j2
      · subst ej
        rw [List.getElem?_set_self hj] at hv2
        have hf2 : fl[j]? = some f2 := hf2
        rw [hf] at hf2
        cases hf2; cases hv2
        exact hv
      · rw [List.getElem?_set_ne ej] at hv2
        obtain ⟨fs', q1, q2, q3⟩ := dc_o hk ht hT
        rw [g1] at q1
        cases q1
        exact q3 j2 f2 v2 hf2 hv2
    · obtain ⟨S, e1, e2⟩ := hk k2 t2 ht2
      refine ⟨S, e1, ?_⟩
      unfold dc_sh at e2 ⊢
      rw [wk_hg_o h256 e]
      exact e2
  · funext k2 i2
    by_cases e : k2 = k
    · subst e
      by_cases hi : i2 < 0
      · rw [dc_m_neg hi, dc_up_i (by omega), dc_m_neg hi]
      · have e1 : dc_m (ae_hs h k2 (.inr (ci, fs.set j v))) k2 i2 = (match (fs.set j v)[i2.toNat]? with
          | some v => dc_v v
          | none => 0) := by
          show (if i2 < 0 then 0 else dc_c (ae_hg (ae_hs h k2 (.inr (ci, fs.set j v))) k2) i2.toNat) = _
          rw [if_neg hi, wk_hg_s h256]; rfl
        rw [e1]
        by_cases ej : i2 = j
        · rw [ej, Int.toNat_natCast, List.getElem?_set_self hj, dc_up_s]
        · rw [List.getElem?_set_ne (by omega), dc_up_i ej]
          show _ = (if i2 < 0 then 0 else dc_c (ae_hg h k2) i2.toNat)
          rw [if_neg hi, g1]; rfl
    · rw [dc_up_k e]
      unfold dc_m
      rw [wk_hg_o h256 e]
theorem dc_set_a {h : ae_H} {k t tag len A : Nat} {x : List (Nat × Nat)} {i : Int} {z : Nat} (hk : dc_ok h) (ht : sv_ty k = some t) (hT : dc_tt[t]? = some (1, tag, len, x)) (h3 : tag ≠ 3) (g1 : ae_hg h k = some (.inl (tag, len, .inl A))) (hi : 0 ≤ i) (hz : z < 4294967296) : dc_ok (ae_hs h k (.inl (tag, len, .inl (ae_wr 32 A i.toNat z)))) ∧ dc_m (ae_hs h k (.inl (tag, len, .inl (ae_wr 32 A i.toNat z)))) = dc_up (dc_m h) k i (sv_g z) := by
  have h256 : k < 256 := sv_ty_lt k t ht
  refine ⟨fun k2 t2 ht2 => ?_, ?_⟩
  · by_cases e : k2 = k
    · subst e
      rw [ht] at ht2
      cases ht2
      exact ⟨_, hT, _, wk_hg_s h256⟩
    · obtain ⟨S, e1, e2⟩ := hk k2 t2 ht2
      refine ⟨S, e1, ?_⟩
      unfold dc_sh at e2 ⊢
      rw [wk_hg_o h256 e]
      exact e2
  · funext k2 i2
    by_cases e : k2 = k
    · subst e
      by_cases hi2 : i2 < 0
      · rw [dc_m_neg hi2, dc_up_i (by omega), dc_m_neg hi2]
      · rw [dc_ra (wk_hg_s h256) h3 (by omega), ae_rd_wr (show z < 2 ^ 32 from hz)]
        by_cases ei : i2 = i
        · rw [if_pos (by rw [ei]), ei, dc_up_s]
        · rw [if_neg (by omega), dc_up_i ei, dc_ra g1 h3 (by omega)]
    · rw [dc_up_k e]
      unfold dc_m
      rw [wk_hg_o h256 e]
/-! one step of a run -/
theorem iv0 {n mi pc : Nat} {M : ae_M} {i : Instr} {len : Nat} {lv : ae_L} {st : List ae_V} {h : ae_H} {r : ae_R} (hM : ae_m mi = some M) (hd : decode M.2.2.1 pc = .ok (i, len)) (hl : Nat.beq len (ae_ln i len) = true) (hr : ae_exe n mi pc 0 0 lv st h = some r) : ∃ k, n = k + 1 ∧ ae_step i M pc 0 0 lv st h (fun pc ce sl lv st h => ae_f pc fun pc => ae_exe k mi pc ce sl lv st h) (fun mj as h => ae_exe k mj 0 0 0 (ae_args as 0) [] h) = some r := by
  cases n with
  | zero => cases hr
  | succ k => exact ⟨k, rfl, by rw [← sv_exe_s hM hd hl]; exact hr⟩
theorem iv_eq {n mi pc pc' : Nat} {M : ae_M} {i : Instr} {len : Nat} {lv lv' : ae_L} {st st' : List ae_V} {h h' : ae_H} {r : ae_R} (hM : ae_m mi = some M) (hd : decode M.2.2.1 pc = .ok (i, len)) (hl : Nat.beq len (ae_ln i len) = true) (hs : ∀ (K : ae_K) (C : Nat → List ae_V → ae_H → Option ae_R), ae_step i M pc 0 0 lv st h K C = K pc' 0 0 lv' st' h') (hr : ae_exe n mi pc 0 0 lv st h = some r) : ∃ k, n = k + 1 ∧ ae_exe k mi pc' 0 0 lv' st' h' = some r := by
  obtain ⟨k, e, hr⟩ := iv0 hM hd hl hr
  rw [hs, ae_f_eq] at hr
  exact ⟨k, e, hr⟩

section
variable {r : ae_R} {n mi pc : Nat} {M : ae_M} {lv : ae_L} {st : List ae_V} {h : ae_H} {x y : Int}
theorem iv_iconst {c : Int} (hM : ae_m mi = some M) (hd : decode M.2.2.1 pc = .ok (.iconst c, 1)) (h1 : -1 ≤ c ∧ c ≤ 5) (hr : ae_exe n mi pc 0 0 lv st h = some r) : ∃ n', n = n' + 1 ∧ ae_exe n' mi (pc + 1) 0 0 lv (wk_i c :: st) h = some r :=
  iv_eq hM hd rfl (fun K C => by
    show cond (and (decide (-1 ≤ c)) (decide (c ≤ 5))) (ae_f (ae_u c) fun z => K (Nat.add pc 1) 0 0 lv (ae_i z :: st) h) none = _
    rw [decide_eq_true h1.1, decide_eq_true h1.2, ae_f_eq, sv_u_ae (by omega) (by omega)]; rfl) hr
theorem iv_bipush {c : Int} (hM : ae_m mi = some M) (hd : decode M.2.2.1 pc = .ok (.bipush c, 2)) (h1 : -128 ≤ c ∧ c ≤ 127) (hr : ae_exe n mi pc 0 0 lv st h = some r) : ∃ n', n = n' + 1 ∧ ae_exe n' mi (pc + 2) 0 0 lv (wk_i c :: st) h = some r :=
  iv_eq hM hd rfl (fun K C => by
    show cond (and (decide (-128 ≤ c)) (decide (c ≤ 127))) (ae_f (ae_u c) fun z => K (Nat.add pc 2) 0 0 lv (ae_i z :: st) h) none = _
    rw [decide_eq_true h1.1, decide_eq_true h1.2, ae_f_eq, sv_u_ae (by omega) (by omega)]; rfl) hr
theorem iv_sipush {c : Int} (hM : ae_m mi = some M) (hd : decode M.2.2.1 pc = .ok (.sipush c, 3)) (h1 : -32768 ≤ c ∧ c ≤ 32767) (hr : ae_exe n mi pc 0 0 lv st h = some r) : ∃ n', n = n' + 1 ∧ ae_exe n' mi (pc + 3) 0 0 lv (wk_i c :: st) h = some r :=
  iv_eq hM hd rfl (fun K C => by
    show cond (and (decide (-32768 ≤ c)) (decide (c ≤ 32767))) (ae_f (ae_u c) fun z => K (Nat.add pc 3) 0 0 lv (ae_i z :: st) h) none = _
    rw [decide_eq_true h1.1, decide_eq_true h1.2, ae_f_eq, sv_u_ae (by omega) (by omega)]; rfl) hr
theorem iv_iload_n {k : Fin 4} (hM : ae_m mi = some M) (hd : decode M.2.2.1 pc = .ok (.iload_n k, 1)) (hv : ae_lk lv k.val = some (wk_i x)) (hr : ae_exe n mi pc 0 0 lv st h = some r) : ∃ n', n = n' + 1 ∧ ae_exe n' mi (pc + 1) 0 0 lv (wk_i x :: st) h = some r :=
  iv_eq hM hd rfl (fun K C => by
    show ae_iload lv k.val (fun v => K (Nat.add pc 1) 0 0 lv (v :: st) h) = _
    unfold ae_iload; rw [hv]) hr
theorem iv_iload {k : Nat} (hM : ae_m mi = some M) (hd : decode M.2.2.1 pc = .ok (.iload k, 2)) (hv : ae_lk lv k = some (wk_i x)) (hr : ae_exe n mi pc 0 0 lv st h = some r) : ∃ n', n = n' + 1 ∧ ae_exe n' mi (pc + 2) 0 0 lv (wk_i x :: st) h = some r :=
  iv_eq hM hd rfl (fun K C => by
    show ae_iload lv k (fun v => K (Nat.add pc 2) 0 0 lv (v :: st) h) = _
    unfold ae_iload; rw [hv]) hr
theorem iv_aload_n {k : Fin 4} {o : Option Nat} (hM : ae_m mi = some M) (hd : decode M.2.2.1 pc = .ok (.aload_n k, 1)) (hv : ae_lk lv k.val = some (.inr (.inr o))) (hr : ae_exe n mi pc 0 0 lv st h = some r) : ∃ n', n = n' + 1 ∧ ae_exe n' mi (pc + 1) 0 0 lv (.inr (.inr o) :: st) h = some r :=
  iv_eq hM hd rfl (fun K C => by
    show ae_aload lv k.val (fun v => K (Nat.add pc 1) 0 0 lv (v :: st) h) = _
    unfold ae_aload; rw [hv]) hr
theorem iv_istore_n {k : Fin 4} (hM : ae_m mi = some M) (hd : decode M.2.2.1 pc = .ok (.istore_n k, 1)) (hk : Nat.blt k.val M.2.2.2.1 = true) (hr : ae_exe n mi pc 0 0 lv (wk_i x :: st) h = some r) : ∃ lv', wk_sl lv k.val (wk_i x) lv' ∧ ∃ n', n = n' + 1 ∧ ae_exe n' mi (pc + 1) 0 0 lv' st h = some r :=
  ⟨_, wk_st1 lv k.val (wk_i x), iv_eq hM hd rfl (fun K C => by
    show ae_store 0 M.2.2.2.1 k.val lv (wk_i x :: st) (fun lv st => K (Nat.add pc 1) 0 0 lv st h) = _
    unfold ae_store; rw [hk]; rfl) hr⟩
theorem iv_istore {k : Nat} (hM : ae_m mi = some M) (hd : decode M.2.2.1 pc = .ok (.istore k, 2)) (hk : Nat.blt k M.2.2.2.1 = true) (hr : ae_exe n mi pc 0 0 lv (wk_i x :: st) h = some r) : ∃ lv', wk_sl lv k (wk_i x) lv' ∧ ∃ n', n = n' + 1 ∧ ae_exe n' mi (pc + 2) 0 0 lv' st h = some r :=
  ⟨_, wk_st1 lv k (wk_i x), iv_eq hM hd rfl (fun K C => by
    show ae_store 0 M.2.2.2.1 k lv (wk_i x :: st) (fun lv st => K (Nat.add pc 2) 0 0 lv st h) = _
    unfold ae_store; rw [hk]; rfl) hr⟩
theorem iv_astore_n {k : Fin 4} {a : Nat} (hM : ae_m mi = some M) (hd : decode M.2.2.1 pc = .ok (.astore_n k, 1)) (hk : Nat.blt k.val M.2.2.2.1 = true) (hr : ae_exe n mi pc 0 0 lv (wk_r a :: st) h = some r) : ∃ lv', wk_sl lv k.val (wk_r a) lv' ∧ ∃ n', n = n' + 1 ∧ ae_exe n' mi (pc + 1) 0 0 lv' st h = some r :=
  ⟨_, wk_st1 lv k.val (wk_r a), iv_eq hM hd rfl (fun K C => by
    show ae_store 1 M.2.2.2.1 k.val lv (wk_r a :: st) (fun lv st => K (Nat.add pc 1) 0 0 lv st h) = _
    unfold ae_store; rw [hk]; rfl) hr⟩
theorem iv_iinc {k : Nat} {c : Int} (hM : ae_m mi = some M) (hd : decode M.2.2.1 pc = .ok (.iinc k c, 3)) (hk : Nat.blt k M.2.2.2.1 = true) (h1 : -128 ≤ c ∧ c ≤ 127) (hv : ae_lk lv k = some (wk_i x)) (hr : ae_exe n mi pc 0 0 lv st h = some r) : ∃ lv', wk_sl lv k (wk_i (x + c)) lv' ∧ ∃ n', n = n' + 1 ∧ ae_exe n' mi (pc + 3) 0 0 lv' st h = some r :=
  ⟨_, wk_st1 lv k (wk_i (x + c)), iv_eq hM hd rfl (fun K C => by
    show cond (and (Nat.blt k M.2.2.2.1) (and (decide (-128 ≤ c)) (decide (c ≤ 127)))) (ae_iload lv k fun v => match v with
      | .inl (.inl x) => ae_f (ae_add x (ae_u c)) fun z => K (Nat.add pc 3) 0 0 (ae_st1 lv k (ae_i z)) st h
      | _ => K (Nat.add pc 3) 0 0 (ae_st1 lv k ae_top) st h) none = K (pc + 3) 0 0 (ae_st1 lv k (wk_i (x + c))) st h
    rw [hk, decide_eq_true h1.1, decide_eq_true h1.2, Bool.and_self, Bool.and_self, cond_true]
    unfold ae_iload
    rw [hv]
    show ae_f (ae_add (sv_u x) (ae_u c)) (fun z => K (Nat.add pc 3) 0 0 (ae_st1 lv k (ae_i z)) st h) = _
    rw [ae_f_eq, sv_u_ae (by omega) (by omega), sv_add_u]; rfl) hr⟩
theorem iv_iadd (hM : ae_m mi = some M) (hd : decode M.2.2.1 pc = .ok (.iadd, 1)) (hr : ae_exe n mi pc 0 0 lv (wk_i y :: wk_i x :: st) h = some r) : ∃ n', n = n' + 1 ∧ ae_exe n' mi (pc + 1) 0 0 lv (wk_i (x + y) :: st) h = some r :=
  iv_eq hM hd rfl (fun K C => by
    show ae_f (ae_add (sv_u x) (sv_u y)) (fun z => K (Nat.add pc 1) 0 0 lv (ae_i z :: st) h) = _
    rw [ae_f_eq, sv_add_u]; rfl) hr
theorem iv_isub (hM : ae_m mi = some M) (hd : decode M.2.2.1 pc = .ok (.isub, 1)) (hr : ae_exe n mi pc 0 0 lv (wk_i y :: wk_i x :: st) h = some r) : ∃ n', n = n' + 1 ∧ ae_exe n' mi (pc + 1) 0 0 lv (wk_i (x - y) :: st) h = some r :=
  iv_eq hM hd rfl (fun K C => by
    show ae_f (ae_sub (sv_u x) (sv_u y)) (fun z => K (Nat.add pc 1) 0 0 lv (ae_i z :: st) h) = _
    rw [ae_f_eq, sv_sub_u]; rfl) hr
theorem iv_imul (hM : ae_m mi = some M) (hd : decode M.2.2.1 pc = .ok (.imul, 1)) (hr : ae_exe n mi pc 0 0 lv (wk_i y :: wk_i x :: st) h = some r) : ∃ n', n = n' + 1 ∧ ae_exe n' mi (pc + 1) 0 0 lv (wk_i (x * y) :: st) h = some r :=
  iv_eq hM hd rfl (fun K C => by
    show ae_f (ae_mul (sv_u x) (sv_u y)) (fun z => K (Nat.add pc 1) 0 0 lv (ae_i z :: st) h) = _
    rw [ae_f_eq, sv_mul_u]; rfl) hr
theorem iv_ineg (hM : ae_m mi = some M) (hd : decode M.2.2.1 pc = .ok (.ineg, 1)) (hr : ae_exe n mi pc 0 0 lv (wk_i x :: st) h = some r) : ∃ n', n = n' + 1 ∧ ae_exe n' mi (pc + 1) 0 0 lv (wk_i (-x) :: st) h = some r :=
  iv_eq hM hd rfl (fun K C => by
    show ae_f (ae_sub 0 (sv_u x)) (fun z => K (Nat.add pc 1) 0 0 lv (ae_i z :: st) h) = _
    rw [ae_f_eq, show (0 : Nat) = sv_u 0 from rfl, sv_sub_u, Int.zero_sub]; rfl) hr
theorem iv_iand (hM : ae_m mi = some M) (hd : decode M.2.2.1 pc = .ok (.iand, 1)) (hr : ae_exe n mi pc 0 0 lv (wk_i y :: wk_i x :: st) h = some r) : ∃ n', n = n' + 1 ∧ ae_exe n' mi (pc + 1) 0 0 lv (wk_i (sv_g (sv_u x &&& sv_u y)) :: st) h = some r :=
  iv_eq hM hd rfl (fun K C => by
    show ae_f (sv_u x &&& sv_u y) (fun z => K (Nat.add pc 1) 0 0 lv (ae_i z :: st) h) = _
    rw [ae_f_eq, wk_ig (Nat.lt_of_le_of_lt Nat.and_le_right (sv_u_lt y))]) hr
theorem iv_ior (hM : ae_m mi = some M) (hd : decode M.2.2.1 pc = .ok (.ior, 1)) (hr : ae_exe n mi pc 0 0 lv (wk_i y :: wk_i x :: st) h = some r) : ∃ n', n = n' + 1 ∧ ae_exe n' mi (pc + 1) 0 0 lv (wk_i (sv_g (sv_u x ||| sv_u y)) :: st) h = some r :=
  iv_eq hM hd rfl (fun K C => by
    show ae_f (sv_u x ||| sv_u y) (fun z => K (Nat.add pc 1) 0 0 lv (ae_i z :: st) h) = _
    rw [ae_f_eq, wk_ig (show _ < 2 ^ 32 from Nat.or_lt_two_pow (sv_u_lt x) (sv_u_lt y))]) hr
theorem iv_inot (hM : ae_m mi = some M) (hd : decode M.2.2.1 pc = .ok (.ixor, 1)) (hr : ae_exe n mi pc 0 0 lv (wk_i (-1) :: wk_i x :: st) h = some r) : ∃ n', n = n' + 1 ∧ ae_exe n' mi (pc + 1) 0 0 lv (wk_i (-x - 1) :: st) h = some r :=
  iv_eq hM hd rfl (fun K C => by
    show ae_f (Nat.xor (sv_u x) (sv_u (-1))) (fun z => K (Nat.add pc 1) 0 0 lv (ae_i z :: st) h) = _
    have hlt := sv_u_lt x
    have hux := sv_uc x
    have hu2 := sv_uc (-x - 1)
    rw [ae_f_eq, show sv_u (-1) = 4294967295 from rfl, show Nat.xor (sv_u x) 4294967295 = 4294967295 - sv_u x from sv_xor_all hlt, show 4294967295 - sv_u x = sv_u (-x - 1) by omega]; rfl) hr
theorem iv_dup {v : ae_V} (hM : ae_m mi = some M) (hd : decode M.2.2.1 pc = .ok (.dup, 1)) (hv : ae_cat v = 1) (hr : ae_exe n mi pc 0 0 lv (v :: st) h = some r) : ∃ n', n = n' + 1 ∧ ae_exe n' mi (pc + 1) 0 0 lv (v :: v :: st) h = some r :=
  iv_eq hM hd rfl (fun K C => by
    show cond (Nat.beq (ae_cat v) 1) (K (Nat.add pc 1) 0 0 lv (v :: v :: st) h) none = _
    rw [hv]; rfl) hr
theorem iv_dup2 {v w : ae_V} (hM : ae_m mi = some M) (hd : decode M.2.2.1 pc = .ok (.dup2, 1)) (hv : ae_cat v = 1) (hw : ae_cat w = 1) (hr : ae_exe n mi pc 0 0 lv (v :: w :: st) h = some r) : ∃ n', n = n' + 1 ∧ ae_exe n' mi (pc + 1) 0 0 lv (v :: w :: v :: w :: st) h = some r :=
  iv_eq hM hd rfl (fun K C => by
    show cond (and (Nat.beq (ae_cat v) 1) (Nat.beq (ae_cat w) 1)) (K (Nat.add pc 1) 0 0 lv (v :: w :: v :: w :: st) h) none = _
    rw [hv, hw]; rfl) hr
theorem iv_pop {v : ae_V} (hM : ae_m mi = some M) (hd : decode M.2.2.1 pc = .ok (.pop, 1)) (hv : ae_cat v = 1) (hr : ae_exe n mi pc 0 0 lv (v :: st) h = some r) : ∃ n', n = n' + 1 ∧ ae_exe n' mi (pc + 1) 0 0 lv st h = some r :=
  iv_eq hM hd rfl (fun K C => by
    show cond (Nat.beq (ae_cat v) 1) (K (Nat.add pc 1) 0 0 lv st h) none = _
    rw [hv]; rfl) hr
theorem iv_goto {off : Int} (t : Nat) (hM : ae_m mi = some M) (hd : decode M.2.2.1 pc = .ok (.goto off, 3)) (ht : (pc : Int) + off = (t : Int)) (hr : ae_exe n mi pc 0 0 lv st h = some r) : ∃ n', n = n' + 1 ∧ ae_exe n' mi t 0 0 lv st h = some r :=
  iv_eq hM hd rfl (fun K C => by
    show ae_tgt pc off (fun t => K t 0 0 lv st h) = _
    unfold ae_tgt; rw [ht]) hr
theorem iv_icmp {c : Jvm.ClassFile.Cond} {off : Int} (t : Nat) (hM : ae_m mi = some M) (hd : decode M.2.2.1 pc = .ok (.if_icmp c off, 3)) (ht : (pc : Int) + off = (t : Int)) (hx : sv_I x) (hy : sv_I y) (hr : ae_exe n mi pc 0 0 lv (wk_i y :: wk_i x :: st) h = some r) : (sv_holds c x y ∧ ∃ n', n = n' + 1 ∧ ae_exe n' mi t 0 0 lv st h = some r) ∨ (¬ sv_holds c x y ∧ ∃ n', n = n' + 1 ∧ ae_exe n' mi (pc + 3) 0 0 lv st h = some r) := by
  obtain ⟨c1, c2⟩ := sv_cmp_u (c := c) hx hy
  by_cases hc : sv_holds c x y
  · refine Or.inl ⟨hc, iv_eq hM hd rfl (fun K C => ?_) hr⟩
    show (match ae_cmp c (ae_rg (.inl (sv_u x))) (ae_rg (.inl (sv_u y))) with
      | some true => ae_tgt pc off fun t => K t 0 0 lv st h
      | some false => ae_tgt pc off fun _ => K (Nat.add pc 3) 0 0 lv st h
      | none => none) = _
    rw [c1 hc]
    show ae_tgt pc off (fun t => K t 0 0 lv st h) = _
    unfold ae_tgt; rw [ht]
  · refine Or.inr ⟨hc, iv_eq hM hd rfl (fun K C => ?_) hr⟩
    show (match ae_cmp c (ae_rg (.inl (sv_u x))) (ae_rg (.inl (sv_u y))) with
      | some true => ae_tgt pc off fun t => K t 0 0 lv st h
      | some false => ae_tgt pc off fun _ => K (Nat.add pc 3) 0 0 lv st h
      | none => none) = _
    rw [c2 hc]
    show ae_tgt pc off (fun _ => K (Nat.add pc 3) 0 0 lv st h) = _
    unfold ae_tgt; rw [ht]
theorem iv_if {c : Jvm.ClassFile.Cond} {off : Int} (t : Nat) (hM : ae_m mi = some M) (hd : decode M.2.2.1 pc = .ok (.ifCond c off, 3)) (ht : (pc : Int) + off = (t : Int)) (hx : sv_I x) (hr : ae_exe n mi pc 0 0 lv (wk_i x :: st) h = some r) : (sv_holds c x 0 ∧ ∃ n', n = n' + 1 ∧ ae_exe n' mi t 0 0 lv st h = some r) ∨ (¬ sv_holds c x 0 ∧ ∃ n', n = n' + 1 ∧ ae_exe n' mi (pc + 3) 0 0 lv st h = some r) := by
  obtain ⟨c1, c2⟩ := sv_cmp_0 (c := c) hx
  by_cases hc : sv_holds c x 0
  · refine Or.inl ⟨hc, iv_eq hM hd rfl (fun K C => ?_) hr⟩
    show (match ae_cmp c (ae_rg (.inl (sv_u x))) (2147483648, 2147483648) with
      | some true => ae_tgt pc off fun t => K t 0 0 lv st h
      | some false => ae_tgt pc off fun _ => K (Nat.add pc 3) 0 0 lv st h
      | none => none) = _
    rw [c1 hc]
    show ae_tgt pc off (fun t => K t 0 0 lv st h) = _
    unfold ae_tgt; rw [ht]
  · refine Or.inr ⟨hc, iv_eq hM hd rfl (fun K C => ?_) hr⟩
    show (match ae_cmp c (ae_rg (.inl (sv_u x))) (2147483648, 2147483648) with
      | some true => ae_tgt pc off fun t => K t 0 0 lv st h
      | some false => ae_tgt pc off fun _ => K (Nat.add pc 3) 0 0 lv st h
      | none => none) = _
    rw [c2 hc]
    show ae_tgt pc off (fun _ => K (Nat.add pc 3) 0 0 lv st h) = _
    unfold ae_tgt; rw [ht]
theorem iv_ireturn (hM : ae_m mi = some M) (hd : decode M.2.2.1 pc = .ok (.ireturn, 1)) (hr : ae_exe n mi pc 0 0 lv [wk_i x] h = some r) : r = (some (wk_i x), h) := by
  obtain ⟨k, -, hr⟩ := iv0 hM hd rfl hr
  have hr : cond (ae_rm M 0 0) (match M.2.2.2.2.1 with
      | some .int => some (some (wk_i x), h)
      | some .boolean => (match (Sum.inl (sv_u x) : Nat ⊕ (Nat × Nat)) with
        | .inl n => cond (Nat.ble n 1) (some (some (wk_i x), h)) none
        | .inr _ => none)
      | _ => none) none = some r := hr
  obtain ⟨-, hr⟩ := ae_cond hr
  split at hr
  · cases hr; rfl
  · have hr : cond (Nat.ble (sv_u x) 1) (some (some (wk_i x), h)) none = some r := hr
    obtain ⟨-, hr⟩ := ae_cond hr
    cases hr; rfl
  · cases hr
theorem iv_return (hM : ae_m mi = some M) (hd : decode M.2.2.1 pc = .ok (.return_, 1)) (hr : ae_exe n mi pc 0 0 lv [] h = some r) (hret : M.2.2.2.2.1 = none) : r = (none, h) := by
  obtain ⟨k, -, hr⟩ := iv0 hM hd rfl hr
  have hr : cond (ae_rm M 0 0) (match ([] : List ae_V), M.2.2.2.2.1 with
      | [], none => some (none, h)
      | _, _ => none) none = some r := hr
  rw [hret] at hr
  obtain ⟨-, hr⟩ := ae_cond hr
  cases hr; rfl
theorem iv_getf {k t ci z0 j idx : Nat} {fl : List (Nat × Nat)} {v : ae_V} (hM : ae_m mi = some M) (hd : decode M.2.2.1 pc = .ok (.getfield idx, 3)) (hc : ae_cp M.1 idx = some (0, ci, j)) (hk : dc_ok h) (ht : sv_ty k = some t) (hT : dc_tt[t]? = some (0, ci, z0, fl)) (hF : wk_F h k j = some v) (hr : ae_exe n mi pc 0 0 lv (wk_r k :: st) h = some r) : ∃ n', n = n' + 1 ∧ ae_exe n' mi (pc + 3) 0 0 lv (v :: st) h = some r := by
  obtain ⟨fs, g1, -, -⟩ := dc_o hk ht hT
  rw [wk_F_of g1] at hF
  refine iv_eq hM hd rfl (fun K C => ?_) hr
  show (match ae_cp M.1 idx, ae_hg h k with
      | some (0, ci, k), some (.inr (cj, fs)) => cond (Nat.beq ci cj) (match ae_nth fs k with
        | some v => K (Nat.add pc 3) 0 0 lv (v :: st) h
        | none => none) none
      | _, _ => none) = _
  rw [hc, g1]
  show cond (Nat.beq ci ci) (match ae_nth fs j with
        | some v => K (Nat.add pc 3) 0 0 lv (v :: st) h
        | none => none) none = _
  rw [Nat.beq_refl, cond_true, ae_nth_eq, hF]
theorem iv_putf {k t ci z0 j idx fk : Nat} {fl : List (Nat × Nat)} {f : Nat × Nat} {v : ae_V} (hM : ae_m mi = some M) (hd : decode M.2.2.1 pc = .ok (.putfield idx, 3)) (hc : ae_cp M.1 idx = some (0, ci, j)) (hk : dc_ok h) (ht : sv_ty k = some t) (hT : dc_tt[t]? = some (0, ci, z0, fl)) (hf : fl[j]? = some f) (hfk : ae_fk ci j = some fk) (h10 : Nat.ble 10 fk = false) (hv : dc_fk k f v) (hr : ae_exe n mi pc 0 0 lv (v :: wk_r k :: st) h = some r) : ∃ h', dc_ok h' ∧ dc_m h' = dc_up (dc_m h) k j (dc_v v) ∧ ∃ n', n = n' + 1 ∧ ae_exe n' mi (pc + 3) 0 0 lv st h' = some r := by
  obtain ⟨fs, g1, g2, g3⟩ := dc_o hk ht hT
  have hj : j < fs.length := by rw [g2]; exact (List.getElem?_eq_some_iff.mp hf).1
  obtain ⟨q1, q2⟩ := dc_set_f hk ht hT hf hv g1 g2
  refine ⟨_, q1, q2, ?_⟩
  cases hfit : ae_fit fk v with
  | true =>
    refine iv_eq hM hd rfl (fun K C => ?_) hr
    show (match ae_cp M.1 idx, ae_hg h k with
      | some (0, ci, f), some (.inr (cj, fs)) => cond (Nat.beq ci cj) (match ae_fk ci f, ae_nth fs f with
        | some fk, some _ => cond (and (cond (Nat.ble 10 fk) (and (Nat.beq M.2.2.2.2.2.1 2) (Nat.beq M.1 ci)) true) (cond (Nat.ble 10 fk) (ae_fit (Nat.sub fk 10) v) (ae_fit fk v))) (K (Nat.add pc 3) 0 0 lv st (ae_hs h k (.inr (cj, ae_set fs v f)))) none
        | _, _ => none) none
      | _, _ => none) = _
    rw [hc, g1]
    show cond (Nat.beq ci ci) (match ae_fk ci j, ae_nth fs j with
        | some fk, some _ => cond (and (cond (Nat.ble 10 fk) (and (Nat.beq M.2.2.2.2.2.1 2) (Nat.beq M.1 ci)) true) (cond (Nat.ble 10 fk) (ae_fit (Nat.sub fk 10) v) (ae_fit fk v))) (K (Nat.add pc 3) 0 0 lv st (ae_hs h k (.inr (ci, ae_set fs v j)))) none
        | _, _ => none) none = _
    rw [Nat.beq_refl, cond_true, hfk, ae_nth_eq, List.getElem?_eq_getElem hj]
    show cond (and (cond (Nat.ble 10 fk) (and (Nat.beq M.2.2.2.2.2.1 2) (Nat.beq M.1 ci)) true) (cond (Nat.ble 10 fk) (ae_fit (Nat.sub fk 10) v) (ae_fit fk v))) (K (Nat.add pc 3) 0 0 lv st (ae_hs h k (.inr (ci, ae_set fs v j)))) none = _
    rw [h10, cond_false, cond_false, hfit, Bool.and_self, cond_true, ae_set_eq]
  | false =>
    exfalso
    obtain ⟨m, -, hr⟩ := iv0 hM hd rfl hr
    have hr : (match ae_cp M.1 idx, ae_hg h k with
      | some (0, ci, f), some (.inr (cj, fs)) => cond (Nat.beq ci cj) (match ae_fk ci f, ae_nth fs f with
        | some fk, some _ => cond (and (cond (Nat.ble 10 fk) (and (Nat.beq M.2.2.2.2.2.1 2) (Nat.beq M.1 ci)) true) (cond (Nat.ble 10 fk) (ae_fit (Nat.sub fk 10) v) (ae_fit fk v))) (ae_f (Nat.add pc 3) fun pc => ae_exe m mi pc 0 0 lv st (ae_hs h k (.inr (cj, ae_set fs v f)))) none
        | _, _ => none) none
      | _, _ => none) = some r := hr
    rw [hc, g1] at hr
    have hr : cond (Nat.beq ci ci) (match ae_fk ci j, ae_nth fs j with
        | some fk, some _ => cond (and (cond (Nat.ble 10 fk) (and (Nat.beq M.2.2.2.2.2.1 2) (Nat.beq M.1 ci)) true) (cond (Nat.ble 10 fk) (ae_fit (Nat.sub fk 10) v) (ae_fit fk v))) (ae_f (Nat.add pc 3) fun pc => ae_exe m mi pc 0 0 lv st (ae_hs h k (.inr (ci, ae_set fs v j)))) none
        | _, _ => none) none = some r := hr
    rw [Nat.beq_refl, cond_true, hfk, ae_nth_eq, List.getElem?_eq_getElem hj] at hr
    have hr : cond (and (cond (Nat.ble 10 fk) (and (Nat.beq M.2.2.2.2.2.1 2) (Nat.beq M.1 ci)) true) (cond (Nat.ble 10 fk) (ae_fit (Nat.sub fk 10) v) (ae_fit fk v))) (ae_f (Nat.add pc 3) fun pc => ae_exe m mi pc 0 0 lv st (ae_hs h k (.inr (ci, ae_set fs v j)))) none = some r := hr
    rw [h10, cond_false, cond_false, hfit] at hr
    cases hr
theorem iv_puti {k t ci z0 j idx fk : Nat} {fl : List (Nat × Nat)} (hM : ae_m mi = some M) (hd : decode M.2.2.1 pc = .ok (.putfield idx, 3)) (hc : ae_cp M.1 idx = some (0, ci, j)) (hk : dc_ok h) (ht : sv_ty k = some t) (hT : dc_tt[t]? = some (0, ci, z0, fl)) (hf : fl[j]? = some (0, 0)) (hfk : ae_fk ci j = some fk) (h10 : Nat.ble 10 fk = false) (hx : sv_I x) (hr : ae_exe n mi pc 0 0 lv (wk_i x :: wk_r k :: st) h = some r) : ∃ h', dc_ok h' ∧ dc_m h' = dc_up (dc_m h) k j x ∧ ∃ n', n = n' + 1 ∧ ae_exe n' mi (pc + 3) 0 0 lv st h' = some r := by
  obtain ⟨h', q1, q2, q3⟩ := iv_putf hM hd hc hk ht hT hf hfk h10 ⟨sv_u x, sv_u_lt x, rfl⟩ hr
  refine ⟨h', q1, ?_, q3⟩
  rw [q2]
  show dc_up (dc_m h) k j (sv_g (sv_u x)) = _
  rw [sv_g_u hx]
theorem dc_in_f {len : Nat} (hx : sv_I x) (hl : len < 2147483648) (hn : ¬ (0 ≤ x ∧ x < len)) : ae_in (.inl (sv_u x)) len = false := by
  have hu := sv_uc x
  unfold sv_I at hx
  show and (Nat.blt (sv_u x) len) (Nat.blt len 2147483648) = false
  have : Nat.blt (sv_u x) len = false := by
    cases hb : Nat.blt (sv_u x) len with
    | false => rfl
    | true => have := Nat.le_of_ble_eq_true hb; omega
  rw [this]; rfl
theorem iv_iald {k t len : Nat} {z : List (Nat × Nat)} (hM : ae_m mi = some M) (hd : decode M.2.2.1 pc = .ok (.iaload, 1)) (hk : dc_ok h) (ht : sv_ty k = some t) (hT : dc_tt[t]? = some (1, 0, len, z)) (hl : len < 2147483648) (hx : sv_I x) (hr : ae_exe n mi pc 0 0 lv (wk_i x :: wk_r k :: st) h = some r) : (0 ≤ x ∧ x < len) ∧ sv_I (dc_m h k x) ∧ ∃ n', n = n' + 1 ∧ ae_exe n' mi (pc + 1) 0 0 lv (wk_i (dc_m h k x) :: st) h = some r := by
  obtain ⟨A, g1⟩ := dc_a hk ht hT
  have hb : Nat.ble 256 k = false := by
    cases hb : Nat.ble 256 k with
    | false => rfl
    | true => have := Nat.le_of_ble_eq_true hb; have := sv_ty_lt k t ht; omega
  by_cases hi : 0 ≤ x ∧ x < len
  · have ex : sv_u x = x.toNat := sv_u_nn hi.1 (by omega)
    refine ⟨hi, dc_aI hk ht hT (by decide) x, iv_eq hM hd rfl (fun K C => ?_) hr⟩
    show cond (Nat.ble 256 k) (ae_ldx (wk_i x :: wk_r k :: st) fun st => K (Nat.add pc 1) 0 0 lv st h) (ae_ald 0 (wk_i x :: wk_r k :: st) h fun st => K (Nat.add pc 1) 0 0 lv st h) = _
    rw [hb, cond_false, dc_ra g1 (by decide) hi.1]
    show ae_ald 0 (.inl (.inl (sv_u x)) :: .inr (.inr (some k)) :: st) h _ = _
    rw [ex, sv_ald (by omega) g1 rfl (show x.toNat < len by omega) hl]
    show K _ _ _ _ (.inl (.inl (ae_rd 32 A x.toNat)) :: st) h = K _ _ _ _ (.inl (.inl (sv_u (sv_g (ae_rd 32 A x.toNat)))) :: st) h
    rw [sv_rd_u]
  · exfalso
    obtain ⟨m, -, hr⟩ := iv0 hM hd rfl hr
    have hr : cond (Nat.ble 256 k) (ae_ldx (wk_i x :: wk_r k :: st) fun st => ae_f (Nat.add pc 1) fun pc => ae_exe m mi pc 0 0 lv st h) (ae_ald 0 (wk_i x :: wk_r k :: st) h fun st => ae_f (Nat.add pc 1) fun pc => ae_exe m mi pc 0 0 lv st h) = some r := hr
    rw [hb, cond_false] at hr
    unfold ae_ald at hr
    dsimp only at hr
    rw [g1] at hr
    dsimp only at hr
    rw [dc_in_f hx hl hi, Bool.and_false, cond_false] at hr
    cases hr
theorem iv_bald {k t tag len : Nat} {z : List (Nat × Nat)} (hM : ae_m mi = some M) (hd : decode M.2.2.1 pc = .ok (.baload, 1)) (hk : dc_ok h) (ht : sv_ty k = some t) (hT : dc_tt[t]? = some (1, tag, len, z)) (h12 : tag = 1 ∨ tag = 2) (hl : len < 2147483648) (hx : sv_I x) (hr : ae_exe n mi pc 0 0 lv (wk_i x :: wk_r k :: st) h = some r) : (0 ≤ x ∧ x < len) ∧ sv_I (dc_m h k x) ∧ ∃ n', n = n' + 1 ∧ ae_exe n' mi (pc + 1) 0 0 lv (wk_i (dc_m h k x) :: st) h = some r := by
  obtain ⟨A, g1⟩ := dc_a hk ht hT
  have hq : ae_tq tag 1 = true := by rcases h12 with e | e <;> subst e <;> rfl
  have h3 : tag ≠ 3 := by omega
  by_cases hi : 0 ≤ x ∧ x < len
  · have ex : sv_u x = x.toNat := sv_u_nn hi.1 (by omega)
    refine ⟨hi, dc_aI hk ht hT h3 x, iv_eq hM hd rfl (fun K C => ?_) hr⟩
    show ae_ald 1 (.inl (.inl (sv_u x)) :: .inr (.inr (some k)) :: st) h (fun st => K (Nat.add pc 1) 0 0 lv st h) = _
    rw [dc_ra g1 h3 hi.1, ex, sv_ald (by omega) g1 hq (show x.toNat < len by omega) hl]
    show K _ _ _ _ (.inl (.inl (ae_rd 32 A x.toNat)) :: st) h = K _ _ _ _ (.inl (.inl (sv_u (sv_g (ae_rd 32 A x.toNat)))) :: st) h
    rw [sv_rd_u]
  · exfalso
    obtain ⟨m, -, hr⟩ := iv0 hM hd rfl hr
    have hr : ae_ald 1 (wk_i x :: wk_r k :: st) h (fun st => ae_f (Nat.add pc 1) fun pc => ae_exe m mi pc 0 0 lv st h) = some r := hr
    unfold ae_ald at hr
    dsimp only at hr
    rw [g1] at hr
    dsimp only at hr
    rw [dc_in_f hx hl hi, Bool.and_false, cond_false] at hr
    cases hr
theorem iv_iast {k t len : Nat} {z : List (Nat × Nat)} {v : Int} (hM : ae_m mi = some M) (hd : decode M.2.2.1 pc = .ok (.iastore, 1)) (hk : dc_ok h) (ht : sv_ty k = some t) (hT : dc_tt[t]? = some (1, 0, len, z)) (hl : len < 2147483648) (hx : sv_I x) (hv : sv_I v) (hr : ae_exe n mi pc 0 0 lv (wk_i v :: wk_i x :: wk_r k :: st) h = some r) : (0 ≤ x ∧ x < len) ∧ ∃ h', dc_ok h' ∧ dc_m h' = dc_up (dc_m h) k x v ∧ ∃ n', n = n' + 1 ∧ ae_exe n' mi (pc + 1) 0 0 lv st h' = some r := by
  obtain ⟨A, g1⟩ := dc_a hk ht hT
  by_cases hi : 0 ≤ x ∧ x < len
  · have ex : sv_u x = x.toNat := sv_u_nn hi.1 (by omega)
    obtain ⟨q1, q2⟩ := dc_set_a (i := x) (z := sv_u v) hk ht hT (by decide) g1 hi.1 (sv_u_lt v)
    rw [sv_g_u hv] at q2
    refine ⟨hi, _, q1, q2, iv_eq hM hd rfl (fun K C => ?_) hr⟩
    show ae_ast 0 (.inl (.inl (sv_u v)) :: .inl (.inl (sv_u x)) :: .inr (.inr (some k)) :: st) h (fun st h => K (Nat.add pc 1) 0 0 lv st h) = _
    unfold ae_ast; dsimp only
    rw [g1, ex]
    show cond (and (ae_tq 0 0) (ae_in (.inl x.toNat) len)) (ae_f (ae_wr 32 A x.toNat (sv_u v)) fun B => K (Nat.add pc 1) 0 0 lv st (ae_hs h k (.inl (0, len, .inl B)))) none = _
    rw [sv_in_i (show x.toNat < len by omega) hl, ae_f_eq]; rfl
  · exfalso
    obtain ⟨m, -, hr⟩ := iv0 hM hd rfl hr
    have hr : ae_ast 0 (wk_i v :: wk_i x :: wk_r k :: st) h (fun st h => ae_f (Nat.add pc 1) fun pc => ae_exe m mi pc 0 0 lv st h) = some r := hr
    unfold ae_ast at hr
    dsimp only at hr
    rw [g1] at hr
    dsimp only at hr
    rw [dc_in_f hx hl hi, Bool.and_false, cond_false] at hr
    cases hr
/-- a byte of a number -/
def dc_b (x : Int) : Int := sv_g (ae_b8 (sv_u x))
theorem dc_b_I (x : Int) : sv_I (dc_b x) := sv_g_I (ae_b8_lt _)
theorem iv_bast {k t len : Nat} {z : List (Nat × Nat)} {v : Int} (hM : ae_m mi = some M) (hd : decode M.2.2.1 pc = .ok (.bastore, 1)) (hk : dc_ok h) (ht : sv_ty k = some t) (hT : dc_tt[t]? = some (1, 1, len, z)) (hl : len < 2147483648) (hx : sv_I x) (hr : ae_exe n mi pc 0 0 lv (wk_i v :: wk_i x :: wk_r k :: st) h = some r) : (0 ≤ x ∧ x < len) ∧ ∃ h', dc_ok h' ∧ dc_m h' = dc_up (dc_m h) k x (dc_b v) ∧ ∃ n', n = n' + 1 ∧ ae_exe n' mi (pc + 1) 0 0 lv st h' = some r := by
  obtain ⟨A, g1⟩ := dc_a hk ht hT
  by_cases hi : 0 ≤ x ∧ x < len
  · have ex : sv_u x = x.toNat := sv_u_nn hi.1 (by omega)
    obtain ⟨q1, q2⟩ := dc_set_a (i := x) (z := ae_b8 (sv_u v)) hk ht hT (by decide) g1 hi.1 (ae_b8_lt _)
    refine ⟨hi, _, q1, q2, iv_eq hM hd rfl (fun K C => ?_) hr⟩
    show ae_ast 1 (.inl (.inl (sv_u v)) :: .inl (.inl (sv_u x)) :: .inr (.inr (some k)) :: st) h (fun st h => K (Nat.add pc 1) 0 0 lv st h) = _
    unfold ae_ast; dsimp only
    rw [g1, ex]
    show cond (and (ae_tq 1 1) (ae_in (.inl x.toNat) len)) (ae_f (ae_wr 32 A x.toNat (ae_b8 (sv_u v))) fun B => K (Nat.add pc 1) 0 0 lv st (ae_hs h k (.inl (1, len, .inl B)))) none = _
    rw [sv_in_i (show x.toNat < len by omega) hl, ae_f_eq]; rfl
  · exfalso
    obtain ⟨m, -, hr⟩ := iv0 hM hd rfl hr
    have hr : ae_ast 1 (wk_i v :: wk_i x :: wk_r k :: st) h (fun st h => ae_f (Nat.add pc 1) fun pc => ae_exe m mi pc 0 0 lv st h) = some r := hr
    unfold ae_ast at hr
    dsimp only at hr
    rw [g1] at hr
    dsimp only at hr
    rw [dc_in_f hx hl hi, Bool.and_false, cond_false] at hr
    cases hr
theorem iv_i2b (hM : ae_m mi = some M) (hd : decode M.2.2.1 pc = .ok (.i2b, 1)) (hr : ae_exe n mi pc 0 0 lv (wk_i x :: st) h = some r) : ∃ n', n = n' + 1 ∧ ae_exe n' mi (pc + 1) 0 0 lv (wk_i (dc_b x) :: st) h = some r :=
  iv_eq hM hd rfl (fun K C => by
    show ae_f (ae_b8 (sv_u x)) (fun z => K (Nat.add pc 1) 0 0 lv (ae_i z :: st) h) = K (pc + 1) 0 0 lv (Sum.inl (Sum.inl (sv_u (sv_g (ae_b8 (sv_u x))))) :: st) h
    rw [ae_f_eq, sv_u_g (ae_b8_lt _)]; rfl) hr
theorem iv_ibin {f : Nat → Nat → Nat} {i : Instr} (hi : (i = .ishr ∧ f = ae_shr) ∨ (i = .ishl ∧ f = ae_shl) ∨ (i = .iushr ∧ f = ae_ushr) ∨ (i = .ixor ∧ f = ae_xor)) (hf : f (sv_u x) (sv_u y) < 4294967296) (hM : ae_m mi = some M) (hd : decode M.2.2.1 pc = .ok (i, 1)) (hr : ae_exe n mi pc 0 0 lv (wk_i y :: wk_i x :: st) h = some r) : ∃ n', n = n' + 1 ∧ ae_exe n' mi (pc + 1) 0 0 lv (wk_i (sv_g (f (sv_u x) (sv_u y))) :: st) h = some r := by
  rcases hi with ⟨e, ef⟩ | ⟨e, ef⟩ | ⟨e, ef⟩ | ⟨e, ef⟩ <;> subst e ef <;> exact iv_eq hM hd rfl (fun K C => by
    show ae_f _ (fun z => K (Nat.add pc 1) 0 0 lv (ae_i z :: st) h) = _
    rw [ae_f_eq, ← wk_ig hf]) hr
/-- a call -/
theorem iv_call {vir idx mj : Nat} {N : ae_M} {as rest : List ae_V} {i : Instr} (hi : i = .invokestatic idx ∧ vir = 0 ∨ i = .invokevirtual idx ∧ vir = 1) (hM : ae_m mi = some M) (hd : decode M.2.2.1 pc = .ok (i, 3)) (hcc : wk_cc M.1 idx mj = true) (hN : ae_m mj = some N)
    (hp : ae_pop (cond (Nat.beq vir 0) N.2.2.2.2.2.2.1 (Nat.succ N.2.2.2.2.2.2.1)) [] st = some (as, rest)) (hB : and (Nat.beq N.2.2.2.2.2.2.2.2.2.1 0) (Nat.beq N.2.2.2.2.2.2.2.2.2.2 0) = true) (hr : ae_exe n mi pc 0 0 lv st h = some r) : ∃ n' r2, n = n' + 1 ∧ ae_exe n' mj 0 0 0 (ae_args as 0) [] h = some r2 ∧ ae_exe n' mi (pc + 3) 0 0 lv (sv_push r2.1 rest) r2.2 = some r := by
  obtain ⟨kd, z, hc, hkd⟩ := wk_cc_ok hcc
  obtain ⟨b4, b5⟩ := ae_band hB
  have b4 := Nat.eq_of_beq_eq_true b4
  have b5 := Nat.eq_of_beq_eq_true b5
  obtain ⟨m, e, hr⟩ := iv0 hM hd (by rcases hi with ⟨e, -⟩ | ⟨e, -⟩ <;> subst e <;> rfl) hr
  refine ⟨m, ?_⟩
  have main : ae_call M vir idx pc 0 0 lv st h (fun pc ce sl lv st h => ae_f pc fun pc => ae_exe m mi pc ce sl lv st h) (fun mj as h => ae_exe m mj 0 0 0 (ae_args as 0) [] h) = some r := by
    rcases hi with ⟨e, ev⟩ | ⟨e, ev⟩ <;> subst e ev <;> exact hr
  have mm : (match ae_m mj with
            | some N => cond (and (Nat.beq N.2.2.2.2.2.1 vir) (and (Nat.blt N.2.2.2.2.2.2.2.1 M.2.2.2.2.2.2.2.1) (and (Nat.ble (Nat.add (Nat.add 19 N.2.2.2.1) N.2.2.2.2.2.2.2.2.1) M.2.2.2.2.2.2.2.2.1) (and (Nat.ble (Nat.add 0 N.2.2.2.2.2.2.2.2.2.1) M.2.2.2.2.2.2.2.2.2.1) (Nat.ble (Nat.add 0 N.2.2.2.2.2.2.2.2.2.2) M.2.2.2.2.2.2.2.2.2.2))))) (match ae_pop (cond (Nat.beq vir 0) N.2.2.2.2.2.2.1 (Nat.succ N.2.2.2.2.2.2.1)) [] st with
              | some (as, rest) => cond (and (and (Nat.ble (ae_catS rest) 8) (Nat.ble (ae_catS as) N.2.2.2.1)) (ae_rcv vir as h N.1)) (match ae_exe m mj 0 0 0 (ae_args as 0) [] h with
                | some (some v, h2) => ae_f (Nat.add 0 N.2.2.2.2.2.2.2.2.2.1) fun ce2 => ae_f (Nat.add 0 N.2.2.2.2.2.2.2.2.2.2) fun sl2 => ae_f (Nat.add pc 3) fun pc => ae_exe m mi pc ce2 sl2 lv (v :: rest) h2
                | some (none, h2) => ae_f (Nat.add 0 N.2.2.2.2.2.2.2.2.2.1) fun ce2 => ae_f (Nat.add 0 N.2.2.2.2.2.2.2.2.2.2) fun sl2 => ae_f (Nat.add pc 3) fun pc => ae_exe m mi pc ce2 sl2 lv rest h2
                | none => none) none
              | none => none) none
            | none => none) = some r := by
    rcases hkd with e | e <;> subst e <;> unfold ae_call at main <;> rw [hc] at main <;> exact main
  rw [hN] at mm
  obtain ⟨-, mm⟩ := ae_cond mm
  rw [hp] at mm
  obtain ⟨-, mm⟩ := ae_cond mm
  cases hC : ae_exe m mj 0 0 0 (ae_args as 0) [] h with
  | none => rw [hC] at mm; cases mm
  | some r2 =>
    rw [hC, b4, b5] at mm
    obtain ⟨v, h2⟩ := r2
    refine ⟨(v, h2), e, rfl, ?_⟩
    cases v with
    | none =>
      have mm : ae_f (Nat.add 0 0) (fun ce2 => ae_f (Nat.add 0 0) fun sl2 => ae_f (Nat.add pc 3) fun pc => ae_exe m mi pc ce2 sl2 lv rest h2) = some r := mm
      rw [ae_f_eq, ae_f_eq, ae_f_eq] at mm
      exact mm
    | some v =>
      have mm : ae_f (Nat.add 0 0) (fun ce2 => ae_f (Nat.add 0 0) fun sl2 => ae_f (Nat.add pc 3) fun pc => ae_exe m mi pc ce2 sl2 lv (v :: rest) h2) = some r := mm
      rw [ae_f_eq, ae_f_eq, ae_f_eq] at mm
      exact mm
/-- what stands outside -/
theorem iv_out {idx j z : Nat} {i : Instr} {len : Nat} (hi : (i = .ldc idx ∧ len = 2 ∧ ae_cp M.1 idx = some (21, j, z)) ∨ (i = .getstatic idx ∧ len = 3 ∧ ae_cp M.1 idx = some (20, j, z))) (hM : ae_m mi = some M) (hd : decode M.2.2.1 pc = .ok (i, len)) (hr : ae_exe n mi pc 0 0 lv st h = some r) : ∃ n', n = n' + 1 ∧ ae_exe n' mi (pc + len) 0 0 lv (wk_r (256 + j) :: st) h = some r := by
  rcases hi with ⟨e, el, hc⟩ | ⟨e, el, hc⟩ <;> subst e el
  · refine iv_eq hM hd rfl (fun K C => ?_) hr
    show (match ae_cp M.1 idx with | some (4, n, _) => K (Nat.add pc 2) 0 0 lv (ae_i n :: st) h | some (21, j, _) => K (Nat.add pc 2) 0 0 lv (.inr (.inr (some (Nat.add 256 j))) :: st) h | _ => none) = _
    rw [hc]; rfl
  · refine iv_eq hM hd rfl (fun K C => ?_) hr
    show (match ae_cp M.1 idx with | some (20, j, _) => K (Nat.add pc 3) 0 0 lv (.inr (.inr (some (Nat.add 256 j))) :: st) h | _ => none) = _
    rw [hc]; rfl
/-- a static row -/
theorem iv_ldx {k : Nat} {l : List Nat} (hM : ae_m mi = some M) (hd : decode M.2.2.1 pc = .ok (.iaload, 1)) (hk : 256 ≤ k ∧ k < 259) (hl : ae_exs[k - 256]? = some l) (hln : l.length < 1000) (hx : sv_I x) (hr : ae_exe n mi pc 0 0 lv (wk_i x :: wk_r k :: st) h = some r) : (0 ≤ x ∧ x < l.length) ∧ ∃ n', n = n' + 1 ∧ ae_exe n' mi (pc + 1) 0 0 lv (ae_i (l.getD x.toNat 0) :: st) h = some r := by
  have hb : Nat.ble 256 k = true := Nat.ble_eq_true_of_le hk.1
  have hb2 : and (Nat.ble 256 k) (Nat.blt k 259) = true := by rw [hb, show Nat.blt k 259 = true from Nat.ble_eq_true_of_le hk.2]; rfl
  have hl2 : ae_nth ae_exs (Nat.sub k 256) = some l := by rw [ae_nth_eq]; exact hl
  have hu := sv_uc x
  have hxx := hx
  unfold sv_I at hxx
  by_cases hi : 0 ≤ x ∧ x < l.length
  · have ex : sv_u x = x.toNat := sv_u_nn hi.1 (by omega)
    refine ⟨hi, iv_eq hM hd rfl (fun K C => ?_) hr⟩
    show cond (Nat.ble 256 k) (ae_ldx (wk_i x :: wk_r k :: st) fun st => K (Nat.add pc 1) 0 0 lv st h) (ae_ald 0 (wk_i x :: wk_r k :: st) h fun st => K (Nat.add pc 1) 0 0 lv st h) = K (pc + 1) 0 0 lv (ae_i (l.getD x.toNat 0) :: st) h
    rw [hb, cond_true]
    unfold ae_ldx
    dsimp only
    rw [hb2, cond_true, hl2]
    dsimp only
    rw [ae_nth_eq, ex, List.getElem?_eq_getElem (by omega), List.getD_eq_getElem?_getD, List.getElem?_eq_getElem (by omega)]
    rfl
  · exfalso
    obtain ⟨m, -, hr⟩ := iv0 hM hd rfl hr
    have hr : cond (Nat.ble 256 k) (ae_ldx (wk_i x :: wk_r k :: st) fun st => ae_f (Nat.add pc 1) fun pc => ae_exe m mi pc 0 0 lv st h) (ae_ald 0 (wk_i x :: wk_r k :: st) h fun st => ae_f (Nat.add pc 1) fun pc => ae_exe m mi pc 0 0 lv st h) = some r := hr
    rw [hb, cond_true] at hr
    unfold ae_ldx at hr
    dsimp only at hr
    rw [hb2, cond_true, hl2] at hr
    dsimp only at hr
    rw [ae_nth_eq, List.getElem?_eq_none (by omega)] at hr
    cases hr
/-- Math.min -/
theorem iv_min {idx a b : Nat} (hM : ae_m mi = some M) (hd : decode M.2.2.1 pc = .ok (.invokestatic idx, 3)) (hc : ae_cp M.1 idx = some (8, a, b)) (hx : sv_I x) (hy : sv_I y) (hr : ae_exe n mi pc 0 0 lv (wk_i y :: wk_i x :: st) h = some r) : ∃ n', n = n' + 1 ∧ ae_exe n' mi (pc + 3) 0 0 lv (wk_i (if y < x then y else x) :: st) h = some r := by
  obtain ⟨m, e, hr⟩ := iv0 hM hd rfl hr
  refine ⟨m, e, ?_⟩
  have hr : ae_call M 0 idx pc 0 0 lv (wk_i y :: wk_i x :: st) h (fun pc ce sl lv st h => ae_f pc fun pc => ae_exe m mi pc ce sl lv st h) (fun mj as h => ae_exe m mj 0 0 0 (ae_args as 0) [] h) = some r := hr
  unfold ae_call at hr
  rw [hc] at hr
  obtain ⟨-, hr⟩ := ae_cond hr
  obtain ⟨-, hr⟩ := ae_cond hr
  have hr : ae_f (Nat.add pc 3) (fun pc => ae_exe m mi pc 0 0 lv (ae_i (cond (Nat.blt (ae_bs (sv_u y)) (ae_bs (sv_u x))) (sv_u y) (sv_u x)) :: st) h) = some r := hr
  rw [ae_f_eq] at hr
  have e2 : ae_i (cond (Nat.blt (ae_bs (sv_u y)) (ae_bs (sv_u x))) (sv_u y) (sv_u x)) = wk_i (if y < x then y else x) := by
    have hux := sv_uc x
    have huy := sv_uc y
    unfold sv_I at hx hy
    have bx : ae_bs (sv_u x) = (sv_u x + 2147483648) % 4294967296 := rfl
    have bY : ae_bs (sv_u y) = (sv_u y + 2147483648) % 4294967296 := rfl
    by_cases hq : y < x
    · rw [if_pos hq, show Nat.blt (ae_bs (sv_u y)) (ae_bs (sv_u x)) = true from Nat.ble_eq_true_of_le (by show ae_bs (sv_u y) + 1 ≤ _; rw [bx, bY]; omega)]
      rfl
    · rw [if_neg hq, show Nat.blt (ae_bs (sv_u y)) (ae_bs (sv_u x)) = false by
        cases hb : Nat.blt (ae_bs (sv_u y)) (ae_bs (sv_u x)) with
        | false => rfl
        | true => have := Nat.le_of_ble_eq_true hb; rw [bx, bY] at this; omega]
      rfl
  rw [e2] at hr
  exact hr
/-- a text's length, and a sign of it -/
theorem iv_slen {idx a b k : Nat} {l : List Nat} (hM : ae_m mi = some M) (hd : decode M.2.2.1 pc = .ok (.invokevirtual idx, 3)) (hc : ae_cp M.1 idx = some (22, a, b)) (hk : 256 ≤ k) (hl : ae_exs[k - 256]? = some l) (hr : ae_exe n mi pc 0 0 lv (wk_r k :: st) h = some r) : ∃ n', n = n' + 1 ∧ ae_exe n' mi (pc + 3) 0 0 lv (ae_i l.length :: st) h = some r := by
  obtain ⟨m, e, hr⟩ := iv0 hM hd rfl hr
  refine ⟨m, e, ?_⟩
  have hr : ae_call M 1 idx pc 0 0 lv (wk_r k :: st) h (fun pc ce sl lv st h => ae_f pc fun pc => ae_exe m mi pc ce sl lv st h) (fun mj as h => ae_exe m mj 0 0 0 (ae_args as 0) [] h) = some r := hr
  unfold ae_call at hr
  rw [hc] at hr
  obtain ⟨-, hr⟩ := ae_cond hr
  have hx : ae_xt k = some l := by
    unfold ae_xt
    rw [show Nat.ble 256 k = true from Nat.ble_eq_true_of_le hk, cond_true, ae_nth_eq]; exact hl
  dsimp only at hr
  rw [hx] at hr
  obtain ⟨-, hr⟩ := ae_cond hr
  rw [ae_f_eq] at hr
  exact hr
theorem iv_schar {idx a b k : Nat} {l : List Nat} (hM : ae_m mi = some M) (hd : decode M.2.2.1 pc = .ok (.invokevirtual idx, 3)) (hc : ae_cp M.1 idx = some (23, a, b)) (hk : 256 ≤ k) (hl : ae_exs[k - 256]? = some l) (hln : l.length < 1000) (hx : sv_I x) (hr : ae_exe n mi pc 0 0 lv (wk_i x :: wk_r k :: st) h = some r) : (0 ≤ x ∧ x < l.length) ∧ ∃ n', n = n' + 1 ∧ ae_exe n' mi (pc + 3) 0 0 lv (ae_i (l.getD x.toNat 0) :: st) h = some r := by
  obtain ⟨m, e, hr⟩ := iv0 hM hd rfl hr
  have hr : ae_call M 1 idx pc 0 0 lv (wk_i x :: wk_r k :: st) h (fun pc ce sl lv st h => ae_f pc fun pc => ae_exe m mi pc ce sl lv st h) (fun mj as h => ae_exe m mj 0 0 0 (ae_args as 0) [] h) = some r := hr
  unfold ae_call at hr
  rw [hc] at hr
  obtain ⟨-, hr⟩ := ae_cond hr
  have hxt : ae_xt k = some l := by
    unfold ae_xt
    rw [show Nat.ble 256 k = true from Nat.ble_eq_true_of_le hk, cond_true, ae_nth_eq]; exact hl
  dsimp only at hr
  rw [hxt] at hr
  dsimp only at hr
  have hu := sv_uc x
  have hxx := hx
  unfold sv_I at hxx
  by_cases hi : 0 ≤ x ∧ x < l.length
  · have ex : sv_u x = x.toNat := sv_u_nn hi.1 (by omega)
    rw [ae_nth_eq, ex, List.getElem?_eq_getElem (by omega)] at hr
    obtain ⟨-, hr⟩ := ae_cond hr
    rw [ae_f_eq] at hr
    refine ⟨hi, m, e, ?_⟩
    rw [List.getD_eq_getElem?_getD, List.getElem?_eq_getElem (by omega)]
    exact hr
  · exfalso
    rw [ae_nth_eq, List.getElem?_eq_none (by omega)] at hr
    cases hr
/-! longs -/
theorem iv_lconst {c : Fin 2} (hM : ae_m mi = some M) (hd : decode M.2.2.1 pc = .ok (.lconst c, 1)) (hr : ae_exe n mi pc 0 0 lv st h = some r) : ∃ n', n = n' + 1 ∧ ae_exe n' mi (pc + 1) 0 0 lv (wk_l c.val :: st) h = some r :=
  iv_eq hM hd rfl (fun K C => rfl) hr
theorem iv_lload_n {k : Fin 4} {v : Nat} (hM : ae_m mi = some M) (hd : decode M.2.2.1 pc = .ok (.lload_n k, 1)) (hv : ae_lk lv k.val = some (wk_l v)) (hr : ae_exe n mi pc 0 0 lv st h = some r) : ∃ n', n = n' + 1 ∧ ae_exe n' mi (pc + 1) 0 0 lv (wk_l v :: st) h = some r :=
  iv_eq hM hd rfl (fun K C => by
    show ae_lload lv k.val (fun v => K (Nat.add pc 1) 0 0 lv (v :: st) h) = _
    unfold ae_lload; rw [hv]) hr
theorem iv_ldc2 {idx v z : Nat} (hM : ae_m mi = some M) (hd : decode M.2.2.1 pc = .ok (.ldc2_w idx, 3)) (hc : ae_cp M.1 idx = some (5, v, z)) (hr : ae_exe n mi pc 0 0 lv st h = some r) : ∃ n', n = n' + 1 ∧ ae_exe n' mi (pc + 3) 0 0 lv (wk_l v :: st) h = some r :=
  iv_eq hM hd rfl (fun K C => by
    show (match ae_cp M.1 idx with | some (5, n, _) => K (Nat.add pc 3) 0 0 lv (ae_j n :: st) h | _ => none) = _
    rw [hc]; rfl) hr
theorem iv_lcmp {u v : Nat} (hM : ae_m mi = some M) (hd : decode M.2.2.1 pc = .ok (.lcmp, 1)) (hr : ae_exe n mi pc 0 0 lv (wk_l u :: wk_l v :: st) h = some r) : ∃ n', n = n' + 1 ∧ ae_exe n' mi (pc + 1) 0 0 lv (wk_i (sv_g (ae_lcmp v u)) :: st) h = some r :=
  iv_eq hM hd rfl (fun K C => by
    show ae_f (ae_lcmp v u) (fun z => K (Nat.add pc 1) 0 0 lv (ae_i z :: st) h) = _
    rw [ae_f_eq, ← wk_ig (ae_lcmp_lt v u)]) hr
theorem iv_lshl {v : Nat} (hM : ae_m mi = some M) (hd : decode M.2.2.1 pc = .ok (.lshl, 1)) (hx : 0 ≤ x ∧ x < 64) (hr : ae_exe n mi pc 0 0 lv (wk_i x :: wk_l v :: st) h = some r) : ∃ n', n = n' + 1 ∧ ae_exe n' mi (pc + 1) 0 0 lv (wk_l (ae_lshl v x.toNat) :: st) h = some r :=
  iv_eq hM hd rfl (fun K C => by
    have ex : sv_u x = x.toNat := sv_u_nn hx.1 (by omega)
    show cond (Nat.blt (sv_u x) 64) (ae_f (ae_lshl v (sv_u x)) fun z => K (Nat.add pc 1) 0 0 lv (ae_j z :: st) h) none = _
    rw [ex, show Nat.blt x.toNat 64 = true from Nat.ble_eq_true_of_le (by omega), cond_true, ae_f_eq]; rfl) hr
theorem iv_lor {u v : Nat} (hM : ae_m mi = some M) (hd : decode M.2.2.1 pc = .ok (.lor, 1)) (hr : ae_exe n mi pc 0 0 lv (wk_l u :: wk_l v :: st) h = some r) : ∃ n', n = n' + 1 ∧ ae_exe n' mi (pc + 1) 0 0 lv (wk_l (Nat.lor v u) :: st) h = some r :=
  iv_eq hM hd rfl (fun K C => by
    show ae_f (Nat.lor v u) (fun z => K (Nat.add pc 1) 0 0 lv (ae_j z :: st) h) = _
    rw [ae_f_eq]; rfl) hr
theorem iv_i2l (hM : ae_m mi = some M) (hd : decode M.2.2.1 pc = .ok (.i2l, 1)) (hr : ae_exe n mi pc 0 0 lv (wk_i x :: st) h = some r) : ∃ n', n = n' + 1 ∧ ae_exe n' mi (pc + 1) 0 0 lv (wk_l (ae_i2l (sv_u x)) :: st) h = some r :=
  iv_eq hM hd rfl (fun K C => by
    show ae_f (ae_i2l (sv_u x)) (fun z => K (Nat.add pc 1) 0 0 lv (ae_j z :: st) h) = _
    rw [ae_f_eq]; rfl) hr
theorem dc_lor_lt {u v : Nat} (hu : u < 18446744073709551616) (hv : v < 18446744073709551616) : Nat.lor v u < 18446744073709551616 := Nat.or_lt_two_pow (n := 64) hv hu
end
section
variable {r : ae_R} {n mi pc : Nat} {M : ae_M} {lv : ae_L} {st : List ae_V} {h : ae_H} {x y : Int}
theorem iw_iadd (hM : ae_m mi = some M) (hd : decode M.2.2.1 pc = .ok (.iadd, 1)) (hr : ae_exe n mi pc 0 0 lv (wk_i y :: wk_i x :: st) h = some r) : ∃ n', n = n' + 1 ∧ ae_exe n' mi (pc + 1) 0 0 lv (wk_i (dc_w (x + y)) :: st) h = some r := by
  obtain ⟨n', e, hr⟩ := iv_iadd hM hd hr
  exact ⟨n', e, by rw [dc_w_i]; exact hr⟩
theorem iw_isub (hM : ae_m mi = some M) (hd : decode M.2.2.1 pc = .ok (.isub, 1)) (hr : ae_exe n mi pc 0 0 lv (wk_i y :: wk_i x :: st) h = some r) : ∃ n', n = n' + 1 ∧ ae_exe n' mi (pc + 1) 0 0 lv (wk_i (dc_w (x - y)) :: st) h = some r := by
  obtain ⟨n', e, hr⟩ := iv_isub hM hd hr
  exact ⟨n', e, by rw [dc_w_i]; exact hr⟩
theorem iw_imul (hM : ae_m mi = some M) (hd : decode M.2.2.1 pc = .ok (.imul, 1)) (hr : ae_exe n mi pc 0 0 lv (wk_i y :: wk_i x :: st) h = some r) : ∃ n', n = n' + 1 ∧ ae_exe n' mi (pc + 1) 0 0 lv (wk_i (dc_w (x * y)) :: st) h = some r := by
  obtain ⟨n', e, hr⟩ := iv_imul hM hd hr
  exact ⟨n', e, by rw [dc_w_i]; exact hr⟩
theorem iw_ineg (hM : ae_m mi = some M) (hd : decode M.2.2.1 pc = .ok (.ineg, 1)) (hr : ae_exe n mi pc 0 0 lv (wk_i x :: st) h = some r) : ∃ n', n = n' + 1 ∧ ae_exe n' mi (pc + 1) 0 0 lv (wk_i (dc_w (-x)) :: st) h = some r := by
  obtain ⟨n', e, hr⟩ := iv_ineg hM hd hr
  exact ⟨n', e, by rw [dc_w_i]; exact hr⟩
theorem iw_iinc {k : Nat} {c : Int} (hM : ae_m mi = some M) (hd : decode M.2.2.1 pc = .ok (.iinc k c, 3)) (hk : Nat.blt k M.2.2.2.1 = true) (h1 : -128 ≤ c ∧ c ≤ 127) (hv : ae_lk lv k = some (wk_i x)) (hr : ae_exe n mi pc 0 0 lv st h = some r) : ∃ lv', wk_sl lv k (wk_i (dc_w (x + c))) lv' ∧ ∃ n', n = n' + 1 ∧ ae_exe n' mi (pc + 3) 0 0 lv' st h = some r := by
  obtain ⟨lv', q, hr⟩ := iv_iinc hM hd hk h1 hv hr
  exact ⟨lv', by rw [dc_w_i]; exact q, hr⟩
theorem dc_gd {l : List Nat} (h : ∀ z ∈ l, z < 4294967296) (i : Nat) : l.getD i 0 < 4294967296 := by
  rw [List.getD_eq_getElem?_getD]
  cases e : l[i]? with
  | none => decide
  | some z => exact h z (List.mem_of_getElem? e)
theorem dc_exs_b : ∀ l ∈ ae_exs, l.length < 1000 ∧ ∀ z ∈ l, z < 4294967296 := by decide +kernel
theorem iw_ldx {k : Nat} {l : List Nat} (hM : ae_m mi = some M) (hd : decode M.2.2.1 pc = .ok (.iaload, 1)) (hk : 256 ≤ k ∧ k < 259) (hl : ae_exs[k - 256]? = some l) (hx : sv_I x) (hr : ae_exe n mi pc 0 0 lv (wk_i x :: wk_r k :: st) h = some r) : (0 ≤ x ∧ x < l.length) ∧ ∃ n', n = n' + 1 ∧ ae_exe n' mi (pc + 1) 0 0 lv (wk_i (sv_g (l.getD x.toNat 0)) :: st) h = some r := by
  obtain ⟨b1, b2⟩ := dc_exs_b l (List.mem_of_getElem? hl)
  obtain ⟨q, n', e, hr⟩ := iv_ldx hM hd hk hl b1 hx hr
  exact ⟨q, n', e, by rw [wk_ig (dc_gd b2 _)]; exact hr⟩
theorem iw_slen {idx a b k : Nat} {l : List Nat} (hM : ae_m mi = some M) (hd : decode M.2.2.1 pc = .ok (.invokevirtual idx, 3)) (hc : ae_cp M.1 idx = some (22, a, b)) (hk : 256 ≤ k) (hl : ae_exs[k - 256]? = some l) (hr : ae_exe n mi pc 0 0 lv (wk_r k :: st) h = some r) : ∃ n', n = n' + 1 ∧ ae_exe n' mi (pc + 3) 0 0 lv (wk_i (l.length : Int) :: st) h = some r := by
  obtain ⟨b1, -⟩ := dc_exs_b l (List.mem_of_getElem? hl)
  obtain ⟨n', e, hr⟩ := iv_slen hM hd hc hk hl hr
  refine ⟨n', e, ?_⟩
  have e2 : (wk_i (l.length : Int) : ae_V) = ae_i l.length := by
    show (Sum.inl (Sum.inl (sv_u (l.length : Int))) : ae_V) = Sum.inl (Sum.inl l.length)
    rw [sv_u_nn (by omega) (by omega), Int.toNat_natCast]
  rw [e2]; exact hr
theorem iw_schar {idx a b k : Nat} {l : List Nat} (hM : ae_m mi = some M) (hd : decode M.2.2.1 pc = .ok (.invokevirtual idx, 3)) (hc : ae_cp M.1 idx = some (23, a, b)) (hk : 256 ≤ k) (hl : ae_exs[k - 256]? = some l) (hx : sv_I x) (hr : ae_exe n mi pc 0 0 lv (wk_i x :: wk_r k :: st) h = some r) : (0 ≤ x ∧ x < l.length) ∧ ∃ n', n = n' + 1 ∧ ae_exe n' mi (pc + 3) 0 0 lv (wk_i (sv_g (l.getD x.toNat 0)) :: st) h = some r := by
  obtain ⟨b1, b2⟩ := dc_exs_b l (List.mem_of_getElem? hl)
  obtain ⟨q, n', e, hr⟩ := iv_schar hM hd hc hk hl b1 hx hr
  exact ⟨q, n', e, by rw [wk_ig (dc_gd b2 _)]; exact hr⟩
end
