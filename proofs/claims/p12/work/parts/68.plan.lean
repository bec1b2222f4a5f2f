/-! THE REFERENCE PARTS WANTS: plan, part (wip/p2/hand/g68.py) -/
theorem tA_101 : sv_ty 165 = some 101 := rfl
theorem tU_101 {a b : Nat} (ha : sv_ty a = some 101) (hb : sv_ty b = some 101) : a = b := wk_uq (by decide +kernel) ha hb
theorem tA_102 : sv_ty 166 = some 102 := rfl
theorem tU_102 {a b : Nat} (ha : sv_ty a = some 102) (hb : sv_ty b = some 102) : a = b := wk_uq (by decide +kernel) ha hb
theorem tA_103 : sv_ty 167 = some 103 := rfl
theorem tU_103 {a b : Nat} (ha : sv_ty a = some 103) (hb : sv_ty b = some 103) : a = b := wk_uq (by decide +kernel) ha hb
/-- what make0 may change -/
def wm_M0 : List (Nat × Nat) := [(98, 0), (12, 79), (99, 0), (100, 0), (12, 80), (12, 81)]
/-- a set without a part -/
def wm_sb (j p : Int) : Int := sv_g (sv_u j &&& sv_u (-p - 1))
theorem wm_sb_le {j p : Int} (hj : 0 ≤ j ∧ j < 2147483648) : 0 ≤ wm_sb j p ∧ wm_sb j p ≤ j := by
  have ej : sv_u j = j.toNat := sv_u_nn hj.1 (by omega)
  have hle : sv_u j &&& sv_u (-p - 1) ≤ sv_u j := Nat.and_le_left
  unfold wm_sb
  rw [wk_g_nat (by omega)]
  omega
theorem wm_and_le {j p : Int} (hj : 0 ≤ j ∧ j < 2147483648) : 0 ≤ sv_g (sv_u j &&& sv_u p) ∧ sv_g (sv_u j &&& sv_u p) ≤ j := by
  have ej : sv_u j = j.toNat := sv_u_nn hj.1 (by omega)
  have hle : sv_u j &&& sv_u p ≤ sv_u j := Nat.and_le_left
  rw [wk_g_nat (by omega)]
  omega
theorem wm_and_0 {p : Int} : sv_g (sv_u 0 &&& sv_u p) = 0 := by
  rw [show sv_u 0 = 0 from rfl, Nat.zero_and]; rfl
theorem wm_and_I (j p : Int) : sv_I (sv_g (sv_u j &&& sv_u p)) := sv_g_I (Nat.lt_of_le_of_lt Nat.and_le_right (sv_u_lt p))
/-- what plan has made out up to n -/
def wm_po (J : Nat → Int → Int) (h : ae_H) (n : Int) : Prop := wk_R h 165 0 = 0 ∧ (∀ j, 0 ≤ j → j < n → 0 ≤ wk_R h 165 j ∧ wk_R h 165 j ≤ 100) ∧ (∀ j, 1 ≤ j → j < n → wk_R h 165 j < 100 → wm_fit J (wk_R h 166 j) ∧ wk_R h 165 (wm_sb j (wk_R h 166 j)) + 1 = wk_R h 165 j) ∧ (∀ j, 1 ≤ j → j < n → wk_R h 167 j = 1 → wm_fit J j)
theorem wm_po_eq {J : Nat → Int → Int} {h h' : ae_H} {n : Int} (hn : n ≤ 256) (hp : wm_po J h n) (e1 : ∀ i, 0 ≤ i → i < n ∨ i = 0 → wk_R h' 165 i = wk_R h 165 i) (e2 : ∀ i, 0 ≤ i → i < n → wk_R h' 166 i = wk_R h 166 i) (e3 : ∀ i, 0 ≤ i → i < n → wk_R h' 167 i = wk_R h 167 i) : wm_po J h' n := by
  obtain ⟨a, b, c, d⟩ := hp
  refine ⟨(e1 0 (by omega) (Or.inr rfl)).trans a, fun j x y => by rw [e1 j x (Or.inl y)]; exact b j x y, fun j x y z => ?_, fun j x y z => ?_⟩
  · rw [e1 j (by omega) (Or.inl y)] at z
    obtain ⟨c1, c2⟩ := c j x y z
    have sl := wm_sb_le (p := wk_R h 166 j) (j := j) ⟨by omega, by omega⟩
    rw [e2 j (by omega) y, e1 j (by omega) (Or.inl y), e1 _ sl.1 (Or.inl (by omega))]
    exact ⟨c1, c2⟩
  · rw [e3 j (by omega) y] at z
    exact d j x y z

theorem wm_52 {mods : List (Nat × Nat)} {h0 : ae_H} {Q : ae_R → Prop} {k0 : Nat} {al c : Int} {J : Nat → Int → Int} (mm : ∀ q ∈ wm_M0, q ∈ mods) (m1 : (101, 0) ∈ mods) (m2 : (102, 0) ∈ mods) (m3 : (103, 0) ∈ mods) (t0 : sv_ty k0 = some 12) (hc : J 1 0 = c ∧ 0 ≤ c ∧ c ≤ 8) (h6 : ∀ k, 0 ≤ k → k < c → 0 ≤ J 2 k → J 7 (J 2 k) ≤ 20 ∧ 1 ≤ J 6 (J 2 k)) (ha : al = ((2 ^ c.toNat : Nat) : Int) - 1 ∧ 0 ≤ al ∧ al ≤ 255) {n le : Int} (hn : 1 ≤ n ∧ n ≤ al) (hle : 0 ≤ le ∧ le ≤ n) (g : ∀ (lv : ae_L) (h : ae_H), sv_Tk sv_ty sv_tt mods h0 h → (wm_J h = J) → (ae_lk lv 0 = some (wk_r k0)) → (ae_lk lv 1 = some (wk_i al)) → (ae_lk lv 2 = some (wk_i n)) → (wm_po J h (n + 1)) → sv_G Q 261 142 lv [] h) :
    ∀ (m : Nat) (lv : ae_L) (h : ae_H) (p : Int), sv_Tk sv_ty sv_tt mods h0 h → (wm_J h = J) → (ae_lk lv 0 = some (wk_r k0)) → (ae_lk lv 1 = some (wk_i al)) → (ae_lk lv 2 = some (wk_i n)) → (ae_lk lv 3 = some (wk_i le)) → (ae_lk lv 4 = some (wk_i p)) → (wm_po J h n) → (0 ≤ wk_R h 165 n ∧ wk_R h 165 n ≤ 100) → (wk_R h 165 n < 100 → wm_fit J (wk_R h 166 n) ∧ wk_R h 165 (wm_sb n (wk_R h 166 n)) + 1 = wk_R h 165 n) → (wk_R h 167 n = 1 → wm_fit J n) → (0 ≤ p ∧ p ≤ n + 1) → (n + 1 - p ≤ m) → sv_G Q 261 52 lv [] h := by
  intro m
  induction m with
  | zero =>
    intro lv h p T hJ l0 l1 l2 l3 l4 P0 P1 P2 P3 hp hm
    obtain ⟨k1, f2, y3⟩ := wk_ref (j := 76) T.1 t0 tT_12 rfl
    rw [tU_101 y3 tA_101] at f2
    obtain ⟨k4, f5, y6⟩ := wk_ref (j := 77) T.1 t0 tT_12 rfl
    rw [tU_102 y6 tA_102] at f5
    obtain ⟨k7, f8, y9⟩ := wk_ref (j := 78) T.1 t0 tT_12 rfl
    rw [tU_103 y9 tA_103] at f8
    refine wk_iload wm_261 wd_261_52 l4 ?_
    refine wk_iload_n wm_261 wd_261_54 l2 ?_
    refine wk_icmp 142 wm_261 wd_261_55 (by decide) (by unfold sv_I; omega) (by unfold sv_I; omega) (fun c10 => ?_) (fun c10 => ?_)
    · have c10 : (p : Int) > n := c10
      refine g lv h T hJ l0 l1 l2 ⟨P0.1, fun j a b => ?_, fun j a b z => ?_, fun j a b z => ?_⟩
      · by_cases e : j = n
        · rw [e]; exact P1
        · exact P0.2.1 j a (by omega)
      · by_cases e : j = n
        · rw [e]; exact P2 (by rw [← e]; exact z)
        · exact P0.2.2.1 j a (by omega) z
      · by_cases e : j = n
        · rw [e]; exact P3 (by rw [← e]; exact z)
        · exact P0.2.2.2 j a (by omega) z
    · have c10 : ¬ ((p : Int) > n) := c10
      exfalso; omega
  | succ m ih =>
    intro lv h p T hJ l0 l1 l2 l3 l4 P0 P1 P2 P3 hp hm
    obtain ⟨k11, f12, y13⟩ := wk_ref (j := 76) T.1 t0 tT_12 rfl
    rw [tU_101 y13 tA_101] at f12
    obtain ⟨k14, f15, y16⟩ := wk_ref (j := 77) T.1 t0 tT_12 rfl
    rw [tU_102 y16 tA_102] at f15
    obtain ⟨k17, f18, y19⟩ := wk_ref (j := 78) T.1 t0 tT_12 rfl
    rw [tU_103 y19 tA_103] at f18
    refine wk_iload wm_261 wd_261_52 l4 ?_
    refine wk_iload_n wm_261 wd_261_54 l2 ?_
    refine wk_icmp 142 wm_261 wd_261_55 (by decide) (by unfold sv_I; omega) (by unfold sv_I; omega) (fun c20 => ?_) (fun c20 => ?_)
    · have c20 : (p : Int) > n := c20
      refine g lv h T hJ l0 l1 l2 ⟨P0.1, fun j a b => ?_, fun j a b z => ?_, fun j a b z => ?_⟩
      · by_cases e : j = n
        · rw [e]; exact P1
        · exact P0.2.1 j a (by omega)
      · by_cases e : j = n
        · rw [e]; exact P2 (by rw [← e]; exact z)
        · exact P0.2.2.1 j a (by omega) z
      · by_cases e : j = n
        · rw [e]; exact P3 (by rw [← e]; exact z)
        · exact P0.2.2.2 j a (by omega) z
    · have c20 : ¬ ((p : Int) > n) := c20
      refine wk_iload wm_261 wd_261_58 l4 ?_
      refine wk_iload_n wm_261 wd_261_60 l2 ?_
      refine wk_iconst wm_261 wd_261_61 (by decide) ?_
      refine wk_inot wm_261 wd_261_62 ?_
      refine wk_iand wm_261 wd_261_63 ?_
      have i1 := wm_and_I p (-n - 1)
      unfold sv_I at i1
      refine wk_if 136 wm_261 wd_261_64 (by decide) (by unfold sv_I; omega) (fun c21 => ?_) (fun c21 => ?_)
      · have c21 : ((sv_g (sv_u p &&& sv_u (-n - 1))) : Int) ≠ 0 := c21
        refine wk_iinc wm_261 wd_261_136 (by decide +kernel) (by decide) l4 (fun lv22 s23 => ?_)
        have l24 := s23.2 0 _ l0 (by decide) (Or.inl rfl)
        have l25 := s23.2 1 _ l1 (by decide) (Or.inl rfl)
        have l26 := s23.2 2 _ l2 (by decide) (Or.inl rfl)
        have l27 := s23.2 3 _ l3 (by decide) (Or.inl rfl)
        have l28 := s23.1
        refine wk_goto 52 wm_261 wd_261_139 (by decide) ?_
        exact ih lv22 h (p + 1) T hJ l24 l25 l26 l27 l28 P0 P1 P2 P3 (by omega) (by omega)
      · have c21 : ¬ (((sv_g (sv_u p &&& sv_u (-n - 1))) : Int) ≠ 0) := c21
        refine wk_iload wm_261 wd_261_67 l4 ?_
        refine wk_iload_n wm_261 wd_261_69 l3 ?_
        refine wk_iand wm_261 wd_261_70 ?_
        have i2 := wm_and_I p le
        unfold sv_I at i2
        refine wk_if 136 wm_261 wd_261_71 (by decide) (by unfold sv_I; omega) (fun c29 => ?_) (fun c29 => ?_)
        · have c29 : ((sv_g (sv_u p &&& sv_u le)) : Int) = 0 := c29
          refine wk_iinc wm_261 wd_261_136 (by decide +kernel) (by decide) l4 (fun lv30 s31 => ?_)
          have l32 := s31.2 0 _ l0 (by decide) (Or.inl rfl)
          have l33 := s31.2 1 _ l1 (by decide) (Or.inl rfl)
          have l34 := s31.2 2 _ l2 (by decide) (Or.inl rfl)
          have l35 := s31.2 3 _ l3 (by decide) (Or.inl rfl)
          have l36 := s31.1
          refine wk_goto 52 wm_261 wd_261_139 (by decide) ?_
          exact ih lv30 h (p + 1) T hJ l32 l33 l34 l35 l36 P0 P1 P2 P3 (by omega) (by omega)
        · have c29 : ¬ (((sv_g (sv_u p &&& sv_u le)) : Int) = 0) := c29
          have p1 : 1 ≤ p := by
            by_cases z : 1 ≤ p
            · exact z
            · have e0 : p = 0 := by omega
              rw [e0, wm_and_0] at c29; exact absurd rfl c29
          refine wk_aload_n wm_261 wd_261_74 l0 ?_
          refine wk_getf wm_261 wd_261_75 (by decide +kernel) T.1 t0 tT_12 f18 ?_
          refine wk_iload wm_261 wd_261_78 l4 ?_
          refine wk_bald wm_261 wd_261_80 T.1 tA_103 tT_103 (by decide) (by decide) ⟨by omega, by omega⟩ (fun q37 q38 => ?_)
          refine wk_if 136 wm_261 wd_261_81 (by decide) (by unfold sv_I; omega) (fun c39 => ?_) (fun c39 => ?_)
          · have c39 : ((wk_R h 167 p) : Int) = 0 := c39
            refine wk_iinc wm_261 wd_261_136 (by decide +kernel) (by decide) l4 (fun lv40 s41 => ?_)
            have l42 := s41.2 0 _ l0 (by decide) (Or.inl rfl)
            have l43 := s41.2 1 _ l1 (by decide) (Or.inl rfl)
            have l44 := s41.2 2 _ l2 (by decide) (Or.inl rfl)
            have l45 := s41.2 3 _ l3 (by decide) (Or.inl rfl)
            have l46 := s41.1
            refine wk_goto 52 wm_261 wd_261_139 (by decide) ?_
            exact ih lv40 h (p + 1) T hJ l42 l43 l44 l45 l46 P0 P1 P2 P3 (by omega) (by omega)
          · have c39 : ¬ (((wk_R h 167 p) : Int) = 0) := c39
            have sl := wm_sb_le (p := p) (j := n) ⟨by omega, by omega⟩
            unfold wm_sb at sl
            refine wk_aload_n wm_261 wd_261_84 l0 ?_
            refine wk_getf wm_261 wd_261_85 (by decide +kernel) T.1 t0 tT_12 f12 ?_
            refine wk_iload_n wm_261 wd_261_88 l2 ?_
            refine wk_iload wm_261 wd_261_89 l4 ?_
            refine wk_iconst wm_261 wd_261_91 (by decide) ?_
            refine wk_inot wm_261 wd_261_92 ?_
            refine wk_iand wm_261 wd_261_93 ?_
            refine wk_iald wm_261 wd_261_94 sv_ty_lt T.1 tA_101 tT_101 (by decide) ⟨by omega, by omega⟩ (fun q47 q48 => ?_)
            have bs : 0 ≤ wk_R h 165 (sv_g (sv_u n &&& sv_u (-p - 1))) ∧ wk_R h 165 (sv_g (sv_u n &&& sv_u (-p - 1))) ≤ 100 := by
              by_cases e : sv_g (sv_u n &&& sv_u (-p - 1)) = n
              · rw [e]; exact P1
              · exact P0.2.1 _ sl.1 (by omega)
            refine wk_iconst wm_261 wd_261_95 (by decide) ?_
            refine wk_iadd wm_261 wd_261_96 ?_
            refine wk_aload_n wm_261 wd_261_97 l0 ?_
            refine wk_getf wm_261 wd_261_98 (by decide +kernel) T.1 t0 tT_12 f12 ?_
            refine wk_iload_n wm_261 wd_261_101 l2 ?_
            refine wk_iald wm_261 wd_261_102 sv_ty_lt T.1 tA_101 tT_101 (by decide) ⟨by omega, by omega⟩ (fun q49 q50 => ?_)
            refine wk_icmp 109 wm_261 wd_261_103 (by decide) (by unfold sv_I; omega) (by unfold sv_I; omega) (fun c51 => ?_) (fun c51 => ?_)
            · have c51 : (((wk_R h 165 (sv_g (sv_u n &&& sv_u (-p - 1)))) + 1) : Int) < (wk_R h 165 n) := c51
              have ne : sv_g (sv_u n &&& sv_u (-p - 1)) ≠ n := fun z => by rw [z] at c51; omega
              refine wk_aload_n wm_261 wd_261_109 l0 ?_
              refine wk_getf wm_261 wd_261_110 (by decide +kernel) T.1 t0 tT_12 f12 ?_
              refine wk_iload_n wm_261 wd_261_113 l2 ?_
              refine wk_aload_n wm_261 wd_261_114 l0 ?_
              refine wk_getf wm_261 wd_261_115 (by decide +kernel) T.1 t0 tT_12 f12 ?_
              refine wk_iload_n wm_261 wd_261_118 l2 ?_
              refine wk_iload wm_261 wd_261_119 l4 ?_
              refine wk_iconst wm_261 wd_261_121 (by decide) ?_
              refine wk_inot wm_261 wd_261_122 ?_
              refine wk_iand wm_261 wd_261_123 ?_
              refine wk_iald wm_261 wd_261_124 sv_ty_lt T.1 tA_101 tT_101 (by decide) ⟨by omega, by omega⟩ (fun q52 q53 => ?_)
              refine wk_iconst wm_261 wd_261_125 (by decide) ?_
              refine wk_iadd wm_261 wd_261_126 ?_
              refine wk_iast wm_261 wd_261_127 sv_ty_lt T m1 tA_101 tT_101 (by decide) ⟨by omega, by omega⟩ ⟨by omega, by omega⟩ (by unfold sv_I; omega) (Or.inl rfl) (fun h54 T55 u56 g57 => ?_)
              have f58 := (u56.2 _ _).trans f12
              have f59 := (u56.2 _ _).trans f15
              have f60 := (u56.2 _ _).trans f18
              refine wk_aload_n wm_261 wd_261_128 l0 ?_
              refine wk_getf wm_261 wd_261_129 (by decide +kernel) T55.1 t0 tT_12 f59 ?_
              refine wk_iload_n wm_261 wd_261_132 l2 ?_
              refine wk_iload wm_261 wd_261_133 l4 ?_
              refine wk_iast wm_261 wd_261_135 sv_ty_lt T55 m2 tA_102 tT_102 (by decide) ⟨by omega, by omega⟩ ⟨by omega, by omega⟩ (by unfold sv_I; omega) (Or.inl rfl) (fun h61 T62 u63 g64 => ?_)
              have f65 := (u63.2 _ _).trans f58
              have f66 := (u63.2 _ _).trans f59
              have f67 := (u63.2 _ _).trans f60
              have j9 : wm_J h61 = J := (wm_J_up u63 (wm_a_ne tA_102 (by decide))).trans ((wm_J_up u56 (wm_a_ne tA_101 (by decide))).trans hJ)
              have ep : ∀ i, 0 ≤ i → i ≠ n → wk_R h61 165 i = wk_R h 165 i := fun i a b => by rw [wk_up_o u63 (by decide) a, wk_up_i u56 a b]
              have epn : wk_R h61 165 n = wk_R h 165 (sv_g (sv_u n &&& sv_u (-p - 1))) + 1 := by rw [wk_up_o u63 (by decide) (by omega)]; exact wk_up_s u56 (by omega)
              have ef : ∀ i, 0 ≤ i → i ≠ n → wk_R h61 166 i = wk_R h 166 i := fun i a b => by rw [wk_up_i u63 a b, wk_up_o u56 (by decide) a]
              have efn : wk_R h61 166 n = p := wk_up_s u63 (by omega)
              have ei : ∀ i, 0 ≤ i → wk_R h61 167 i = wk_R h 167 i := fun i a => by rw [wk_up_o u63 (by decide) a, wk_up_o u56 (by decide) a]
              have fp : wm_fit J p := by
                by_cases e : p = n
                · rw [e]; exact P3 (by rw [← e]; omega)
                · exact P0.2.2.2 p p1 (by omega) (by omega)
              have q0 : wm_po J h61 n := wm_po_eq (by omega) P0 (fun i a b => ep i a (by omega)) (fun i a b => ef i a (by omega)) (fun i a b => ei i a)
              have q2 : wk_R h61 165 n < 100 → wm_fit J (wk_R h61 166 n) ∧ wk_R h61 165 (wm_sb n (wk_R h61 166 n)) + 1 = wk_R h61 165 n := fun _ => by rw [efn, epn]; exact ⟨fp, by unfold wm_sb; rw [ep _ sl.1 ne]⟩
              refine wk_iinc wm_261 wd_261_136 (by decide +kernel) (by decide) l4 (fun lv68 s69 => ?_)
              have l70 := s69.2 0 _ l0 (by decide) (Or.inl rfl)
              have l71 := s69.2 1 _ l1 (by decide) (Or.inl rfl)
              have l72 := s69.2 2 _ l2 (by decide) (Or.inl rfl)
              have l73 := s69.2 3 _ l3 (by decide) (Or.inl rfl)
              have l74 := s69.1
              refine wk_goto 52 wm_261 wd_261_139 (by decide) ?_
              exact ih lv68 h61 (p + 1) T62 j9 l70 l71 l72 l73 l74 q0 (by rw [epn]; omega) q2 (by rw [ei n (by omega)]; exact P3) (by omega) (by omega)
            · have c51 : ¬ ((((wk_R h 165 (sv_g (sv_u n &&& sv_u (-p - 1)))) + 1) : Int) < (wk_R h 165 n)) := c51
              refine wk_goto 136 wm_261 wd_261_106 (by decide) ?_
              refine wk_iinc wm_261 wd_261_136 (by decide +kernel) (by decide) l4 (fun lv75 s76 => ?_)
              have l77 := s76.2 0 _ l0 (by decide) (Or.inl rfl)
              have l78 := s76.2 1 _ l1 (by decide) (Or.inl rfl)
              have l79 := s76.2 2 _ l2 (by decide) (Or.inl rfl)
              have l80 := s76.2 3 _ l3 (by decide) (Or.inl rfl)
              have l81 := s76.1
              refine wk_goto 52 wm_261 wd_261_139 (by decide) ?_
              exact ih lv75 h (p + 1) T hJ l77 l78 l79 l80 l81 P0 P1 P2 P3 (by omega) (by omega)
theorem wq_20 {mods : List (Nat × Nat)} {h0 : ae_H} {Q : ae_R → Prop} {k0 : Nat} {al c : Int} {J : Nat → Int → Int} (mm : ∀ q ∈ wm_M0, q ∈ mods) (m1 : (101, 0) ∈ mods) (m2 : (102, 0) ∈ mods) (m3 : (103, 0) ∈ mods) (t0 : sv_ty k0 = some 12) (hc : J 1 0 = c ∧ 0 ≤ c ∧ c ≤ 8) (h6 : ∀ k, 0 ≤ k → k < c → 0 ≤ J 2 k → J 7 (J 2 k) ≤ 20 ∧ 1 ≤ J 6 (J 2 k)) (ha : al = ((2 ^ c.toNat : Nat) : Int) - 1 ∧ 0 ≤ al ∧ al ≤ 255) (g : ∀ h2 x, sv_Tk sv_ty sv_tt mods h0 h2 → wm_J h2 = J → wm_po J h2 (al + 1) → (x = -1 ∨ (0 ≤ x ∧ x ≤ 99 ∧ wk_R h2 165 al = x)) → Q (some (wk_i x), h2)) :
    ∀ (m : Nat) (lv : ae_L) (h : ae_H) (n : Int), sv_Tk sv_ty sv_tt mods h0 h → (wm_J h = J) → (ae_lk lv 0 = some (wk_r k0)) → (ae_lk lv 1 = some (wk_i al)) → (ae_lk lv 2 = some (wk_i n)) → (wm_po J h n) → (1 ≤ n ∧ n ≤ al + 1) → (al + 1 - n ≤ m) → sv_G Q 261 20 lv [] h := by
  intro m
  induction m with
  | zero =>
    intro lv h n T hJ l0 l1 l2 P0 hn hm
    obtain ⟨k82, f83, y84⟩ := wk_ref (j := 76) T.1 t0 tT_12 rfl
    rw [tU_101 y84 tA_101] at f83
    obtain ⟨k85, f86, y87⟩ := wk_ref (j := 77) T.1 t0 tT_12 rfl
    rw [tU_102 y87 tA_102] at f86
    obtain ⟨k88, f89, y90⟩ := wk_ref (j := 78) T.1 t0 tT_12 rfl
    rw [tU_103 y90 tA_103] at f89
    refine wk_iload_n wm_261 wd_261_20 l2 ?_
    refine wk_iload_n wm_261 wd_261_21 l1 ?_
    refine wk_icmp 148 wm_261 wd_261_22 (by decide) (by unfold sv_I; omega) (by unfold sv_I; omega) (fun c91 => ?_) (fun c91 => ?_)
    · have c91 : (n : Int) > al := c91
      have bn := P0.2.1 al (by omega) (by omega)
      have en : n = al + 1 := by omega
      rw [en] at P0
      refine wk_aload_n wm_261 wd_261_148 l0 ?_
      refine wk_getf wm_261 wd_261_149 (by decide +kernel) T.1 t0 tT_12 f83 ?_
      refine wk_iload_n wm_261 wd_261_152 l1 ?_
      refine wk_iald wm_261 wd_261_153 sv_ty_lt T.1 tA_101 tT_101 (by decide) ⟨by omega, by omega⟩ (fun q92 q93 => ?_)
      refine wk_bipush wm_261 wd_261_154 (by decide) ?_
      refine wk_icmp 163 wm_261 wd_261_156 (by decide) (by unfold sv_I; omega) (by unfold sv_I; omega) (fun c94 => ?_) (fun c94 => ?_)
      · have c94 : ((wk_R h 165 al) : Int) < 100 := c94
        refine wk_aload_n wm_261 wd_261_163 l0 ?_
        refine wk_getf wm_261 wd_261_164 (by decide +kernel) T.1 t0 tT_12 f83 ?_
        refine wk_iload_n wm_261 wd_261_167 l1 ?_
        refine wk_iald wm_261 wd_261_168 sv_ty_lt T.1 tA_101 tT_101 (by decide) ⟨by omega, by omega⟩ (fun q95 q96 => ?_)
        refine wk_ireturn wm_261 wd_261_169 rfl ?_
        exact g _ _ T hJ P0 (by omega)
      · have c94 : ¬ (((wk_R h 165 al) : Int) < 100) := c94
        refine wk_iconst wm_261 wd_261_159 (by decide) ?_
        refine wk_goto 169 wm_261 wd_261_160 (by decide) ?_
        refine wk_ireturn wm_261 wd_261_169 rfl ?_
        exact g _ _ T hJ P0 (by omega)
    · have c91 : ¬ ((n : Int) > al) := c91
      exfalso; omega
  | succ m ih =>
    intro lv h n T hJ l0 l1 l2 P0 hn hm
    obtain ⟨k97, f98, y99⟩ := wk_ref (j := 76) T.1 t0 tT_12 rfl
    rw [tU_101 y99 tA_101] at f98
    obtain ⟨k100, f101, y102⟩ := wk_ref (j := 77) T.1 t0 tT_12 rfl
    rw [tU_102 y102 tA_102] at f101
    obtain ⟨k103, f104, y105⟩ := wk_ref (j := 78) T.1 t0 tT_12 rfl
    rw [tU_103 y105 tA_103] at f104
    refine wk_iload_n wm_261 wd_261_20 l2 ?_
    refine wk_iload_n wm_261 wd_261_21 l1 ?_
    refine wk_icmp 148 wm_261 wd_261_22 (by decide) (by unfold sv_I; omega) (by unfold sv_I; omega) (fun c106 => ?_) (fun c106 => ?_)
    · have c106 : (n : Int) > al := c106
      have bn := P0.2.1 al (by omega) (by omega)
      have en : n = al + 1 := by omega
      rw [en] at P0
      refine wk_aload_n wm_261 wd_261_148 l0 ?_
      refine wk_getf wm_261 wd_261_149 (by decide +kernel) T.1 t0 tT_12 f98 ?_
      refine wk_iload_n wm_261 wd_261_152 l1 ?_
      refine wk_iald wm_261 wd_261_153 sv_ty_lt T.1 tA_101 tT_101 (by decide) ⟨by omega, by omega⟩ (fun q107 q108 => ?_)
      refine wk_bipush wm_261 wd_261_154 (by decide) ?_
      refine wk_icmp 163 wm_261 wd_261_156 (by decide) (by unfold sv_I; omega) (by unfold sv_I; omega) (fun c109 => ?_) (fun c109 => ?_)
      · have c109 : ((wk_R h 165 al) : Int) < 100 := c109
        refine wk_aload_n wm_261 wd_261_163 l0 ?_
        refine wk_getf wm_261 wd_261_164 (by decide +kernel) T.1 t0 tT_12 f98 ?_
        refine wk_iload_n wm_261 wd_261_167 l1 ?_
        refine wk_iald wm_261 wd_261_168 sv_ty_lt T.1 tA_101 tT_101 (by decide) ⟨by omega, by omega⟩ (fun q110 q111 => ?_)
        refine wk_ireturn wm_261 wd_261_169 rfl ?_
        exact g _ _ T hJ P0 (by omega)
      · have c109 : ¬ (((wk_R h 165 al) : Int) < 100) := c109
        refine wk_iconst wm_261 wd_261_159 (by decide) ?_
        refine wk_goto 169 wm_261 wd_261_160 (by decide) ?_
        refine wk_ireturn wm_261 wd_261_169 rfl ?_
        exact g _ _ T hJ P0 (by omega)
    · have c106 : ¬ ((n : Int) > al) := c106
      refine wk_aload_n wm_261 wd_261_25 l0 ?_
      refine wk_getf wm_261 wd_261_26 (by decide +kernel) T.1 t0 tT_12 f104 ?_
      refine wk_iload_n wm_261 wd_261_29 l2 ?_
      refine wk_aload_n wm_261 wd_261_30 l0 ?_
      refine wk_iload_n wm_261 wd_261_31 l2 ?_
      refine wk_call (Or.inr ⟨rfl, rfl⟩) wm_261 wd_261_32 (by decide +kernel) wm_259 (by decide +kernel) rfl rfl (wk_rcv T.1 t0 tT_12) ?_
      refine wm_make0 (mods := wm_M0) (h0 := h) (by decide) (by decide) (by decide) (by decide) (by decide) (by decide) t0 ⟨by omega, by omega⟩ hc h6 ⟨T.1, sv_fr.rf h⟩ hJ rfl rfl (fun h5 x nn T5 j5 F5 n5 x1 x2 x3 => ?_)
      have T6 : sv_Tk sv_ty sv_tt mods h0 h5 := ⟨T5.1, T.2.tr (T5.2.wd mm)⟩
      have b1 : ∀ i, wk_R h5 165 i = wk_R h 165 i := fun i => wk_fr_R T.1 T5.2 tA_101 tT_101 rfl (by decide) i
      have b2 : ∀ i, wk_R h5 166 i = wk_R h 166 i := fun i => wk_fr_R T.1 T5.2 tA_102 tT_102 rfl (by decide) i
      have b3 : ∀ i, wk_R h5 167 i = wk_R h 167 i := fun i => wk_fr_R T.1 T5.2 tA_103 tT_103 rfl (by decide) i
      show sv_G Q 261 35 lv [wk_i x, wk_i n, wk_r 167] h5
      obtain ⟨k112, f113, y114⟩ := wk_ref (j := 76) T6.1 t0 tT_12 rfl
      rw [tU_101 y114 tA_101] at f113
      obtain ⟨k115, f116, y117⟩ := wk_ref (j := 77) T6.1 t0 tT_12 rfl
      rw [tU_102 y117 tA_102] at f116
      obtain ⟨k118, f119, y120⟩ := wk_ref (j := 78) T6.1 t0 tT_12 rfl
      rw [tU_103 y120 tA_103] at f119
      refine wk_bast wm_261 wd_261_35 sv_ty_lt T6 m3 tA_103 tT_103 (by decide) ⟨by omega, by omega⟩ ⟨by omega, by omega⟩ (by omega) (Or.inl rfl) (fun h121 T122 u123 g124 => ?_)
      have f125 := (u123.2 _ _).trans f113
      have f126 := (u123.2 _ _).trans f116
      have f127 := (u123.2 _ _).trans f119
      refine wk_aload_n wm_261 wd_261_36 l0 ?_
      refine wk_getf wm_261 wd_261_37 (by decide +kernel) T122.1 t0 tT_12 f125 ?_
      refine wk_iload_n wm_261 wd_261_40 l2 ?_
      refine wk_bipush wm_261 wd_261_41 (by decide) ?_
      refine wk_iast wm_261 wd_261_43 sv_ty_lt T122 m1 tA_101 tT_101 (by decide) ⟨by omega, by omega⟩ ⟨by omega, by omega⟩ (by unfold sv_I; omega) (Or.inl rfl) (fun h128 T129 u130 g131 => ?_)
      have f132 := (u130.2 _ _).trans f125
      have f133 := (u130.2 _ _).trans f126
      have f134 := (u130.2 _ _).trans f127
      have j9 : wm_J h128 = J := (wm_J_up u130 (wm_a_ne tA_101 (by decide))).trans ((wm_J_up u123 (wm_a_ne tA_103 (by decide))).trans j5)
      have ep : ∀ i, 0 ≤ i → i ≠ n → wk_R h128 165 i = wk_R h 165 i := fun i a b => by rw [wk_up_i u130 a b, wk_up_o u123 (by decide) a, b1]
      have epn : wk_R h128 165 n = 100 := wk_up_s u130 (by omega)
      have ef : ∀ i, 0 ≤ i → wk_R h128 166 i = wk_R h 166 i := fun i a => by rw [wk_up_o u130 (by decide) a, wk_up_o u123 (by decide) a, b2]
      have ei : ∀ i, 0 ≤ i → i ≠ n → wk_R h128 167 i = wk_R h 167 i := fun i a b => by rw [wk_up_o u130 (by decide) a, wk_up_i u123 a b, b3]
      have ein : wk_R h128 167 n = x := by rw [wk_up_o u130 (by decide) (by omega)]; exact wk_up_s u123 (by omega)
      have q0 : wm_po J h128 n := wm_po_eq (by omega) P0 (fun i a b => ep i a (by omega)) (fun i a b => ef i a) (fun i a b => ei i a (by omega))
      refine wk_iload_n wm_261 wd_261_44 l2 ?_
      refine wk_iload_n wm_261 wd_261_45 l2 ?_
      refine wk_ineg wm_261 wd_261_46 ?_
      refine wk_iand wm_261 wd_261_47 ?_
      refine wk_istore_n wm_261 wd_261_48 (by decide +kernel) (fun lv135 s136 => ?_)
      have l137 := s136.2 0 _ l0 (by decide) (Or.inl rfl)
      have l138 := s136.2 1 _ l1 (by decide) (Or.inl rfl)
      have l139 := s136.2 2 _ l2 (by decide) (Or.inl rfl)
      have l140 := s136.1
      refine wk_iload_n wm_261 wd_261_49 l140 ?_
      refine wk_istore wm_261 wd_261_50 (by decide +kernel) (fun lv141 s142 => ?_)
      have l143 := s142.2 0 _ l137 (by decide) (Or.inl rfl)
      have l144 := s142.2 1 _ l138 (by decide) (Or.inl rfl)
      have l145 := s142.2 2 _ l139 (by decide) (Or.inl rfl)
      have l146 := s142.2 3 _ l140 (by decide) (Or.inl rfl)
      have l147 := s142.1
      have al1 := wm_and_le (p := -n) (j := n) ⟨by omega, by omega⟩
      refine wm_52 mm m1 m2 m3 t0 hc h6 ha (n := n) (le := sv_g (sv_u n &&& sv_u (-n))) ⟨by omega, by omega⟩ al1 (fun lv2 h2 T2 j2 a0 a1 a2 q2 => ?_) 256 lv141 h128 _ T129 j9 l143 l144 l145 l146 l147 q0 (by rw [epn]; omega) (fun z => absurd z (by rw [epn]; omega)) (fun z => x2 (by rw [← ein]; exact z)) ⟨al1.1, by omega⟩ (by omega)
      refine wk_iinc wm_261 wd_261_142 (by decide +kernel) (by decide) a2 (fun lv148 s149 => ?_)
      have l150 := s149.2 0 _ a0 (by decide) (Or.inl rfl)
      have l151 := s149.2 1 _ a1 (by decide) (Or.inl rfl)
      have l152 := s149.1
      refine wk_goto 20 wm_261 wd_261_145 (by decide) ?_
      exact ih lv148 h2 (n + 1) T2 j2 l150 l151 l152 q2 (by omega) (by omega)
theorem wm_pw {c : Int} (hc : 0 ≤ c ∧ c ≤ 8) : 1 ≤ ((2 ^ c.toNat : Nat) : Int) ∧ ((2 ^ c.toNat : Nat) : Int) ≤ 256 := by
  have h1 : 1 ≤ 2 ^ c.toNat := Nat.one_le_two_pow
  have h2 : 2 ^ c.toNat ≤ 2 ^ 8 := Nat.pow_le_pow_right (by decide) (by omega)
  have h3 : (2 : Nat) ^ 8 = 256 := rfl
  omega
theorem wm_plan {mods : List (Nat × Nat)} {h0 : ae_H} {Q : ae_R → Prop} {k0 : Nat} {al c : Int} {J : Nat → Int → Int} (mm : ∀ q ∈ wm_M0, q ∈ mods) (m1 : (101, 0) ∈ mods) (m2 : (102, 0) ∈ mods) (m3 : (103, 0) ∈ mods) (t0 : sv_ty k0 = some 12) (hc : J 1 0 = c ∧ 0 ≤ c ∧ c ≤ 8) (h6 : ∀ k, 0 ≤ k → k < c → 0 ≤ J 2 k → J 7 (J 2 k) ≤ 20 ∧ 1 ≤ J 6 (J 2 k)) (ha : al = ((2 ^ c.toNat : Nat) : Int) - 1 ∧ 0 ≤ al ∧ al ≤ 255) {h : ae_H} {lv : ae_L} (T : sv_Tk sv_ty sv_tt mods h0 h) (hJ : wm_J h = J) (l0 : ae_lk lv 0 = some (wk_r k0)) (g : ∀ h2 x, sv_Tk sv_ty sv_tt mods h0 h2 → wm_J h2 = J → wm_po J h2 (al + 1) → (x = -1 ∨ (0 ≤ x ∧ x ≤ 99 ∧ wk_R h2 165 al = x)) → Q (some (wk_i x), h2)) : sv_G Q 261 0 lv [] h := by
  have pw := wm_pw hc.2
  obtain ⟨k153, f154, y155⟩ := wk_ref (j := 66) T.1 t0 tT_12 rfl
  rw [tU_92 y155 tA_92] at f154
  obtain ⟨k156, f157, y158⟩ := wk_ref (j := 76) T.1 t0 tT_12 rfl
  rw [tU_101 y158 tA_101] at f157
  refine wk_iconst wm_261 wd_261_0 (by decide) ?_
  refine wk_aload_n wm_261 wd_261_1 l0 ?_
  refine wk_getf wm_261 wd_261_2 (by decide +kernel) T.1 t0 tT_12 f154 ?_
  refine wk_iconst wm_261 wd_261_5 (by decide) ?_
  refine wk_iald wm_261 wd_261_6 sv_ty_lt T.1 tA_92 tT_92 (by decide) ⟨by omega, by omega⟩ (fun q159 q160 => ?_)
  have ec : wk_R h 155 0 = J 1 0 := by rw [← hJ, wm_J_at (by omega)]; rfl
  rw [ec, hc.1]
  refine wk_shl1 wm_261 wd_261_7 ⟨by omega, by omega⟩ ?_
  refine wk_iconst wm_261 wd_261_8 (by decide) ?_
  refine wk_isub wm_261 wd_261_9 ?_
  refine wk_istore_n wm_261 wd_261_10 (by decide +kernel) (fun lv161 s162 => ?_)
  have l163 := s162.2 0 _ l0 (by decide) (Or.inl rfl)
  have l164 := s162.1
  refine wk_aload_n wm_261 wd_261_11 l163 ?_
  refine wk_getf wm_261 wd_261_12 (by decide +kernel) T.1 t0 tT_12 f157 ?_
  refine wk_iconst wm_261 wd_261_15 (by decide) ?_
  refine wk_iconst wm_261 wd_261_16 (by decide) ?_
  refine wk_iast wm_261 wd_261_17 sv_ty_lt T m1 tA_101 tT_101 (by decide) ⟨by omega, by omega⟩ ⟨by omega, by omega⟩ (by unfold sv_I; omega) (Or.inl rfl) (fun h165 T166 u167 g168 => ?_)
  have f169 := (u167.2 _ _).trans f154
  have f170 := (u167.2 _ _).trans f157
  refine wk_iconst wm_261 wd_261_18 (by decide) ?_
  refine wk_istore_n wm_261 wd_261_19 (by decide +kernel) (fun lv171 s172 => ?_)
  have l173 := s172.2 0 _ l163 (by decide) (Or.inl rfl)
  have l174 := s172.2 1 _ l164 (by decide) (Or.inl rfl)
  have l175 := s172.1
  rw [← ha.1] at l174
  refine wq_20 mm m1 m2 m3 t0 hc h6 ha g 256 lv171 h165 1 T166 ((wm_J_up u167 (wm_a_ne tA_101 (by decide))).trans hJ) l173 l174 l175 ⟨wk_up_s u167 (by omega), fun j a b => ?_, fun j a b => by omega, fun j a b => by omega⟩ (by omega) (by omega)
  rw [show j = 0 by omega, wk_up_s u167 (by omega)]; omega
theorem wm_32 {mods : List (Nat × Nat)} {h0 : ae_H} {Q : ae_R → Prop} {k0 : Nat} {al c : Int} {J : Nat → Int → Int} (mm : ∀ q ∈ wm_M0, q ∈ mods) (m1 : (101, 0) ∈ mods) (m2 : (102, 0) ∈ mods) (m3 : (103, 0) ∈ mods) (t0 : sv_ty k0 = some 12) (hc : J 1 0 = c ∧ 0 ≤ c ∧ c ≤ 8) (h6 : ∀ k, 0 ≤ k → k < c → 0 ≤ J 2 k → J 7 (J 2 k) ≤ 20 ∧ 1 ≤ J 6 (J 2 k)) (ha : al = ((2 ^ c.toNat : Nat) : Int) - 1 ∧ 0 ≤ al ∧ al ≤ 255) {r x : Int} (hx : 0 ≤ x ∧ x ≤ 99 ∧ r < x) {h : ae_H} (T : sv_Tk sv_ty sv_tt mods h0 h) (hJ : wm_J h = J) (P0 : wm_po J h (al + 1)) (g : ∀ h2 x, sv_Tk sv_ty sv_tt mods h0 h2 → wm_J h2 = J → (x = -1 ∨ (0 ≤ x ∧ x ≤ 255 ∧ wm_fit J x)) → Q (some (wk_i x), h2)) :
    ∀ (m : Nat) (lv : ae_L) (l k : Int), (ae_lk lv 0 = some (wk_r k0)) → (ae_lk lv 1 = some (wk_i r)) → (ae_lk lv 2 = some (wk_i x)) → (ae_lk lv 3 = some (wk_i l)) → (ae_lk lv 4 = some (wk_i k)) → (0 ≤ l ∧ l ≤ al) → (wk_R h 165 l = x - k) → (0 ≤ k ∧ k ≤ r) → (r - k ≤ m) → sv_G Q 263 32 lv [] h := by
  intro m
  induction m with
  | zero =>
    intro lv l k l0 l1 l2 l3 l4 hl hp hk hm
    obtain ⟨k176, f177, y178⟩ := wk_ref (j := 77) T.1 t0 tT_12 rfl
    rw [tU_102 y178 tA_102] at f177
    have lp : 1 ≤ l := by
      by_cases z : 1 ≤ l
      · exact z
      · have e0 : l = 0 := by omega
        rw [e0, P0.1] at hp; omega
    have pp := P0.2.2.1 l lp (by omega) (by omega)
    have sl := wm_sb_le (p := wk_R h 166 l) (j := l) ⟨by omega, by omega⟩
    refine wk_iload wm_263 wd_263_32 l4 ?_
    refine wk_iload_n wm_263 wd_263_34 l1 ?_
    refine wk_icmp 55 wm_263 wd_263_35 (by decide) (by unfold sv_I; omega) (by unfold sv_I; omega) (fun c179 => ?_) (fun c179 => ?_)
    · have c179 : (k : Int) ≥ r := c179
      refine wk_aload_n wm_263 wd_263_55 l0 ?_
      refine wk_getf wm_263 wd_263_56 (by decide +kernel) T.1 t0 tT_12 f177 ?_
      refine wk_iload_n wm_263 wd_263_59 l3 ?_
      refine wk_iald wm_263 wd_263_60 sv_ty_lt T.1 tA_102 tT_102 (by decide) ⟨by omega, by omega⟩ (fun q180 q181 => ?_)
      refine wk_ireturn wm_263 wd_263_61 rfl ?_
      exact g _ _ T hJ (Or.inr ⟨by omega, by omega, pp.1⟩)
    · have c179 : ¬ ((k : Int) ≥ r) := c179
      exfalso; omega
  | succ m ih =>
    intro lv l k l0 l1 l2 l3 l4 hl hp hk hm
    obtain ⟨k182, f183, y184⟩ := wk_ref (j := 77) T.1 t0 tT_12 rfl
    rw [tU_102 y184 tA_102] at f183
    have lp : 1 ≤ l := by
      by_cases z : 1 ≤ l
      · exact z
      · have e0 : l = 0 := by omega
        rw [e0, P0.1] at hp; omega
    have pp := P0.2.2.1 l lp (by omega) (by omega)
    have sl := wm_sb_le (p := wk_R h 166 l) (j := l) ⟨by omega, by omega⟩
    refine wk_iload wm_263 wd_263_32 l4 ?_
    refine wk_iload_n wm_263 wd_263_34 l1 ?_
    refine wk_icmp 55 wm_263 wd_263_35 (by decide) (by unfold sv_I; omega) (by unfold sv_I; omega) (fun c185 => ?_) (fun c185 => ?_)
    · have c185 : (k : Int) ≥ r := c185
      refine wk_aload_n wm_263 wd_263_55 l0 ?_
      refine wk_getf wm_263 wd_263_56 (by decide +kernel) T.1 t0 tT_12 f183 ?_
      refine wk_iload_n wm_263 wd_263_59 l3 ?_
      refine wk_iald wm_263 wd_263_60 sv_ty_lt T.1 tA_102 tT_102 (by decide) ⟨by omega, by omega⟩ (fun q186 q187 => ?_)
      refine wk_ireturn wm_263 wd_263_61 rfl ?_
      exact g _ _ T hJ (Or.inr ⟨by omega, by omega, pp.1⟩)
    · have c185 : ¬ ((k : Int) ≥ r) := c185
      refine wk_iload_n wm_263 wd_263_38 l3 ?_
      refine wk_aload_n wm_263 wd_263_39 l0 ?_
      refine wk_getf wm_263 wd_263_40 (by decide +kernel) T.1 t0 tT_12 f183 ?_
      refine wk_iload_n wm_263 wd_263_43 l3 ?_
      refine wk_iald wm_263 wd_263_44 sv_ty_lt T.1 tA_102 tT_102 (by decide) ⟨by omega, by omega⟩ (fun q188 q189 => ?_)
      refine wk_iconst wm_263 wd_263_45 (by decide) ?_
      refine wk_inot wm_263 wd_263_46 ?_
      refine wk_iand wm_263 wd_263_47 ?_
      refine wk_istore_n wm_263 wd_263_48 (by decide +kernel) (fun lv190 s191 => ?_)
      have l192 := s191.2 0 _ l0 (by decide) (Or.inl rfl)
      have l193 := s191.2 1 _ l1 (by decide) (Or.inl rfl)
      have l194 := s191.2 2 _ l2 (by decide) (Or.inl rfl)
      have l195 := s191.2 4 _ l4 (by decide) (Or.inl rfl)
      have l196 := s191.1
      refine wk_iinc wm_263 wd_263_49 (by decide +kernel) (by decide) l195 (fun lv197 s198 => ?_)
      have l199 := s198.2 0 _ l192 (by decide) (Or.inl rfl)
      have l200 := s198.2 1 _ l193 (by decide) (Or.inl rfl)
      have l201 := s198.2 2 _ l194 (by decide) (Or.inl rfl)
      have l202 := s198.2 3 _ l196 (by decide) (Or.inl rfl)
      have l203 := s198.1
      refine wk_goto 32 wm_263 wd_263_52 (by decide) ?_
      exact ih lv197 (wm_sb l (wk_R h 166 l)) (k + 1) l199 l200 l201 l202 l203 (by omega) (by omega) (by omega) (by omega)
theorem wm_isIn {h : ae_H} {Q : ae_R → Prop} {lv : ae_L} {v a b : Int} (iv : sv_I v) (ia : sv_I a) (ib : sv_I b) (l0 : ae_lk lv 0 = some (wk_i v)) (l1 : ae_lk lv 1 = some (wk_i a)) (l2 : ae_lk lv 2 = some (wk_i b)) (g1 : a ≤ v → v ≤ b → Q (some (wk_i 1), h)) (g0 : ¬ (a ≤ v ∧ v ≤ b) → Q (some (wk_i 0), h)) : sv_G Q 188 0 lv [] h := by
  unfold sv_I at iv ia ib
  refine wk_iload_n wm_188 wd_188_0 l0 ?_
  refine wk_iload_n wm_188 wd_188_1 l1 ?_
  refine wk_icmp 14 wm_188 wd_188_2 (by decide) (by unfold sv_I; omega) (by unfold sv_I; omega) (fun c204 => ?_) (fun c204 => ?_)
  · have c204 : (v : Int) < a := c204
    refine wk_iconst wm_188 wd_188_14 (by decide) ?_
    refine wk_zreturn wm_188 wd_188_15 rfl (by omega) ?_
    exact g0 (by omega)
  · have c204 : ¬ ((v : Int) < a) := c204
    refine wk_iload_n wm_188 wd_188_5 l0 ?_
    refine wk_iload_n wm_188 wd_188_6 l2 ?_
    refine wk_icmp 14 wm_188 wd_188_7 (by decide) (by unfold sv_I; omega) (by unfold sv_I; omega) (fun c205 => ?_) (fun c205 => ?_)
    · have c205 : (v : Int) > b := c205
      refine wk_iconst wm_188 wd_188_14 (by decide) ?_
      refine wk_zreturn wm_188 wd_188_15 rfl (by omega) ?_
      exact g0 (by omega)
    · have c205 : ¬ ((v : Int) > b) := c205
      refine wk_iconst wm_188 wd_188_10 (by decide) ?_
      refine wk_goto 15 wm_188 wd_188_11 (by decide) ?_
      refine wk_zreturn wm_188 wd_188_15 rfl (by omega) ?_
      exact g1 (by omega) (by omega)
theorem wm_part {mods : List (Nat × Nat)} {h0 : ae_H} {Q : ae_R → Prop} {k0 : Nat} {al c : Int} {J : Nat → Int → Int} (mm : ∀ q ∈ wm_M0, q ∈ mods) (m1 : (101, 0) ∈ mods) (m2 : (102, 0) ∈ mods) (m3 : (103, 0) ∈ mods) (t0 : sv_ty k0 = some 12) (hc : J 1 0 = c ∧ 0 ≤ c ∧ c ≤ 8) (h6 : ∀ k, 0 ≤ k → k < c → 0 ≤ J 2 k → J 7 (J 2 k) ≤ 20 ∧ 1 ≤ J 6 (J 2 k)) (ha : al = ((2 ^ c.toNat : Nat) : Int) - 1 ∧ 0 ≤ al ∧ al ≤ 255) {r : Int} (ir : sv_I r) {h : ae_H} {lv : ae_L} (T : sv_Tk sv_ty sv_tt mods h0 h) (hJ : wm_J h = J) (l0 : ae_lk lv 0 = some (wk_r k0)) (l1 : ae_lk lv 1 = some (wk_i r)) (g : ∀ h2 x, sv_Tk sv_ty sv_tt mods h0 h2 → wm_J h2 = J → (x = -1 ∨ (0 ≤ x ∧ x ≤ 255 ∧ wm_fit J x)) → Q (some (wk_i x), h2)) : sv_G Q 263 0 lv [] h := by
  have pw := wm_pw hc.2
  have ir2 := ir
  unfold sv_I at ir2
  refine wk_aload_n wm_263 wd_263_0 l0 ?_
  refine wk_call (Or.inr ⟨rfl, rfl⟩) wm_263 wd_263_1 (by decide +kernel) wm_261 (by decide +kernel) rfl rfl (wk_rcv T.1 t0 tT_12) ?_
  refine wm_plan mm m1 m2 m3 t0 hc h6 ha T hJ rfl (fun h5 x T5 j5 P5 hx => ?_)
  show sv_G Q 263 4 lv [wk_i x] h5
  obtain ⟨k206, f207, y208⟩ := wk_ref (j := 66) T5.1 t0 tT_12 rfl
  rw [tU_92 y208 tA_92] at f207
  refine wk_istore_n wm_263 wd_263_4 (by decide +kernel) (fun lv209 s210 => ?_)
  have l211 := s210.2 0 _ l0 (by decide) (Or.inl rfl)
  have l212 := s210.2 1 _ l1 (by decide) (Or.inl rfl)
  have l213 := s210.1
  refine wk_iload_n wm_263 wd_263_5 l212 ?_
  refine wk_iconst wm_263 wd_263_6 (by decide) ?_
  refine wk_iload_n wm_263 wd_263_7 l213 ?_
  refine wk_iconst wm_263 wd_263_8 (by decide) ?_
  refine wk_isub wm_263 wd_263_9 ?_
  refine wk_call (Or.inl ⟨rfl, rfl⟩) wm_263 wd_263_10 (by decide +kernel) wm_188 (by decide +kernel) rfl rfl rfl ?_
  refine wm_isIn ir (by unfold sv_I; omega) (by unfold sv_I; omega) rfl rfl rfl (fun q1 q2 => ?_) (fun q => ?_)
  · show sv_G Q 263 13 lv209 [wk_i 1] h5
    refine wk_if 18 wm_263 wd_263_13 (by decide) (by unfold sv_I; omega) (fun c214 => ?_) (fun c214 => ?_)
    · have c214 : (1 : Int) ≠ 0 := c214
      refine wk_iconst wm_263 wd_263_18 (by decide) ?_
      refine wk_aload_n wm_263 wd_263_19 l211 ?_
      refine wk_getf wm_263 wd_263_20 (by decide +kernel) T5.1 t0 tT_12 f207 ?_
      refine wk_iconst wm_263 wd_263_23 (by decide) ?_
      refine wk_iald wm_263 wd_263_24 sv_ty_lt T5.1 tA_92 tT_92 (by decide) ⟨by omega, by omega⟩ (fun q215 q216 => ?_)
      have ec : wk_R h5 155 0 = J 1 0 := by rw [← j5, wm_J_at (by omega)]; rfl
      rw [ec, hc.1]
      refine wk_shl1 wm_263 wd_263_25 ⟨by omega, by omega⟩ ?_
      refine wk_iconst wm_263 wd_263_26 (by decide) ?_
      refine wk_isub wm_263 wd_263_27 ?_
      refine wk_istore_n wm_263 wd_263_28 (by decide +kernel) (fun lv217 s218 => ?_)
      have l219 := s218.2 0 _ l211 (by decide) (Or.inl rfl)
      have l220 := s218.2 1 _ l212 (by decide) (Or.inl rfl)
      have l221 := s218.2 2 _ l213 (by decide) (Or.inl rfl)
      have l222 := s218.1
      refine wk_iconst wm_263 wd_263_29 (by decide) ?_
      refine wk_istore wm_263 wd_263_30 (by decide +kernel) (fun lv223 s224 => ?_)
      have l225 := s224.2 0 _ l219 (by decide) (Or.inl rfl)
      have l226 := s224.2 1 _ l220 (by decide) (Or.inl rfl)
      have l227 := s224.2 2 _ l221 (by decide) (Or.inl rfl)
      have l228 := s224.2 3 _ l222 (by decide) (Or.inl rfl)
      have l229 := s224.1
      rw [← ha.1] at l228
      exact wm_32 mm m1 m2 m3 t0 hc h6 ha (r := r) (x := x) ⟨by omega, by omega, by omega⟩ T5 j5 P5 g 99 lv223 al 0 l225 l226 l227 l228 l229 (by omega) (by omega) (by omega) (by omega)
    · have c214 : ¬ ((1 : Int) ≠ 0) := c214
      exfalso; omega
  · show sv_G Q 263 13 lv209 [wk_i 0] h5
    refine wk_if 18 wm_263 wd_263_13 (by decide) (by unfold sv_I; omega) (fun c230 => ?_) (fun c230 => ?_)
    · have c230 : (0 : Int) ≠ 0 := c230
      exfalso; omega
    · have c230 : ¬ ((0 : Int) ≠ 0) := c230
      refine wk_iconst wm_263 wd_263_16 (by decide) ?_
      refine wk_ireturn wm_263 wd_263_17 rfl ?_
      exact g _ _ T5 j5 (Or.inl rfl)
