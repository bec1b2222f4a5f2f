/-! THE REFERENCE MAKES BOARDS: lay, point, addends (wip/p2/hand/g66.py) -/
theorem tA_91 : sv_ty 154 = some 91 := rfl
theorem tU_91 {a b : Nat} (ha : sv_ty a = some 91) (hb : sv_ty b = some 91) : a = b := wk_uq (by decide +kernel) ha hb
theorem tA_92 : sv_ty 155 = some 92 := rfl
theorem tU_92 {a b : Nat} (ha : sv_ty a = some 92) (hb : sv_ty b = some 92) : a = b := wk_uq (by decide +kernel) ha hb
theorem tA_93 : sv_ty 156 = some 93 := rfl
theorem tU_93 {a b : Nat} (ha : sv_ty a = some 93) (hb : sv_ty b = some 93) : a = b := wk_uq (by decide +kernel) ha hb
theorem tA_94 : sv_ty 157 = some 94 := rfl
theorem tU_94 {a b : Nat} (ha : sv_ty a = some 94) (hb : sv_ty b = some 94) : a = b := wk_uq (by decide +kernel) ha hb
theorem tA_95 : sv_ty 158 = some 95 := rfl
theorem tU_95 {a b : Nat} (ha : sv_ty a = some 95) (hb : sv_ty b = some 95) : a = b := wk_uq (by decide +kernel) ha hb
theorem tA_96 : sv_ty 159 = some 96 := rfl
theorem tU_96 {a b : Nat} (ha : sv_ty a = some 96) (hb : sv_ty b = some 96) : a = b := wk_uq (by decide +kernel) ha hb
theorem tA_89 : sv_ty 152 = some 89 := rfl
theorem tU_89 {a b : Nat} (ha : sv_ty a = some 89) (hb : sv_ty b = some 89) : a = b := wk_uq (by decide +kernel) ha hb
theorem tA_90 : sv_ty 153 = some 90 := rfl
theorem tU_90 {a b : Nat} (ha : sv_ty a = some 90) (hb : sv_ty b = some 90) : a = b := wk_uq (by decide +kernel) ha hb
theorem tA_99 : sv_ty 163 = some 99 := rfl
theorem tU_99 {a b : Nat} (ha : sv_ty a = some 99) (hb : sv_ty b = some 99) : a = b := wk_uq (by decide +kernel) ha hb
theorem tA_100 : sv_ty 164 = some 100 := rfl
theorem tU_100 {a b : Nat} (ha : sv_ty a = some 100) (hb : sv_ty b = some 100) : a = b := wk_uq (by decide +kernel) ha hb
/-- the JOB's rows: 0 breakAt, 1 wantCount, 2 wantField, 3 wantDigits, 4 wantOrder, 5 wantOver, 6 fieldFrom, 7 fieldTo -/
def wm_a (i : Nat) : Nat := match i with
  | 0 => 154
  | 1 => 155
  | 2 => 156
  | 3 => 157
  | 4 => 158
  | 5 => 159
  | 6 => 152
  | 7 => 153
  | _ => 154
noncomputable def wm_J (h : ae_H) (i : Nat) (x : Int) : Int := if 0 ≤ x then wk_R h (wm_a i) x else 0
theorem wm_J_at {h : ae_H} {i : Nat} {x : Int} (hx : 0 ≤ x) : wm_J h i x = wk_R h (wm_a i) x := if_pos hx
theorem wm_J_up {h h' : ae_H} {k : Nat} {i v : Int} (u : wk_up h h' k i v) (hk : ∀ j, wm_a j ≠ k) : wm_J h' = wm_J h := by
  funext j x
  unfold wm_J
  split
  · next hx => exact wk_up_o u (hk j) hx
  · rfl
theorem wm_J_uf {h h' : ae_H} {k j : Nat} {v : ae_V} (u : wk_uf h h' k j v) : wm_J h' = wm_J h := by
  funext i x
  unfold wm_J
  rw [u.1]
theorem wm_a_t (j : Nat) : ∃ u, sv_ty (wm_a j) = some u ∧ (u, 0) ∈ sv_od 3 := by
  unfold wm_a
  split
  · exact ⟨91, rfl, by decide⟩
  · exact ⟨92, rfl, by decide⟩
  · exact ⟨93, rfl, by decide⟩
  · exact ⟨94, rfl, by decide⟩
  · exact ⟨95, rfl, by decide⟩
  · exact ⟨96, rfl, by decide⟩
  · exact ⟨89, rfl, by decide⟩
  · exact ⟨90, rfl, by decide⟩
  · exact ⟨91, rfl, by decide⟩
theorem wm_a_ne {k t : Nat} (hk : sv_ty k = some t) (ht : (sv_od 3).all (fun u => !(u.1 == t)) = true) : ∀ j, wm_a j ≠ k := fun j e => by
  obtain ⟨u, hu, hm⟩ := wm_a_t j
  rw [e, hk] at hu
  have := List.all_eq_true.mp ht _ hm
  rw [Option.some.inj hu] at this
  simp at this
/-- the first below m with a property, or m -/
def wm_fd (p : Nat → Bool) : Nat → Nat
  | 0 => 0
  | m + 1 => if wm_fd p m < m then wm_fd p m else if p m then m else m + 1
theorem wm_fd_eq {p : Nat → Bool} : ∀ {m r : Nat}, r ≤ m → (r < m → p r = true) → (∀ j, j < r → p j = false) → wm_fd p m = r
  | 0, r, h1, _, _ => by show 0 = r; omega
  | m + 1, r, h1, h2, h3 => by
    show (if wm_fd p m < m then wm_fd p m else if p m then m else m + 1) = r
    by_cases e : r < m
    · rw [wm_fd_eq (p := p) (m := m) (r := r) (by omega) (fun _ => h2 (by omega)) h3, if_pos e]
    · have e0 : wm_fd p m = m := wm_fd_eq (p := p) (m := m) (r := m) (Nat.le_refl m) (fun z => absurd z (Nat.lt_irrefl m)) (fun j hj => h3 j (by omega))
      rw [e0, if_neg (Nat.lt_irrefl m)]
      by_cases e2 : r = m
      · rw [e2] at h2
        rw [if_pos (h2 (by omega)), e2]
      · have : p m = false := h3 m (by omega)
        rw [this]
        show m + 1 = r
        omega
/-- WIRES made, relays taken, what picks each, its points taken -/
abbrev wm_S : Type := Int × Int × (Int → Int) × (Int → Int)
def wm_up (f : Int → Int) (r v : Int) : Int → Int := fun j => if j = r then v else f j
def wm_p2 (why r : Int) (s : wm_S) : wm_S := if r = 4 then s else if r = s.2.1 then (s.1 + 1, s.2.1 + 1, wm_up s.2.2.1 r why, wm_up s.2.2.2 r 1) else (s.1, s.2.1, s.2.2.1, wm_up s.2.2.2 r (s.2.2.2 r + 1))
def wm_fr (why : Int) (s : wm_S) : Int := ((wm_fd (fun j => decide (s.2.2.1 (j : Int) = why ∧ s.2.2.2 (j : Int) ≠ 3)) s.2.1.toNat : Nat) : Int)
def wm_pt (why : Int) (s : wm_S) : wm_S := wm_p2 why (wm_fr why s) s
def wm_n (d : Int) (s : wm_S) : wm_S := (s.1 + d, s.2)
/-- the heap has the state -/
def wm_R (h : ae_H) (k0 : Nat) (s : wm_S) : Prop := wk_F h k0 79 = some (wk_i s.1) ∧ wk_F h k0 80 = some (wk_i s.2.1) ∧ (0 ≤ s.2.1 ∧ s.2.1 ≤ 4) ∧ ∀ j, 0 ≤ j → j < s.2.1 → wk_R h 163 j = s.2.2.1 j ∧ wk_R h 164 j = s.2.2.2 j
theorem wm_R_up {h h' : ae_H} {k0 k : Nat} {s : wm_S} {i v : Int} (hR : wm_R h k0 s) (u : wk_up h h' k i v) (h1 : 163 ≠ k) (h2 : 164 ≠ k) : wm_R h' k0 s := by
  obtain ⟨a, b, c, d⟩ := hR
  exact ⟨(u.2 _ _).trans a, (u.2 _ _).trans b, c, fun j x y => ⟨(wk_up_o u h1 x).trans (d j x y).1, (wk_up_o u h2 x).trans (d j x y).2⟩⟩

theorem wm_lay {mods : List (Nat × Nat)} {h0 h : ae_H} {Q : ae_R → Prop} {lv : ae_L} {k0 : Nat} {a b : Int} {s : wm_S} {J : Nat → Int → Int} (m1 : (98, 0) ∈ mods) (m2 : (12, 79) ∈ mods) (t0 : sv_ty k0 = some 12) (T : sv_Tk sv_ty sv_tt mods h0 h) (hJ : wm_J h = J) (hR : wm_R h k0 s) (hs : 0 ≤ s.1 ∧ s.1 ≤ 199) (ha : 0 ≤ a ∧ a ≤ 216) (hb : 0 ≤ b ∧ b ≤ 216) (l0 : ae_lk lv 0 = some (wk_r k0)) (l1 : ae_lk lv 1 = some (wk_i a)) (l2 : ae_lk lv 2 = some (wk_i b))
    (g : ∀ h2, sv_Tk sv_ty sv_tt mods h0 h2 → wm_J h2 = J → wm_R h2 k0 (wm_n 1 s) → Q (none, h2)) : sv_G Q 257 0 lv [] h := by
  have F1 := hR.1
  obtain ⟨k1, f2, y3⟩ := wk_ref (j := 72) T.1 t0 tT_12 rfl
  obtain ⟨k4, f5, y6⟩ := wk_ref (j := 73) T.1 t0 tT_12 rfl
  refine wk_aload_n wm_257 wd_257_0 l0 ?_
  refine wk_getf wm_257 wd_257_1 (by decide +kernel) T.1 t0 tT_12 f2 ?_
  refine wk_aload_n wm_257 wd_257_4 l0 ?_
  refine wk_getf wm_257 wd_257_5 (by decide +kernel) T.1 t0 tT_12 F1 ?_
  refine wk_iload_n wm_257 wd_257_8 l1 ?_
  refine wk_iast wm_257 wd_257_9 sv_ty_lt T m1 y3 tT_98 (by decide) ⟨by omega, by omega⟩ ⟨by omega, by omega⟩ (by unfold sv_I; omega) (Or.inl rfl) (fun h7 T8 u9 g10 => ?_)
  have f11 := (u9.2 _ _).trans F1
  have f12 := (u9.2 _ _).trans f2
  have f13 := (u9.2 _ _).trans f5
  have R1 := wm_R_up hR u9 (wk_ne tA_99 y3 (by decide)) (wk_ne tA_100 y3 (by decide))
  have J1 := (wm_J_up u9 (wm_a_ne y3 (by decide))).trans hJ
  refine wk_aload_n wm_257 wd_257_10 l0 ?_
  refine wk_getf wm_257 wd_257_11 (by decide +kernel) T8.1 t0 tT_12 f13 ?_
  refine wk_aload_n wm_257 wd_257_14 l0 ?_
  refine wk_getf wm_257 wd_257_15 (by decide +kernel) T8.1 t0 tT_12 f11 ?_
  refine wk_iload_n wm_257 wd_257_18 l2 ?_
  refine wk_iast wm_257 wd_257_19 sv_ty_lt T8 m1 y6 tT_98 (by decide) ⟨by omega, by omega⟩ ⟨by omega, by omega⟩ (by unfold sv_I; omega) (Or.inl rfl) (fun h14 T15 u16 g17 => ?_)
  have f18 := (u16.2 _ _).trans f11
  have f19 := (u16.2 _ _).trans f12
  have f20 := (u16.2 _ _).trans f13
  have R2 := wm_R_up R1 u16 (wk_ne tA_99 y6 (by decide)) (wk_ne tA_100 y6 (by decide))
  have J2 := (wm_J_up u16 (wm_a_ne y6 (by decide))).trans J1
  refine wk_aload_n wm_257 wd_257_20 l0 ?_
  refine wk_dup wm_257 wd_257_21 rfl ?_
  refine wk_getf wm_257 wd_257_22 (by decide +kernel) T15.1 t0 tT_12 f18 ?_
  refine wk_iconst wm_257 wd_257_25 (by decide) ?_
  refine wk_iadd wm_257 wd_257_26 ?_
  refine wk_putf (fk := 0) (ft := (0, 0, 200, 0)) wm_257 wd_257_27 (by decide +kernel) sv_ty_lt T15 m2 t0 tT_12 rfl (by decide +kernel) rfl rfl ⟨(s.1 + 1), rfl, by unfold sv_I; omega, by show (0 : Int) ≤ (s.1 + 1); omega, by show (s.1 + 1) ≤ (200 : Int); omega⟩ (fun h21 T22 u23 g24 => ?_)
  have f25 := (u23.2 _ _).trans (if_pos ⟨rfl, rfl⟩)
  have f26 := ((u23.2 _ _).trans (if_neg (fun z => absurd z.2 (by decide)))).trans f19
  have f27 := ((u23.2 _ _).trans (if_neg (fun z => absurd z.2 (by decide)))).trans f20
  refine wk_return wm_257 wd_257_30 rfl ?_
  refine g _ T22 ((wm_J_uf u23).trans J2) ⟨f25, ?_, hR.2.2.1, fun j x y => ?_⟩
  · exact ((u23.2 _ _).trans (if_neg (fun z => absurd z.2 (by decide)))).trans R2.2.1
  · rw [u23.1, u23.1]; exact R2.2.2.2 j x y
theorem wm_36 {mods : List (Nat × Nat)} {h0 h : ae_H} {Q : ae_R → Prop} {k0 : Nat} {why : Int} {s : wm_S} {J : Nat → Int → Int} (m1 : (98, 0) ∈ mods) (m2 : (12, 79) ∈ mods) (m3 : (99, 0) ∈ mods) (m4 : (100, 0) ∈ mods) (m5 : (12, 80) ∈ mods) (m6 : (12, 81) ∈ mods) (t0 : sv_ty k0 = some 12) (T : sv_Tk sv_ty sv_tt mods h0 h) (hJ : wm_J h = J) (hR : wm_R h k0 s) (hs : 0 ≤ s.1 ∧ s.1 ≤ 198) (hw : 1 ≤ why ∧ why ≤ 23) (g : ∀ h2 x, sv_Tk sv_ty sv_tt mods h0 h2 → wm_J h2 = J → wm_R h2 k0 (wm_pt why s) → (0 ≤ x ∧ x ≤ 11) → Q (some (wk_i x), h2)) {lv : ae_L} {r : Int} (l0 : ae_lk lv 0 = some (wk_r k0)) (l1 : ae_lk lv 1 = some (wk_i why)) (l2 : ae_lk lv 2 = some (wk_i r)) (hr : 0 ≤ r ∧ r ≤ s.2.1) (h1 : r < s.2.1 → s.2.2.1 r = why ∧ s.2.2.2 r ≠ 3) (h2 : ∀ j, 0 ≤ j → j < r → ¬ (s.2.2.1 j = why ∧ s.2.2.2 j ≠ 3)) : sv_G Q 258 36 lv [] h := by
  have hm := hR.2.2.1
  have er : wm_fr why s = r := by
    unfold wm_fr
    rw [wm_fd_eq (r := r.toNat) (by omega) (fun z => ?_) (fun j hj => ?_)]
    · omega
    · rw [Int.toNat_of_nonneg hr.1]; exact decide_eq_true (h1 (by omega))
    · exact decide_eq_false (h2 j (by omega) (by omega))
  have ep : wm_pt why s = wm_p2 why r s := by unfold wm_pt; rw [er]
  obtain ⟨k28, f29, y30⟩ := wk_ref (j := 74) T.1 t0 tT_12 rfl
  rw [tU_99 y30 tA_99] at f29
  obtain ⟨k31, f32, y33⟩ := wk_ref (j := 75) T.1 t0 tT_12 rfl
  rw [tU_100 y33 tA_100] at f32
  refine wk_iload_n wm_258 wd_258_36 l2 ?_
  refine wk_iconst wm_258 wd_258_37 (by decide) ?_
  refine wk_icmp 48 wm_258 wd_258_38 (by decide) (by unfold sv_I; omega) (by unfold sv_I; omega) (fun c34 => ?_) (fun c34 => ?_)
  · have c34 : (r : Int) ≠ 4 := c34
    refine wk_iload_n wm_258 wd_258_48 l2 ?_
    refine wk_aload_n wm_258 wd_258_49 l0 ?_
    refine wk_getf wm_258 wd_258_50 (by decide +kernel) T.1 t0 tT_12 hR.2.1 ?_
    refine wk_icmp 113 wm_258 wd_258_53 (by decide) (by unfold sv_I; omega) (by unfold sv_I; omega) (fun c35 => ?_) (fun c35 => ?_)
    · have c35 : (r : Int) ≠ s.2.1 := c35
      have hx := h1 (by omega)
      have hd := hR.2.2.2 r (by omega) (by omega)
      refine wk_aload_n wm_258 wd_258_113 l0 ?_
      refine wk_getf wm_258 wd_258_114 (by decide +kernel) T.1 t0 tT_12 f32 ?_
      refine wk_iload_n wm_258 wd_258_117 l2 ?_
      refine wk_dup2 wm_258 wd_258_118 rfl rfl ?_
      refine wk_iald wm_258 wd_258_119 sv_ty_lt T.1 tA_100 tT_100 (by decide) ⟨by omega, by omega⟩ (fun q36 q37 => ?_)
      refine wk_iconst wm_258 wd_258_120 (by decide) ?_
      refine wk_iadd wm_258 wd_258_121 ?_
      refine wk_iast wm_258 wd_258_122 sv_ty_lt T m4 tA_100 tT_100 (by decide) ⟨by omega, by omega⟩ ⟨by omega, by omega⟩ (by unfold sv_I; omega) (Or.inl rfl) (fun h38 T39 u40 g41 => ?_)
      have f42 := (u40.2 _ _).trans hR.2.1
      have f43 := (u40.2 _ _).trans hR.1
      have f44 := (u40.2 _ _).trans f29
      have f45 := (u40.2 _ _).trans f32
      have j9 := (wm_J_up u40 (wm_a_ne tA_100 (by decide))).trans hJ
      have e9 := wk_up_s u40 (by omega)
      have R9 : wm_R h38 k0 (s.1, s.2.1, s.2.2.1, wm_up s.2.2.2 r (s.2.2.2 r + 1)) := by
        refine ⟨f43, f42, hm, fun j x y => ?_⟩
        have hq := hR.2.2.2 j x y
        refine ⟨(wk_up_o u40 (by decide) x).trans hq.1, ?_⟩
        show _ = (if j = r then s.2.2.2 r + 1 else s.2.2.2 j)
        by_cases e : j = r
        · rw [e, e9, if_pos rfl]; omega
        · rw [wk_up_i u40 x e, if_neg e]; exact hq.2
      refine wk_iconst wm_258 wd_258_123 (by decide) ?_
      refine wk_iload_n wm_258 wd_258_124 l2 ?_
      refine wk_imul wm_258 wd_258_125 ?_
      refine wk_aload_n wm_258 wd_258_126 l0 ?_
      refine wk_getf wm_258 wd_258_127 (by decide +kernel) T39.1 t0 tT_12 f45 ?_
      refine wk_iload_n wm_258 wd_258_130 l2 ?_
      refine wk_iald wm_258 wd_258_131 sv_ty_lt T39.1 tA_100 tT_100 (by decide) ⟨by omega, by omega⟩ (fun q46 q47 => ?_)
      refine wk_iadd wm_258 wd_258_132 ?_
      refine wk_iconst wm_258 wd_258_133 (by decide) ?_
      refine wk_isub wm_258 wd_258_134 ?_
      refine wk_ireturn wm_258 wd_258_135 rfl ?_
      refine g _ _ T39 j9 ?_ ⟨by omega, by omega⟩
      rw [ep]; unfold wm_p2; rw [if_neg (by omega), if_neg (by omega)]
      exact R9
    · have c35 : ¬ ((r : Int) ≠ s.2.1) := c35
      refine wk_aload_n wm_258 wd_258_56 l0 ?_
      refine wk_getf wm_258 wd_258_57 (by decide +kernel) T.1 t0 tT_12 f29 ?_
      refine wk_iload_n wm_258 wd_258_60 l2 ?_
      refine wk_iload_n wm_258 wd_258_61 l1 ?_
      refine wk_iast wm_258 wd_258_62 sv_ty_lt T m3 tA_99 tT_99 (by decide) ⟨by omega, by omega⟩ ⟨by omega, by omega⟩ (by unfold sv_I; omega) (Or.inl rfl) (fun h48 T49 u50 g51 => ?_)
      have f52 := (u50.2 _ _).trans hR.2.1
      have f53 := (u50.2 _ _).trans hR.1
      have f54 := (u50.2 _ _).trans f29
      have f55 := (u50.2 _ _).trans f32
      have j1 := (wm_J_up u50 (wm_a_ne tA_99 (by decide))).trans hJ
      refine wk_aload_n wm_258 wd_258_63 l0 ?_
      refine wk_getf wm_258 wd_258_64 (by decide +kernel) T49.1 t0 tT_12 f55 ?_
      refine wk_iload_n wm_258 wd_258_67 l2 ?_
      refine wk_iconst wm_258 wd_258_68 (by decide) ?_
      refine wk_iast wm_258 wd_258_69 sv_ty_lt T49 m4 tA_100 tT_100 (by decide) ⟨by omega, by omega⟩ ⟨by omega, by omega⟩ (by unfold sv_I; omega) (Or.inl rfl) (fun h56 T57 u58 g59 => ?_)
      have f60 := (u58.2 _ _).trans f52
      have f61 := (u58.2 _ _).trans f53
      have f62 := (u58.2 _ _).trans f54
      have f63 := (u58.2 _ _).trans f55
      have j2 := (wm_J_up u58 (wm_a_ne tA_100 (by decide))).trans j1
      refine wk_aload_n wm_258 wd_258_70 l0 ?_
      refine wk_dup wm_258 wd_258_71 rfl ?_
      refine wk_getf wm_258 wd_258_72 (by decide +kernel) T57.1 t0 tT_12 f60 ?_
      refine wk_iconst wm_258 wd_258_75 (by decide) ?_
      refine wk_iadd wm_258 wd_258_76 ?_
      refine wk_putf (fk := 0) (ft := (0, 0, 4, 0)) wm_258 wd_258_77 (by decide +kernel) sv_ty_lt T57 m5 t0 tT_12 rfl (by decide +kernel) rfl rfl ⟨(s.2.1 + 1), rfl, by unfold sv_I; omega, by show (0 : Int) ≤ (s.2.1 + 1); omega, by show (s.2.1 + 1) ≤ (4 : Int); omega⟩ (fun h64 T65 u66 g67 => ?_)
      have f68 := (u66.2 _ _).trans (if_pos ⟨rfl, rfl⟩)
      have f69 := ((u66.2 _ _).trans (if_neg (fun z => absurd z.2 (by decide)))).trans f61
      have f70 := ((u66.2 _ _).trans (if_neg (fun z => absurd z.2 (by decide)))).trans f62
      have f71 := ((u66.2 _ _).trans (if_neg (fun z => absurd z.2 (by decide)))).trans f63
      have j3 := (wm_J_uf u66).trans j2
      have R3 : wm_R h64 k0 (s.1, s.2.1 + 1, wm_up s.2.2.1 r why, wm_up s.2.2.2 r 0) := by
        refine ⟨f69, f68, ⟨by show 0 ≤ s.2.1 + 1; omega, by show s.2.1 + 1 ≤ 4; omega⟩, fun j x y => ?_⟩
        have y : j < s.2.1 + 1 := y
        rw [u66.1, u66.1]
        show _ = (if j = r then why else s.2.2.1 j) ∧ _ = (if j = r then 0 else s.2.2.2 j)
        rw [wk_up_o u58 (k' := 163) (by decide) x]
        by_cases e : j = r
        · rw [e, wk_up_s u50 (by omega), wk_up_s u58 (by omega), if_pos rfl, if_pos rfl]; exact ⟨rfl, rfl⟩
        · have hd := hR.2.2.2 j x (by omega)
          rw [wk_up_i u50 x e, wk_up_i u58 x e, wk_up_o u50 (k' := 164) (by decide) x, if_neg e, if_neg e]; exact hd
      refine wk_aload_n wm_258 wd_258_80 l0 ?_
      refine wk_iload_n wm_258 wd_258_81 l1 ?_
      refine wk_bipush wm_258 wd_258_82 (by decide) ?_
      refine wk_icmp 99 wm_258 wd_258_84 (by decide) (by unfold sv_I; omega) (by unfold sv_I; omega) (fun c72 => ?_) (fun c72 => ?_)
      · have c72 : (why : Int) ≤ 20 := c72
        refine wk_bipush wm_258 wd_258_99 (by decide) ?_
        refine wk_iload_n wm_258 wd_258_101 l1 ?_
        refine wk_iadd wm_258 wd_258_102 ?_
        refine wk_iconst wm_258 wd_258_103 (by decide) ?_
        refine wk_isub wm_258 wd_258_104 ?_
        refine wk_sipush wm_258 wd_258_105 (by decide) ?_
        refine wk_iload_n wm_258 wd_258_108 l2 ?_
        refine wk_iadd wm_258 wd_258_109 ?_
        refine wk_call (Or.inr ⟨rfl, rfl⟩) wm_258 wd_258_110 (by decide +kernel) wm_257 (by decide +kernel) rfl rfl (wk_rcv T65.1 t0 tT_12) ?_
        refine wm_lay m1 m2 t0 T65 j3 R3 ⟨by show 0 ≤ s.1; omega, by show s.1 ≤ 199; omega⟩ ⟨by omega, by omega⟩ ⟨by omega, by omega⟩ rfl rfl rfl (fun h4 T4 j4 R4 => ?_)
        show sv_G Q 258 113 lv [] h4
        have F4 := R4.2.1
        obtain ⟨k73, f74, y75⟩ := wk_ref (j := 75) T4.1 t0 tT_12 rfl
        rw [tU_100 y75 tA_100] at f74
        have hd := R4.2.2.2 r (by omega) (by show r < s.2.1 + 1; omega)
        have hz : wk_R h4 164 r = 0 := hd.2.trans (if_pos rfl)
        refine wk_aload_n wm_258 wd_258_113 l0 ?_
        refine wk_getf wm_258 wd_258_114 (by decide +kernel) T4.1 t0 tT_12 f74 ?_
        refine wk_iload_n wm_258 wd_258_117 l2 ?_
        refine wk_dup2 wm_258 wd_258_118 rfl rfl ?_
        refine wk_iald wm_258 wd_258_119 sv_ty_lt T4.1 tA_100 tT_100 (by decide) ⟨by omega, by omega⟩ (fun q76 q77 => ?_)
        refine wk_iconst wm_258 wd_258_120 (by decide) ?_
        refine wk_iadd wm_258 wd_258_121 ?_
        refine wk_iast wm_258 wd_258_122 sv_ty_lt T4 m4 tA_100 tT_100 (by decide) ⟨by omega, by omega⟩ ⟨by omega, by omega⟩ (by unfold sv_I; omega) (Or.inl rfl) (fun h78 T79 u80 g81 => ?_)
        have f82 := (u80.2 _ _).trans R4.2.1
        have f83 := (u80.2 _ _).trans R4.1
        have f84 := (u80.2 _ _).trans f74
        have j9 := (wm_J_up u80 (wm_a_ne tA_100 (by decide))).trans j4
        have e9 := wk_up_s u80 (by omega)
        have R9 : wm_R h78 k0 (s.1 + 1, s.2.1 + 1, wm_up s.2.2.1 r why, wm_up s.2.2.2 r 1) := by
          refine ⟨f83, f82, ⟨by show 0 ≤ s.2.1 + 1; omega, by show s.2.1 + 1 ≤ 4; omega⟩, fun j x y => ?_⟩
          have hq := R4.2.2.2 j x y
          refine ⟨(wk_up_o u80 (by decide) x).trans hq.1, ?_⟩
          show _ = (if j = r then 1 else s.2.2.2 j)
          by_cases e : j = r
          · rw [e, e9, if_pos rfl]; omega
          · rw [wk_up_i u80 x e, if_neg e, hq.2]; exact if_neg e
        refine wk_iconst wm_258 wd_258_123 (by decide) ?_
        refine wk_iload_n wm_258 wd_258_124 l2 ?_
        refine wk_imul wm_258 wd_258_125 ?_
        refine wk_aload_n wm_258 wd_258_126 l0 ?_
        refine wk_getf wm_258 wd_258_127 (by decide +kernel) T79.1 t0 tT_12 f84 ?_
        refine wk_iload_n wm_258 wd_258_130 l2 ?_
        refine wk_iald wm_258 wd_258_131 sv_ty_lt T79.1 tA_100 tT_100 (by decide) ⟨by omega, by omega⟩ (fun q85 q86 => ?_)
        refine wk_iadd wm_258 wd_258_132 ?_
        refine wk_iconst wm_258 wd_258_133 (by decide) ?_
        refine wk_isub wm_258 wd_258_134 ?_
        refine wk_ireturn wm_258 wd_258_135 rfl ?_
        refine g _ _ T79 j9 ?_ ⟨by omega, by omega⟩
        rw [ep]; unfold wm_p2; rw [if_neg (by omega), if_pos (by omega)]
        exact R9
      · have c72 : ¬ ((why : Int) ≤ 20) := c72
        refine wk_bipush wm_258 wd_258_87 (by decide) ?_
        refine wk_iload_n wm_258 wd_258_89 l1 ?_
        refine wk_iadd wm_258 wd_258_90 ?_
        refine wk_bipush wm_258 wd_258_91 (by decide) ?_
        refine wk_isub wm_258 wd_258_93 ?_
        refine wk_iconst wm_258 wd_258_94 (by decide) ?_
        refine wk_isub wm_258 wd_258_95 ?_
        refine wk_goto 105 wm_258 wd_258_96 (by decide) ?_
        refine wk_sipush wm_258 wd_258_105 (by decide) ?_
        refine wk_iload_n wm_258 wd_258_108 l2 ?_
        refine wk_iadd wm_258 wd_258_109 ?_
        refine wk_call (Or.inr ⟨rfl, rfl⟩) wm_258 wd_258_110 (by decide +kernel) wm_257 (by decide +kernel) rfl rfl (wk_rcv T65.1 t0 tT_12) ?_
        refine wm_lay m1 m2 t0 T65 j3 R3 ⟨by show 0 ≤ s.1; omega, by show s.1 ≤ 199; omega⟩ ⟨by omega, by omega⟩ ⟨by omega, by omega⟩ rfl rfl rfl (fun h4 T4 j4 R4 => ?_)
        show sv_G Q 258 113 lv [] h4
        have F4 := R4.2.1
        obtain ⟨k87, f88, y89⟩ := wk_ref (j := 75) T4.1 t0 tT_12 rfl
        rw [tU_100 y89 tA_100] at f88
        have hd := R4.2.2.2 r (by omega) (by show r < s.2.1 + 1; omega)
        have hz : wk_R h4 164 r = 0 := hd.2.trans (if_pos rfl)
        refine wk_aload_n wm_258 wd_258_113 l0 ?_
        refine wk_getf wm_258 wd_258_114 (by decide +kernel) T4.1 t0 tT_12 f88 ?_
        refine wk_iload_n wm_258 wd_258_117 l2 ?_
        refine wk_dup2 wm_258 wd_258_118 rfl rfl ?_
        refine wk_iald wm_258 wd_258_119 sv_ty_lt T4.1 tA_100 tT_100 (by decide) ⟨by omega, by omega⟩ (fun q90 q91 => ?_)
        refine wk_iconst wm_258 wd_258_120 (by decide) ?_
        refine wk_iadd wm_258 wd_258_121 ?_
        refine wk_iast wm_258 wd_258_122 sv_ty_lt T4 m4 tA_100 tT_100 (by decide) ⟨by omega, by omega⟩ ⟨by omega, by omega⟩ (by unfold sv_I; omega) (Or.inl rfl) (fun h92 T93 u94 g95 => ?_)
        have f96 := (u94.2 _ _).trans R4.2.1
        have f97 := (u94.2 _ _).trans R4.1
        have f98 := (u94.2 _ _).trans f88
        have j9 := (wm_J_up u94 (wm_a_ne tA_100 (by decide))).trans j4
        have e9 := wk_up_s u94 (by omega)
        have R9 : wm_R h92 k0 (s.1 + 1, s.2.1 + 1, wm_up s.2.2.1 r why, wm_up s.2.2.2 r 1) := by
          refine ⟨f97, f96, ⟨by show 0 ≤ s.2.1 + 1; omega, by show s.2.1 + 1 ≤ 4; omega⟩, fun j x y => ?_⟩
          have hq := R4.2.2.2 j x y
          refine ⟨(wk_up_o u94 (by decide) x).trans hq.1, ?_⟩
          show _ = (if j = r then 1 else s.2.2.2 j)
          by_cases e : j = r
          · rw [e, e9, if_pos rfl]; omega
          · rw [wk_up_i u94 x e, if_neg e, hq.2]; exact if_neg e
        refine wk_iconst wm_258 wd_258_123 (by decide) ?_
        refine wk_iload_n wm_258 wd_258_124 l2 ?_
        refine wk_imul wm_258 wd_258_125 ?_
        refine wk_aload_n wm_258 wd_258_126 l0 ?_
        refine wk_getf wm_258 wd_258_127 (by decide +kernel) T93.1 t0 tT_12 f98 ?_
        refine wk_iload_n wm_258 wd_258_130 l2 ?_
        refine wk_iald wm_258 wd_258_131 sv_ty_lt T93.1 tA_100 tT_100 (by decide) ⟨by omega, by omega⟩ (fun q99 q100 => ?_)
        refine wk_iadd wm_258 wd_258_132 ?_
        refine wk_iconst wm_258 wd_258_133 (by decide) ?_
        refine wk_isub wm_258 wd_258_134 ?_
        refine wk_ireturn wm_258 wd_258_135 rfl ?_
        refine g _ _ T93 j9 ?_ ⟨by omega, by omega⟩
        rw [ep]; unfold wm_p2; rw [if_neg (by omega), if_pos (by omega)]
        exact R9
  · have c34 : ¬ ((r : Int) ≠ 4) := c34
    refine wk_aload_n wm_258 wd_258_41 l0 ?_
    refine wk_iconst wm_258 wd_258_42 (by decide) ?_
    refine wk_putf (fk := 1) (ft := (0, 0, 1, 0)) wm_258 wd_258_43 (by decide +kernel) sv_ty_lt T m6 t0 tT_12 rfl (by decide +kernel) rfl rfl ⟨1, rfl, by unfold sv_I; omega, by show (0 : Int) ≤ 1; omega, by show 1 ≤ (1 : Int); omega⟩ (fun h101 T102 u103 g104 => ?_)
    have f105 := ((u103.2 _ _).trans (if_neg (fun z => absurd z.2 (by decide)))).trans hR.2.1
    have f106 := ((u103.2 _ _).trans (if_neg (fun z => absurd z.2 (by decide)))).trans hR.1
    have f107 := ((u103.2 _ _).trans (if_neg (fun z => absurd z.2 (by decide)))).trans f29
    have f108 := ((u103.2 _ _).trans (if_neg (fun z => absurd z.2 (by decide)))).trans f32
    have f109 := (u103.2 k0 81).trans (if_pos ⟨rfl, rfl⟩)
    refine wk_iconst wm_258 wd_258_46 (by decide) ?_
    refine wk_ireturn wm_258 wd_258_47 rfl ?_
    refine g _ 0 T102 ((wm_J_uf u103).trans hJ) ?_ ⟨by omega, by omega⟩
    rw [ep]; unfold wm_p2; rw [if_pos (by omega)]
    exact ⟨f106, f105, hm, fun j x y => by rw [u103.1, u103.1]; exact hR.2.2.2 j x y⟩
theorem wm_2 {mods : List (Nat × Nat)} {h0 h : ae_H} {Q : ae_R → Prop} {k0 : Nat} {why : Int} {s : wm_S} {J : Nat → Int → Int} (m1 : (98, 0) ∈ mods) (m2 : (12, 79) ∈ mods) (m3 : (99, 0) ∈ mods) (m4 : (100, 0) ∈ mods) (m5 : (12, 80) ∈ mods) (m6 : (12, 81) ∈ mods) (t0 : sv_ty k0 = some 12) (T : sv_Tk sv_ty sv_tt mods h0 h) (hJ : wm_J h = J) (hR : wm_R h k0 s) (hs : 0 ≤ s.1 ∧ s.1 ≤ 198) (hw : 1 ≤ why ∧ why ≤ 23) (g : ∀ h2 x, sv_Tk sv_ty sv_tt mods h0 h2 → wm_J h2 = J → wm_R h2 k0 (wm_pt why s) → (0 ≤ x ∧ x ≤ 11) → Q (some (wk_i x), h2)) : ∀ (d : Nat) (lv : ae_L) (r : Int), (ae_lk lv 0 = some (wk_r k0)) → (ae_lk lv 1 = some (wk_i why)) → (ae_lk lv 2 = some (wk_i r)) → (0 ≤ r ∧ r ≤ s.2.1) → (∀ j, 0 ≤ j → j < r → ¬ (s.2.2.1 j = why ∧ s.2.2.2 j ≠ 3)) → (s.2.1 - r ≤ d) → sv_G Q 258 2 lv [] h := by
  have hm := hR.2.2.1
  intro d
  induction d with
  | zero =>
    intro lv r l0 l1 l2 hr h2 hd
    obtain ⟨k110, f111, y112⟩ := wk_ref (j := 74) T.1 t0 tT_12 rfl
    rw [tU_99 y112 tA_99] at f111
    obtain ⟨k113, f114, y115⟩ := wk_ref (j := 75) T.1 t0 tT_12 rfl
    rw [tU_100 y115 tA_100] at f114
    refine wk_iload_n wm_258 wd_258_2 l2 ?_
    refine wk_aload_n wm_258 wd_258_3 l0 ?_
    refine wk_getf wm_258 wd_258_4 (by decide +kernel) T.1 t0 tT_12 hR.2.1 ?_
    refine wk_icmp 36 wm_258 wd_258_7 (by decide) (by unfold sv_I; omega) (by unfold sv_I; omega) (fun c116 => ?_) (fun c116 => ?_)
    · have c116 : (r : Int) ≥ s.2.1 := c116
      exact wm_36 m1 m2 m3 m4 m5 m6 t0 T hJ hR hs hw g l0 l1 l2 hr (by omega) h2
    · have c116 : ¬ ((r : Int) ≥ s.2.1) := c116
      exfalso; omega
  | succ d ih =>
    intro lv r l0 l1 l2 hr h2 hd
    obtain ⟨k117, f118, y119⟩ := wk_ref (j := 74) T.1 t0 tT_12 rfl
    rw [tU_99 y119 tA_99] at f118
    obtain ⟨k120, f121, y122⟩ := wk_ref (j := 75) T.1 t0 tT_12 rfl
    rw [tU_100 y122 tA_100] at f121
    refine wk_iload_n wm_258 wd_258_2 l2 ?_
    refine wk_aload_n wm_258 wd_258_3 l0 ?_
    refine wk_getf wm_258 wd_258_4 (by decide +kernel) T.1 t0 tT_12 hR.2.1 ?_
    refine wk_icmp 36 wm_258 wd_258_7 (by decide) (by unfold sv_I; omega) (by unfold sv_I; omega) (fun c123 => ?_) (fun c123 => ?_)
    · have c123 : (r : Int) ≥ s.2.1 := c123
      exact wm_36 m1 m2 m3 m4 m5 m6 t0 T hJ hR hs hw g l0 l1 l2 hr (by omega) h2
    · have c123 : ¬ ((r : Int) ≥ s.2.1) := c123
      have hq := hR.2.2.2 r (by omega) (by omega)
      refine wk_aload_n wm_258 wd_258_10 l0 ?_
      refine wk_getf wm_258 wd_258_11 (by decide +kernel) T.1 t0 tT_12 f118 ?_
      refine wk_iload_n wm_258 wd_258_14 l2 ?_
      refine wk_iald wm_258 wd_258_15 sv_ty_lt T.1 tA_99 tT_99 (by decide) ⟨by omega, by omega⟩ (fun q124 q125 => ?_)
      refine wk_iload_n wm_258 wd_258_16 l1 ?_
      refine wk_icmp 30 wm_258 wd_258_17 (by decide) (by unfold sv_I; omega) (by unfold sv_I; omega) (fun c126 => ?_) (fun c126 => ?_)
      · have c126 : ((wk_R h 163 r) : Int) ≠ why := c126
        refine wk_iinc wm_258 wd_258_30 (by decide +kernel) (by decide) l2 (fun lv127 s128 => ?_)
        have l129 := s128.2 0 _ l0 (by decide) (Or.inl rfl)
        have l130 := s128.2 1 _ l1 (by decide) (Or.inl rfl)
        have l131 := s128.1
        refine wk_goto 2 wm_258 wd_258_33 (by decide) ?_
        exact ih lv127 (r + 1) l129 l130 l131 (by omega) (fun j a b => by
          by_cases e : j = r
          · rw [e]; omega
          · exact h2 j a (by omega)) (by omega)
      · have c126 : ¬ (((wk_R h 163 r) : Int) ≠ why) := c126
        refine wk_aload_n wm_258 wd_258_20 l0 ?_
        refine wk_getf wm_258 wd_258_21 (by decide +kernel) T.1 t0 tT_12 f121 ?_
        refine wk_iload_n wm_258 wd_258_24 l2 ?_
        refine wk_iald wm_258 wd_258_25 sv_ty_lt T.1 tA_100 tT_100 (by decide) ⟨by omega, by omega⟩ (fun q132 q133 => ?_)
        refine wk_iconst wm_258 wd_258_26 (by decide) ?_
        refine wk_icmp 36 wm_258 wd_258_27 (by decide) (by unfold sv_I; omega) (by unfold sv_I; omega) (fun c134 => ?_) (fun c134 => ?_)
        · have c134 : ((wk_R h 164 r) : Int) ≠ 3 := c134
          exact wm_36 m1 m2 m3 m4 m5 m6 t0 T hJ hR hs hw g l0 l1 l2 hr (by omega) h2
        · have c134 : ¬ (((wk_R h 164 r) : Int) ≠ 3) := c134
          refine wk_iinc wm_258 wd_258_30 (by decide +kernel) (by decide) l2 (fun lv135 s136 => ?_)
          have l137 := s136.2 0 _ l0 (by decide) (Or.inl rfl)
          have l138 := s136.2 1 _ l1 (by decide) (Or.inl rfl)
          have l139 := s136.1
          refine wk_goto 2 wm_258 wd_258_33 (by decide) ?_
          exact ih lv135 (r + 1) l137 l138 l139 (by omega) (fun j a b => by
            by_cases e : j = r
            · rw [e]; omega
            · exact h2 j a (by omega)) (by omega)
theorem wm_point {mods : List (Nat × Nat)} {h0 h : ae_H} {Q : ae_R → Prop} {k0 : Nat} {why : Int} {s : wm_S} {J : Nat → Int → Int} (m1 : (98, 0) ∈ mods) (m2 : (12, 79) ∈ mods) (m3 : (99, 0) ∈ mods) (m4 : (100, 0) ∈ mods) (m5 : (12, 80) ∈ mods) (m6 : (12, 81) ∈ mods) (t0 : sv_ty k0 = some 12) (T : sv_Tk sv_ty sv_tt mods h0 h) (hJ : wm_J h = J) (hR : wm_R h k0 s) (hs : 0 ≤ s.1 ∧ s.1 ≤ 198) (hw : 1 ≤ why ∧ why ≤ 23) (g : ∀ h2 x, sv_Tk sv_ty sv_tt mods h0 h2 → wm_J h2 = J → wm_R h2 k0 (wm_pt why s) → (0 ≤ x ∧ x ≤ 11) → Q (some (wk_i x), h2)) {lv : ae_L} (l0 : ae_lk lv 0 = some (wk_r k0)) (l1 : ae_lk lv 1 = some (wk_i why)) : sv_G Q 258 0 lv [] h := by
  have hm := hR.2.2.1
  refine wk_iconst wm_258 wd_258_0 (by decide) ?_
  refine wk_istore_n wm_258 wd_258_1 (by decide +kernel) (fun lv140 s141 => ?_)
  have l142 := s141.2 0 _ l0 (by decide) (Or.inl rfl)
  have l143 := s141.2 1 _ l1 (by decide) (Or.inl rfl)
  have l144 := s141.1
  exact wm_2 m1 m2 m3 m4 m5 m6 t0 T hJ hR hs hw g 4 lv140 0 l142 l143 l144 (by omega) (fun j a b => by omega) (by omega)
