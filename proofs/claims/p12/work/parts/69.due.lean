/-! A LINE that is due (wip/p2/hand/g69.py) -/
theorem tA_104 : sv_ty 168 = some 104 := rfl
theorem tU_104 {a b : Nat} (ha : sv_ty a = some 104) (hb : sv_ty b = some 104) : a = b := wk_uq (by decide +kernel) ha hb
theorem tA_105 : sv_ty 169 = some 105 := rfl
theorem tU_105 {a b : Nat} (ha : sv_ty a = some 105) (hb : sv_ty b = some 105) : a = b := wk_uq (by decide +kernel) ha hb
theorem wk_nm (x : Int) : wk_i x = wk_i (sv_g (sv_u x)) := by
  show Sum.inl (Sum.inl (sv_u x)) = Sum.inl (Sum.inl (sv_u (sv_g (sv_u x))))
  rw [sv_u_g (sv_u_lt x)]
section
variable {Q : ae_R → Prop} {mi pc : Nat} {M : ae_M} {lv : ae_L} {st : List ae_V} {h : ae_H} {x y : Int}
theorem wk_any {f : Nat → Nat → Nat} {i : Instr} (hi : (i = .idiv ∧ f = ae_idiv) ∨ (i = .irem ∧ f = ae_irem)) (hM : ae_m mi = some M) (hd : decode M.2.2.1 pc = .ok (i, 1)) (hy : 0 < y ∧ y < 2147483648) (g : ∀ z, sv_I z → sv_G Q mi (pc + 1) lv (wk_i z :: st) h) : sv_G Q mi pc lv (wk_i y :: wk_i x :: st) h := by
  have ey : sv_u y = y.toNat := sv_u_nn (by omega) (by omega)
  have b1 : Nat.blt 0 (sv_u y) = true := Nat.ble_eq_true_of_le (by rw [ey]; omega)
  have b2 : Nat.blt (sv_u y) 2147483648 = true := Nat.ble_eq_true_of_le (by rw [ey]; omega)
  have hlt := sv_u_lt x
  rcases hi with ⟨e, ef⟩ | ⟨e, ef⟩
  · subst e ef
    have hf : ae_idiv (sv_u x) (sv_u y) < 4294967296 := by
      unfold ae_idiv
      cases Nat.ble 2147483648 (sv_u x) with
      | true => exact Nat.mod_lt _ (by decide)
      | false => exact Nat.lt_of_le_of_lt (Nat.div_le_self _ _) hlt
    refine sv_G_step hM hd rfl (fun K C => ?_) (g (sv_g (ae_idiv (sv_u x) (sv_u y))) (sv_g_I hf))
    show cond (and (Nat.blt 0 (sv_u y)) (Nat.blt (sv_u y) 2147483648)) (ae_f (ae_idiv (sv_u x) (sv_u y)) fun z => K (Nat.add pc 1) 0 0 lv (ae_i z :: st) h) none = _
    rw [b1, b2, Bool.and_self, cond_true, ae_f_eq, wk_ig hf]
  · subst e ef
    have hf : ae_irem (sv_u x) (sv_u y) < 4294967296 := by
      unfold ae_irem
      cases Nat.ble 2147483648 (sv_u x) with
      | true => exact Nat.mod_lt _ (by decide)
      | false => exact Nat.lt_of_le_of_lt (Nat.mod_le _ _) hlt
    refine sv_G_step hM hd rfl (fun K C => ?_) (g (sv_g (ae_irem (sv_u x) (sv_u y))) (sv_g_I hf))
    show cond (and (Nat.blt 0 (sv_u y)) (Nat.blt (sv_u y) 2147483648)) (ae_f (ae_irem (sv_u x) (sv_u y)) fun z => K (Nat.add pc 1) 0 0 lv (ae_i z :: st) h) none = _
    rw [b1, b2, Bool.and_self, cond_true, ae_f_eq, wk_ig hf]
end
theorem wd_145 {mods : List (Nat × Nat)} {h0 : ae_H} {Q : ae_R → Prop} {k0 : Nat} {set o da c : Int} {J : Nat → Int → Int} (m1 : (104, 0) ∈ mods) (m2 : (105, 0) ∈ mods) (m3 : (12, 85) ∈ mods) (t0 : sv_ty k0 = some 12) (hc : J 1 0 = c ∧ 0 ≤ c ∧ c ≤ 8) (hset : 0 ≤ set ∧ set ≤ 255) (ho : 0 ≤ o ∧ o ≤ 3) (hda : 0 ≤ da ∧ da ≤ 999) (hfit : wm_dg J set c.toNat ≤ 12) {an bar k is : Int} (hb : 0 ≤ bar ∧ bar + J 3 k ≤ 12) (hk : 0 ≤ k ∧ k < c) (hw : 0 ≤ J 3 k ∧ J 3 k ≤ 6) (his : is = 0 ∨ is = 1) (g : ∀ (lv : ae_L) (h : ae_H), sv_Tk sv_ty sv_tt mods h0 h → (wm_J h = J) → (wk_F h k0 85 = some (wk_i da)) → (ae_lk lv 0 = some (wk_r k0)) → (ae_lk lv 1 = some (wk_i set)) → (ae_lk lv 2 = some (wk_i o)) → (ae_lk lv 3 = some (wk_i an)) → (ae_lk lv 4 = some (wk_i bar)) → (ae_lk lv 5 = some (wk_i k)) → (ae_lk lv 6 = some (wk_i is)) → sv_G Q 268 200 lv [] h) :
    ∀ (m : Nat) (lv : ae_L) (h : ae_H) (v d : Int), sv_Tk sv_ty sv_tt mods h0 h → (wm_J h = J) → (wk_F h k0 85 = some (wk_i da)) → (ae_lk lv 0 = some (wk_r k0)) → (ae_lk lv 1 = some (wk_i set)) → (ae_lk lv 2 = some (wk_i o)) → (ae_lk lv 3 = some (wk_i an)) → (ae_lk lv 4 = some (wk_i bar)) → (ae_lk lv 5 = some (wk_i k)) → (ae_lk lv 6 = some (wk_i is)) → (ae_lk lv 7 = some (wk_i v)) → (ae_lk lv 8 = some (wk_i d)) → (-1 ≤ d ∧ d < J 3 k) → sv_I v → (d + 1 ≤ m) → sv_G Q 268 145 lv [] h := by
  intro m
  induction m with
  | zero =>
    intro lv h v d T hJ FD l0 l1 l2 l3 l4 l5 l6 l7 l8 hd iv hm
    unfold sv_I at iv
    obtain ⟨k1, f2, y3⟩ := wk_ref (j := 82) T.1 t0 tT_12 rfl
    rw [tU_104 y3 tA_104] at f2
    refine wk_iload wm_268 wd_268_145 l8 ?_
    refine wk_if 200 wm_268 wd_268_147 (by decide) (by unfold sv_I; omega) (fun c4 => ?_) (fun c4 => ?_)
    · have c4 : (d : Int) < 0 := c4
      exact g lv h T hJ FD l0 l1 l2 l3 l4 l5 l6
    · have c4 : ¬ ((d : Int) < 0) := c4
      exfalso; omega
  | succ m ih =>
    intro lv h v d T hJ FD l0 l1 l2 l3 l4 l5 l6 l7 l8 hd iv hm
    unfold sv_I at iv
    obtain ⟨k5, f6, y7⟩ := wk_ref (j := 82) T.1 t0 tT_12 rfl
    rw [tU_104 y7 tA_104] at f6
    refine wk_iload wm_268 wd_268_145 l8 ?_
    refine wk_if 200 wm_268 wd_268_147 (by decide) (by unfold sv_I; omega) (fun c8 => ?_) (fun c8 => ?_)
    · have c8 : (d : Int) < 0 := c8
      exact g lv h T hJ FD l0 l1 l2 l3 l4 l5 l6
    · have c8 : ¬ ((d : Int) < 0) := c8
      refine wk_iload wm_268 wd_268_150 l6 ?_
      refine wk_if 187 wm_268 wd_268_152 (by decide) (by unfold sv_I; omega) (fun c9 => ?_) (fun c9 => ?_)
      · have c9 : (is : Int) = 0 := c9
        refine wk_iload wm_268 wd_268_187 l7 ?_
        refine wk_bipush wm_268 wd_268_189 (by decide) ?_
        refine wk_any (Or.inl ⟨rfl, rfl⟩) wm_268 wd_268_191 ⟨by omega, by omega⟩ (fun z10 i11 => ?_)
        unfold sv_I at i11
        refine wk_istore wm_268 wd_268_192 (by decide +kernel) (fun lv12 s13 => ?_)
        have l14 := s13.2 0 _ l0 (by decide) (Or.inl rfl)
        have l15 := s13.2 1 _ l1 (by decide) (Or.inl rfl)
        have l16 := s13.2 2 _ l2 (by decide) (Or.inl rfl)
        have l17 := s13.2 3 _ l3 (by decide) (Or.inl rfl)
        have l18 := s13.2 4 _ l4 (by decide) (Or.inl rfl)
        have l19 := s13.2 5 _ l5 (by decide) (Or.inl rfl)
        have l20 := s13.2 6 _ l6 (by decide) (Or.inl rfl)
        have l21 := s13.2 8 _ l8 (by decide) (Or.inl rfl)
        have l22 := s13.1
        refine wk_iinc wm_268 wd_268_194 (by decide +kernel) (by decide) l21 (fun lv23 s24 => ?_)
        have l25 := s24.2 0 _ l14 (by decide) (Or.inl rfl)
        have l26 := s24.2 1 _ l15 (by decide) (Or.inl rfl)
        have l27 := s24.2 2 _ l16 (by decide) (Or.inl rfl)
        have l28 := s24.2 3 _ l17 (by decide) (Or.inl rfl)
        have l29 := s24.2 4 _ l18 (by decide) (Or.inl rfl)
        have l30 := s24.2 5 _ l19 (by decide) (Or.inl rfl)
        have l31 := s24.2 6 _ l20 (by decide) (Or.inl rfl)
        have l32 := s24.2 7 _ l22 (by decide) (Or.inl rfl)
        have l33 := s24.1
        refine wk_goto 145 wm_268 wd_268_197 (by decide) ?_
        exact ih lv23 h z10 (d + (-1)) T hJ FD l25 l26 l27 l28 l29 l30 l31 l32 l33 (by omega) (by unfold sv_I; omega) (by omega)
      · have c9 : ¬ ((is : Int) = 0) := c9
        refine wk_aload_n wm_268 wd_268_155 l0 ?_
        refine wk_getf wm_268 wd_268_156 (by decide +kernel) T.1 t0 tT_12 FD ?_
        refine wk_bipush wm_268 wd_268_159 (by decide) ?_
        refine wk_icmp 187 wm_268 wd_268_161 (by decide) (by unfold sv_I; omega) (by unfold sv_I; omega) (fun c34 => ?_) (fun c34 => ?_)
        · have c34 : (da : Int) ≥ 60 := c34
          refine wk_iload wm_268 wd_268_187 l7 ?_
          refine wk_bipush wm_268 wd_268_189 (by decide) ?_
          refine wk_any (Or.inl ⟨rfl, rfl⟩) wm_268 wd_268_191 ⟨by omega, by omega⟩ (fun z35 i36 => ?_)
          unfold sv_I at i36
          refine wk_istore wm_268 wd_268_192 (by decide +kernel) (fun lv37 s38 => ?_)
          have l39 := s38.2 0 _ l0 (by decide) (Or.inl rfl)
          have l40 := s38.2 1 _ l1 (by decide) (Or.inl rfl)
          have l41 := s38.2 2 _ l2 (by decide) (Or.inl rfl)
          have l42 := s38.2 3 _ l3 (by decide) (Or.inl rfl)
          have l43 := s38.2 4 _ l4 (by decide) (Or.inl rfl)
          have l44 := s38.2 5 _ l5 (by decide) (Or.inl rfl)
          have l45 := s38.2 6 _ l6 (by decide) (Or.inl rfl)
          have l46 := s38.2 8 _ l8 (by decide) (Or.inl rfl)
          have l47 := s38.1
          refine wk_iinc wm_268 wd_268_194 (by decide +kernel) (by decide) l46 (fun lv48 s49 => ?_)
          have l50 := s49.2 0 _ l39 (by decide) (Or.inl rfl)
          have l51 := s49.2 1 _ l40 (by decide) (Or.inl rfl)
          have l52 := s49.2 2 _ l41 (by decide) (Or.inl rfl)
          have l53 := s49.2 3 _ l42 (by decide) (Or.inl rfl)
          have l54 := s49.2 4 _ l43 (by decide) (Or.inl rfl)
          have l55 := s49.2 5 _ l44 (by decide) (Or.inl rfl)
          have l56 := s49.2 6 _ l45 (by decide) (Or.inl rfl)
          have l57 := s49.2 7 _ l47 (by decide) (Or.inl rfl)
          have l58 := s49.1
          refine wk_goto 145 wm_268 wd_268_197 (by decide) ?_
          exact ih lv48 h z35 (d + (-1)) T hJ FD l50 l51 l52 l53 l54 l55 l56 l57 l58 (by omega) (by unfold sv_I; omega) (by omega)
        · have c34 : ¬ ((da : Int) ≥ 60) := c34
          refine wk_aload_n wm_268 wd_268_164 l0 ?_
          refine wk_getf wm_268 wd_268_165 (by decide +kernel) T.1 t0 tT_12 f6 ?_
          refine wk_bipush wm_268 wd_268_168 (by decide) ?_
          refine wk_aload_n wm_268 wd_268_170 l0 ?_
          refine wk_getf wm_268 wd_268_171 (by decide +kernel) T.1 t0 tT_12 FD ?_
          refine wk_imul wm_268 wd_268_174 ?_
          refine wk_iload wm_268 wd_268_175 l4 ?_
          refine wk_iadd wm_268 wd_268_177 ?_
          refine wk_iload wm_268 wd_268_178 l8 ?_
          refine wk_iadd wm_268 wd_268_180 ?_
          refine wk_iload wm_268 wd_268_181 l7 ?_
          refine wk_bipush wm_268 wd_268_183 (by decide) ?_
          refine wk_any (Or.inr ⟨rfl, rfl⟩) wm_268 wd_268_185 ⟨by omega, by omega⟩ (fun z59 i60 => ?_)
          unfold sv_I at i60
          refine wk_iast wm_268 wd_268_186 sv_ty_lt T m1 tA_104 tT_104 (by decide) ⟨by omega, by omega⟩ ⟨by omega, by omega⟩ (by unfold sv_I; omega) (Or.inl rfl) (fun h61 T62 u63 g64 => ?_)
          have f65 := (u63.2 _ _).trans FD
          have f66 := (u63.2 _ _).trans f6
          have j1 : wm_J h61 = J := (wm_J_up u63 (wm_a_ne tA_104 (by decide))).trans hJ
          refine wk_iload wm_268 wd_268_187 l7 ?_
          refine wk_bipush wm_268 wd_268_189 (by decide) ?_
          refine wk_any (Or.inl ⟨rfl, rfl⟩) wm_268 wd_268_191 ⟨by omega, by omega⟩ (fun z67 i68 => ?_)
          unfold sv_I at i68
          refine wk_istore wm_268 wd_268_192 (by decide +kernel) (fun lv69 s70 => ?_)
          have l71 := s70.2 0 _ l0 (by decide) (Or.inl rfl)
          have l72 := s70.2 1 _ l1 (by decide) (Or.inl rfl)
          have l73 := s70.2 2 _ l2 (by decide) (Or.inl rfl)
          have l74 := s70.2 3 _ l3 (by decide) (Or.inl rfl)
          have l75 := s70.2 4 _ l4 (by decide) (Or.inl rfl)
          have l76 := s70.2 5 _ l5 (by decide) (Or.inl rfl)
          have l77 := s70.2 6 _ l6 (by decide) (Or.inl rfl)
          have l78 := s70.2 8 _ l8 (by decide) (Or.inl rfl)
          have l79 := s70.1
          refine wk_iinc wm_268 wd_268_194 (by decide +kernel) (by decide) l78 (fun lv80 s81 => ?_)
          have l82 := s81.2 0 _ l71 (by decide) (Or.inl rfl)
          have l83 := s81.2 1 _ l72 (by decide) (Or.inl rfl)
          have l84 := s81.2 2 _ l73 (by decide) (Or.inl rfl)
          have l85 := s81.2 3 _ l74 (by decide) (Or.inl rfl)
          have l86 := s81.2 4 _ l75 (by decide) (Or.inl rfl)
          have l87 := s81.2 5 _ l76 (by decide) (Or.inl rfl)
          have l88 := s81.2 6 _ l77 (by decide) (Or.inl rfl)
          have l89 := s81.2 7 _ l79 (by decide) (Or.inl rfl)
          have l90 := s81.1
          refine wk_goto 145 wm_268 wd_268_197 (by decide) ?_
          exact ih lv80 h61 z67 (d + (-1)) T62 j1 f65 l82 l83 l84 l85 l86 l87 l88 l89 l90 (by omega) (by unfold sv_I; omega) (by omega)
theorem wd_50 {mods : List (Nat × Nat)} {h0 : ae_H} {Q : ae_R → Prop} {k0 : Nat} {set o da c : Int} {J : Nat → Int → Int} (m1 : (104, 0) ∈ mods) (m2 : (105, 0) ∈ mods) (m3 : (12, 85) ∈ mods) (t0 : sv_ty k0 = some 12) (hc : J 1 0 = c ∧ 0 ≤ c ∧ c ≤ 8) (hset : 0 ≤ set ∧ set ≤ 255) (ho : 0 ≤ o ∧ o ≤ 3) (hda : 0 ≤ da ∧ da ≤ 999) (hfit : wm_dg J set c.toNat ≤ 12) (g : ∀ h2 x, sv_Tk sv_ty sv_tt mods h0 h2 → wk_F h2 k0 85 = some (wk_i x) → (0 ≤ x ∧ x ≤ da + 1) → Q (none, h2)) :
    ∀ (m : Nat) (lv : ae_L) (h : ae_H) (an k : Int), sv_Tk sv_ty sv_tt mods h0 h → (wm_J h = J) → (wk_F h k0 85 = some (wk_i da)) → (ae_lk lv 0 = some (wk_r k0)) → (ae_lk lv 1 = some (wk_i set)) → (ae_lk lv 2 = some (wk_i o)) → (ae_lk lv 3 = some (wk_i an)) → (ae_lk lv 4 = some (wk_i (wm_dg J set k.toNat))) → (ae_lk lv 5 = some (wk_i k)) → (0 ≤ k ∧ k ≤ c) → (an = 0 ∨ an = 1) → (c - k ≤ m) → sv_G Q 268 50 lv [] h := by
  intro m
  induction m with
  | zero =>
    intro lv h an k T hJ FD l0 l1 l2 l3 l4 l5 hk han hm
    obtain ⟨k91, f92, y93⟩ := wk_ref (j := 66) T.1 t0 tT_12 rfl
    rw [tU_92 y93 tA_92] at f92
    obtain ⟨k94, f95, y96⟩ := wk_ref (j := 69) T.1 t0 tT_12 rfl
    rw [tU_95 y96 tA_95] at f95
    obtain ⟨k97, f98, y99⟩ := wk_ref (j := 83) T.1 t0 tT_12 rfl
    rw [tU_105 y99 tA_105] at f98
    obtain ⟨k100, f101, y102⟩ := wk_ref (j := 68) T.1 t0 tT_12 rfl
    rw [tU_94 y102 tA_94] at f101
    refine wk_iload wm_268 wd_268_50 l5 ?_
    refine wk_aload_n wm_268 wd_268_52 l0 ?_
    refine wk_getf wm_268 wd_268_53 (by decide +kernel) T.1 t0 tT_12 f92 ?_
    refine wk_iconst wm_268 wd_268_56 (by decide) ?_
    refine wk_iald wm_268 wd_268_57 sv_ty_lt T.1 tA_92 tT_92 (by decide) ⟨by omega, by omega⟩ (fun q103 q104 => ?_)
    have ec : wk_R h 155 0 = J 1 0 := by rw [← hJ, wm_J_at (by omega)]; rfl
    refine wk_icmp 233 wm_268 wd_268_58 (by decide) (by unfold sv_I; omega) (by unfold sv_I; omega) (fun c105 => ?_) (fun c105 => ?_)
    · have c105 : (k : Int) ≥ (wk_R h 155 0) := c105
      refine wk_iload_n wm_268 wd_268_233 l3 ?_
      refine wk_if 247 wm_268 wd_268_234 (by decide) (by unfold sv_I; omega) (fun c106 => ?_) (fun c106 => ?_)
      · have c106 : (an : Int) = 0 := c106
        refine wk_return wm_268 wd_268_247 rfl ?_
        exact g _ _ T FD ⟨by omega, by omega⟩
      · have c106 : ¬ ((an : Int) = 0) := c106
        refine wk_aload_n wm_268 wd_268_237 l0 ?_
        refine wk_dup wm_268 wd_268_238 rfl ?_
        refine wk_getf wm_268 wd_268_239 (by decide +kernel) T.1 t0 tT_12 FD ?_
        refine wk_iconst wm_268 wd_268_242 (by decide) ?_
        refine wk_iadd wm_268 wd_268_243 ?_
        refine wk_putf (fk := 0) (ft := (0, 0, 1000, 0)) wm_268 wd_268_244 (by decide +kernel) sv_ty_lt T m3 t0 tT_12 rfl (by decide +kernel) rfl rfl ⟨(da + 1), rfl, by unfold sv_I; omega, by show (0 : Int) ≤ (da + 1); omega, by show (da + 1) ≤ (1000 : Int); omega⟩ (fun h107 T108 u109 g110 => ?_)
        have f111 := (u109.2 _ _).trans (if_pos ⟨rfl, rfl⟩)
        have f112 := ((u109.2 _ _).trans (if_neg (fun z => absurd z.2 (by decide)))).trans f92
        have f113 := ((u109.2 _ _).trans (if_neg (fun z => absurd z.2 (by decide)))).trans f95
        have f114 := ((u109.2 _ _).trans (if_neg (fun z => absurd z.2 (by decide)))).trans f98
        have f115 := ((u109.2 _ _).trans (if_neg (fun z => absurd z.2 (by decide)))).trans f101
        refine wk_return wm_268 wd_268_247 rfl ?_
        exact g _ _ T108 f111 ⟨by omega, by omega⟩
    · have c105 : ¬ ((k : Int) ≥ (wk_R h 155 0)) := c105
      exfalso; omega
  | succ m ih =>
    intro lv h an k T hJ FD l0 l1 l2 l3 l4 l5 hk han hm
    obtain ⟨k116, f117, y118⟩ := wk_ref (j := 66) T.1 t0 tT_12 rfl
    rw [tU_92 y118 tA_92] at f117
    obtain ⟨k119, f120, y121⟩ := wk_ref (j := 69) T.1 t0 tT_12 rfl
    rw [tU_95 y121 tA_95] at f120
    obtain ⟨k122, f123, y124⟩ := wk_ref (j := 83) T.1 t0 tT_12 rfl
    rw [tU_105 y124 tA_105] at f123
    obtain ⟨k125, f126, y127⟩ := wk_ref (j := 68) T.1 t0 tT_12 rfl
    rw [tU_94 y127 tA_94] at f126
    refine wk_iload wm_268 wd_268_50 l5 ?_
    refine wk_aload_n wm_268 wd_268_52 l0 ?_
    refine wk_getf wm_268 wd_268_53 (by decide +kernel) T.1 t0 tT_12 f117 ?_
    refine wk_iconst wm_268 wd_268_56 (by decide) ?_
    refine wk_iald wm_268 wd_268_57 sv_ty_lt T.1 tA_92 tT_92 (by decide) ⟨by omega, by omega⟩ (fun q128 q129 => ?_)
    have ec : wk_R h 155 0 = J 1 0 := by rw [← hJ, wm_J_at (by omega)]; rfl
    refine wk_icmp 233 wm_268 wd_268_58 (by decide) (by unfold sv_I; omega) (by unfold sv_I; omega) (fun c130 => ?_) (fun c130 => ?_)
    · have c130 : (k : Int) ≥ (wk_R h 155 0) := c130
      refine wk_iload_n wm_268 wd_268_233 l3 ?_
      refine wk_if 247 wm_268 wd_268_234 (by decide) (by unfold sv_I; omega) (fun c131 => ?_) (fun c131 => ?_)
      · have c131 : (an : Int) = 0 := c131
        refine wk_return wm_268 wd_268_247 rfl ?_
        exact g _ _ T FD ⟨by omega, by omega⟩
      · have c131 : ¬ ((an : Int) = 0) := c131
        refine wk_aload_n wm_268 wd_268_237 l0 ?_
        refine wk_dup wm_268 wd_268_238 rfl ?_
        refine wk_getf wm_268 wd_268_239 (by decide +kernel) T.1 t0 tT_12 FD ?_
        refine wk_iconst wm_268 wd_268_242 (by decide) ?_
        refine wk_iadd wm_268 wd_268_243 ?_
        refine wk_putf (fk := 0) (ft := (0, 0, 1000, 0)) wm_268 wd_268_244 (by decide +kernel) sv_ty_lt T m3 t0 tT_12 rfl (by decide +kernel) rfl rfl ⟨(da + 1), rfl, by unfold sv_I; omega, by show (0 : Int) ≤ (da + 1); omega, by show (da + 1) ≤ (1000 : Int); omega⟩ (fun h132 T133 u134 g135 => ?_)
        have f136 := (u134.2 _ _).trans (if_pos ⟨rfl, rfl⟩)
        have f137 := ((u134.2 _ _).trans (if_neg (fun z => absurd z.2 (by decide)))).trans f117
        have f138 := ((u134.2 _ _).trans (if_neg (fun z => absurd z.2 (by decide)))).trans f120
        have f139 := ((u134.2 _ _).trans (if_neg (fun z => absurd z.2 (by decide)))).trans f123
        have f140 := ((u134.2 _ _).trans (if_neg (fun z => absurd z.2 (by decide)))).trans f126
        refine wk_return wm_268 wd_268_247 rfl ?_
        exact g _ _ T133 f136 ⟨by omega, by omega⟩
    · have c130 : ¬ ((k : Int) ≥ (wk_R h 155 0)) := c130
      refine wk_aload_n wm_268 wd_268_61 l0 ?_
      refine wk_getf wm_268 wd_268_62 (by decide +kernel) T.1 t0 tT_12 f120 ?_
      refine wk_iload wm_268 wd_268_65 l5 ?_
      refine wk_iald wm_268 wd_268_67 sv_ty_lt T.1 tA_95 tT_95 (by decide) ⟨by omega, by omega⟩ (fun q141 q142 => ?_)
      refine wk_iload_n wm_268 wd_268_68 l2 ?_
      refine wk_icmp 76 wm_268 wd_268_69 (by decide) (by unfold sv_I; omega) (by unfold sv_I; omega) (fun c143 => ?_) (fun c143 => ?_)
      · have c143 : ((wk_R h 158 k) : Int) ≠ o := c143
        refine wk_iconst wm_268 wd_268_76 (by decide) ?_
        refine wk_istore wm_268 wd_268_77 (by decide +kernel) (fun lv144 s145 => ?_)
        have l146 := s145.2 0 _ l0 (by decide) (Or.inl rfl)
        have l147 := s145.2 1 _ l1 (by decide) (Or.inl rfl)
        have l148 := s145.2 2 _ l2 (by decide) (Or.inl rfl)
        have l149 := s145.2 3 _ l3 (by decide) (Or.inl rfl)
        have l150 := s145.2 4 _ l4 (by decide) (Or.inl rfl)
        have l151 := s145.2 5 _ l5 (by decide) (Or.inl rfl)
        have l152 := s145.1
        refine wk_aload_n wm_268 wd_268_79 l146 ?_
        refine wk_getf wm_268 wd_268_80 (by decide +kernel) T.1 t0 tT_12 f123 ?_
        refine wk_iload wm_268 wd_268_83 l151 ?_
        refine wk_iald wm_268 wd_268_85 sv_ty_lt T.1 tA_105 tT_105 (by decide) ⟨by omega, by omega⟩ (fun q153 q154 => ?_)
        refine wk_if 100 wm_268 wd_268_86 (by decide) (by unfold sv_I; omega) (fun c155 => ?_) (fun c155 => ?_)
        · have c155 : ((wk_R h 169 k) : Int) ≥ 0 := c155
          refine wk_aload_n wm_268 wd_268_100 l146 ?_
          refine wk_getf wm_268 wd_268_101 (by decide +kernel) T.1 t0 tT_12 f123 ?_
          refine wk_iload wm_268 wd_268_104 l151 ?_
          refine wk_iald wm_268 wd_268_106 sv_ty_lt T.1 tA_105 tT_105 (by decide) ⟨by omega, by omega⟩ (fun q156 q157 => ?_)
          refine wk_istore wm_268 wd_268_107 (by decide +kernel) (fun lv158 s159 => ?_)
          have l160 := s159.2 0 _ l146 (by decide) (Or.inl rfl)
          have l161 := s159.2 1 _ l147 (by decide) (Or.inl rfl)
          have l162 := s159.2 2 _ l148 (by decide) (Or.inl rfl)
          have l163 := s159.2 3 _ l149 (by decide) (Or.inl rfl)
          have l164 := s159.2 4 _ l150 (by decide) (Or.inl rfl)
          have l165 := s159.2 5 _ l151 (by decide) (Or.inl rfl)
          have l166 := s159.2 6 _ l152 (by decide) (Or.inl rfl)
          have l167 := s159.1
          have iy := sv_g_I (sv_u_lt (wk_R h 169 k))
          have l169 := l167
          rw [wk_nm] at l169
          generalize sv_g (sv_u (wk_R h 169 k)) = y at l169 iy
          unfold sv_I at iy
          refine wk_iload wm_268 wd_268_109 l166 ?_
          refine wk_if 122 wm_268 wd_268_111 (by decide) (by unfold sv_I; omega) (fun c170 => ?_) (fun c170 => ?_)
          · have c170 : (0 : Int) = 0 := c170
            refine wk_iload_n wm_268 wd_268_122 l161 ?_
            refine wk_iload wm_268 wd_268_123 l165 ?_
            refine wk_ishr wm_268 wd_268_125 ⟨by omega, by omega⟩ ⟨by omega, by omega⟩ ?_
            refine wk_iconst wm_268 wd_268_126 (by decide) ?_
            refine wk_iand wm_268 wd_268_127 ?_
            have eb := wm_bt_eq (set := set) (k := k) ⟨by omega, by omega⟩
            have eb1 := wm_bt01 set k
            refine wk_if 134 wm_268 wd_268_128 (by decide) (by unfold sv_I; omega) (fun c171 => ?_) (fun c171 => ?_)
            · have c171 : ((sv_g (sv_u (((set).toNat >>> (k).toNat : Nat) : Int) &&& sv_u 1)) : Int) ≠ 0 := c171
              refine wk_aload_n wm_268 wd_268_134 l160 ?_
              refine wk_getf wm_268 wd_268_135 (by decide +kernel) T.1 t0 tT_12 f126 ?_
              refine wk_iload wm_268 wd_268_138 l165 ?_
              refine wk_iald wm_268 wd_268_140 sv_ty_lt T.1 tA_94 tT_94 (by decide) ⟨by omega, by omega⟩ (fun q172 q173 => ?_)
              refine wk_iconst wm_268 wd_268_141 (by decide) ?_
              have e4 : wk_R h 157 k = J 3 k := by rw [← hJ, wm_J_at (by omega)]; rfl
              refine wk_isub wm_268 wd_268_142 ?_
              refine wk_istore wm_268 wd_268_143 (by decide +kernel) (fun lv174 s175 => ?_)
              have l176 := s175.2 0 _ l160 (by decide) (Or.inl rfl)
              have l177 := s175.2 1 _ l161 (by decide) (Or.inl rfl)
              have l178 := s175.2 2 _ l162 (by decide) (Or.inl rfl)
              have l179 := s175.2 3 _ l163 (by decide) (Or.inl rfl)
              have l180 := s175.2 4 _ l164 (by decide) (Or.inl rfl)
              have l181 := s175.2 5 _ l165 (by decide) (Or.inl rfl)
              have l182 := s175.2 6 _ l166 (by decide) (Or.inl rfl)
              have l183 := s175.2 7 _ l169 (by decide) (Or.inl rfl)
              have l184 := s175.1
              have q1 : wm_bt set k = 1 := by omega
              have hJ3 : ∀ z : Int, 0 ≤ z → z < c.toNat → 0 ≤ J 3 z := fun z a b => by
                rw [← hJ, wm_J_at a]; exact (wk_rng (i := z) T.1 tA_94 tT_94 ⟨a, by omega⟩).1
              have b2 := wm_dg_le (J := J) (set := set) hJ3 (m := k.toNat + 1) (n := c.toNat) (by omega) (Nat.le_refl _)
              have b2 : wm_dg J set k.toNat + (if wm_bt set ((k.toNat : Nat) : Int) = 1 then J 3 ((k.toNat : Nat) : Int) else 0) ≤ wm_dg J set c.toNat := b2
              rw [Int.toNat_of_nonneg hk.1, if_pos q1] at b2
              have b3 := wm_dg_le (J := J) (set := set) hJ3 (m := 0) (n := k.toNat) (by omega) (by omega)
              have b3 : 0 ≤ wm_dg J set k.toNat := b3
              have e3 : wm_dg J set (k + 1).toNat = wm_dg J set k.toNat + J 3 k := by
                rw [show (k + 1).toNat = k.toNat + 1 by omega]
                show wm_dg J set k.toNat + (if wm_bt set ((k.toNat : Nat) : Int) = 1 then J 3 ((k.toNat : Nat) : Int) else 0) = _
                rw [Int.toNat_of_nonneg hk.1, if_pos q1]
              refine wd_145 m1 m2 m3 t0 hc hset ho hda hfit (an := an) (bar := wm_dg J set k.toNat) (k := k) (is := 0) ⟨b3, by omega⟩ ⟨by omega, by omega⟩ ⟨by omega, by omega⟩ (by omega) (fun lv2 h2 T2 j2 D2 a0 a1 a2 a3 a4 a5 a6 => ?_) 6 lv174 h y (J 3 k - 1) T hJ FD l176 l177 l178 l179 l180 l181 l182 l183 (by rw [← e4]; exact l184) (by omega) (by unfold sv_I; omega) (by omega)
              obtain ⟨k185, f186, y187⟩ := wk_ref (j := 68) T2.1 t0 tT_12 rfl
              rw [tU_94 y187 tA_94] at f186
              refine wk_iload wm_268 wd_268_200 a4 ?_
              refine wk_aload_n wm_268 wd_268_202 a0 ?_
              refine wk_getf wm_268 wd_268_203 (by decide +kernel) T2.1 t0 tT_12 f186 ?_
              refine wk_iload wm_268 wd_268_206 a5 ?_
              refine wk_iald wm_268 wd_268_208 sv_ty_lt T2.1 tA_94 tT_94 (by decide) ⟨by omega, by omega⟩ (fun q188 q189 => ?_)
              have e5 : wk_R h2 157 k = J 3 k := by rw [← j2, wm_J_at (by omega)]; rfl
              refine wk_iadd wm_268 wd_268_209 ?_
              refine wk_istore wm_268 wd_268_210 (by decide +kernel) (fun lv190 s191 => ?_)
              have l192 := s191.2 0 _ a0 (by decide) (Or.inl rfl)
              have l193 := s191.2 1 _ a1 (by decide) (Or.inl rfl)
              have l194 := s191.2 2 _ a2 (by decide) (Or.inl rfl)
              have l195 := s191.2 3 _ a3 (by decide) (Or.inl rfl)
              have l196 := s191.2 5 _ a5 (by decide) (Or.inl rfl)
              have l197 := s191.2 6 _ a6 (by decide) (Or.inl rfl)
              have l198 := s191.1
              refine wk_iload_n wm_268 wd_268_212 l195 ?_
              refine wk_if 221 wm_268 wd_268_213 (by decide) (by unfold sv_I; omega) (fun c199 => ?_) (fun c199 => ?_)
              · have c199 : (an : Int) ≠ 0 := c199
                refine wk_iconst wm_268 wd_268_221 (by decide) ?_
                refine wk_goto 226 wm_268 wd_268_222 (by decide) ?_
                refine wk_istore_n wm_268 wd_268_226 (by decide +kernel) (fun lv200 s201 => ?_)
                have l202 := s201.2 0 _ l192 (by decide) (Or.inl rfl)
                have l203 := s201.2 1 _ l193 (by decide) (Or.inl rfl)
                have l204 := s201.2 2 _ l194 (by decide) (Or.inl rfl)
                have l205 := s201.2 4 _ l198 (by decide) (Or.inl rfl)
                have l206 := s201.2 5 _ l196 (by decide) (Or.inl rfl)
                have l207 := s201.2 6 _ l197 (by decide) (Or.inl rfl)
                have l208 := s201.1
                refine wk_iinc wm_268 wd_268_227 (by decide +kernel) (by decide) l206 (fun lv209 s210 => ?_)
                have l211 := s210.2 0 _ l202 (by decide) (Or.inl rfl)
                have l212 := s210.2 1 _ l203 (by decide) (Or.inl rfl)
                have l213 := s210.2 2 _ l204 (by decide) (Or.inl rfl)
                have l214 := s210.2 3 _ l208 (by decide) (Or.inl rfl)
                have l215 := s210.2 4 _ l205 (by decide) (Or.inl rfl)
                have l216 := s210.2 6 _ l207 (by decide) (Or.inl rfl)
                have l217 := s210.1
                refine wk_goto 50 wm_268 wd_268_230 (by decide) ?_
                exact ih lv209 h2 1 (k + 1) T2 j2 D2 l211 l212 l213 l214 (by rw [e3, ← e5]; exact l215) l217 (by omega) (by omega) (by omega)
              · have c199 : ¬ ((an : Int) ≠ 0) := c199
                refine wk_iload wm_268 wd_268_216 l197 ?_
                refine wk_if 225 wm_268 wd_268_218 (by decide) (by unfold sv_I; omega) (fun c218 => ?_) (fun c218 => ?_)
                · have c218 : (0 : Int) = 0 := c218
                  refine wk_iconst wm_268 wd_268_225 (by decide) ?_
                  refine wk_istore_n wm_268 wd_268_226 (by decide +kernel) (fun lv219 s220 => ?_)
                  have l221 := s220.2 0 _ l192 (by decide) (Or.inl rfl)
                  have l222 := s220.2 1 _ l193 (by decide) (Or.inl rfl)
                  have l223 := s220.2 2 _ l194 (by decide) (Or.inl rfl)
                  have l224 := s220.2 4 _ l198 (by decide) (Or.inl rfl)
                  have l225 := s220.2 5 _ l196 (by decide) (Or.inl rfl)
                  have l226 := s220.2 6 _ l197 (by decide) (Or.inl rfl)
                  have l227 := s220.1
                  refine wk_iinc wm_268 wd_268_227 (by decide +kernel) (by decide) l225 (fun lv228 s229 => ?_)
                  have l230 := s229.2 0 _ l221 (by decide) (Or.inl rfl)
                  have l231 := s229.2 1 _ l222 (by decide) (Or.inl rfl)
                  have l232 := s229.2 2 _ l223 (by decide) (Or.inl rfl)
                  have l233 := s229.2 3 _ l227 (by decide) (Or.inl rfl)
                  have l234 := s229.2 4 _ l224 (by decide) (Or.inl rfl)
                  have l235 := s229.2 6 _ l226 (by decide) (Or.inl rfl)
                  have l236 := s229.1
                  refine wk_goto 50 wm_268 wd_268_230 (by decide) ?_
                  exact ih lv228 h2 0 (k + 1) T2 j2 D2 l230 l231 l232 l233 (by rw [e3, ← e5]; exact l234) l236 (by omega) (by omega) (by omega)
                · have c218 : ¬ ((0 : Int) = 0) := c218
                  exfalso; omega
            · have c171 : ¬ (((sv_g (sv_u (((set).toNat >>> (k).toNat : Nat) : Int) &&& sv_u 1)) : Int) ≠ 0) := c171
              have q0 : wm_bt set k = 0 := by omega
              have e3 : wm_dg J set (k + 1).toNat = wm_dg J set k.toNat := by
                rw [show (k + 1).toNat = k.toNat + 1 by omega]
                show wm_dg J set k.toNat + (if wm_bt set ((k.toNat : Nat) : Int) = 1 then _ else _) = _
                rw [Int.toNat_of_nonneg hk.1, if_neg (by omega)]; omega
              refine wk_goto 227 wm_268 wd_268_131 (by decide) ?_
              refine wk_iinc wm_268 wd_268_227 (by decide +kernel) (by decide) l165 (fun lv237 s238 => ?_)
              have l239 := s238.2 0 _ l160 (by decide) (Or.inl rfl)
              have l240 := s238.2 1 _ l161 (by decide) (Or.inl rfl)
              have l241 := s238.2 2 _ l162 (by decide) (Or.inl rfl)
              have l242 := s238.2 3 _ l163 (by decide) (Or.inl rfl)
              have l243 := s238.2 4 _ l164 (by decide) (Or.inl rfl)
              have l244 := s238.2 6 _ l166 (by decide) (Or.inl rfl)
              have l245 := s238.2 7 _ l169 (by decide) (Or.inl rfl)
              have l246 := s238.1
              refine wk_goto 50 wm_268 wd_268_230 (by decide) ?_
              exact ih lv237 h an (k + 1) T hJ FD l239 l240 l241 l242 (by rw [e3]; exact l243) l246 (by omega) (by omega) (by omega)
          · have c170 : ¬ ((0 : Int) = 0) := c170
            exfalso; omega
        · have c155 : ¬ (((wk_R h 169 k) : Int) ≥ 0) := c155
          refine wk_aload_n wm_268 wd_268_89 l146 ?_
          refine wk_getf wm_268 wd_268_90 (by decide +kernel) T.1 t0 tT_12 f123 ?_
          refine wk_iload wm_268 wd_268_93 l151 ?_
          refine wk_iald wm_268 wd_268_95 sv_ty_lt T.1 tA_105 tT_105 (by decide) ⟨by omega, by omega⟩ (fun q247 q248 => ?_)
          refine wk_ineg wm_268 wd_268_96 ?_
          refine wk_goto 107 wm_268 wd_268_97 (by decide) ?_
          refine wk_istore wm_268 wd_268_107 (by decide +kernel) (fun lv249 s250 => ?_)
          have l251 := s250.2 0 _ l146 (by decide) (Or.inl rfl)
          have l252 := s250.2 1 _ l147 (by decide) (Or.inl rfl)
          have l253 := s250.2 2 _ l148 (by decide) (Or.inl rfl)
          have l254 := s250.2 3 _ l149 (by decide) (Or.inl rfl)
          have l255 := s250.2 4 _ l150 (by decide) (Or.inl rfl)
          have l256 := s250.2 5 _ l151 (by decide) (Or.inl rfl)
          have l257 := s250.2 6 _ l152 (by decide) (Or.inl rfl)
          have l258 := s250.1
          have iy := sv_g_I (sv_u_lt (-(wk_R h 169 k)))
          have l260 := l258
          rw [wk_nm] at l260
          generalize sv_g (sv_u (-(wk_R h 169 k))) = y at l260 iy
          unfold sv_I at iy
          refine wk_iload wm_268 wd_268_109 l257 ?_
          refine wk_if 122 wm_268 wd_268_111 (by decide) (by unfold sv_I; omega) (fun c261 => ?_) (fun c261 => ?_)
          · have c261 : (0 : Int) = 0 := c261
            refine wk_iload_n wm_268 wd_268_122 l252 ?_
            refine wk_iload wm_268 wd_268_123 l256 ?_
            refine wk_ishr wm_268 wd_268_125 ⟨by omega, by omega⟩ ⟨by omega, by omega⟩ ?_
            refine wk_iconst wm_268 wd_268_126 (by decide) ?_
            refine wk_iand wm_268 wd_268_127 ?_
            have eb := wm_bt_eq (set := set) (k := k) ⟨by omega, by omega⟩
            have eb1 := wm_bt01 set k
            refine wk_if 134 wm_268 wd_268_128 (by decide) (by unfold sv_I; omega) (fun c262 => ?_) (fun c262 => ?_)
            · have c262 : ((sv_g (sv_u (((set).toNat >>> (k).toNat : Nat) : Int) &&& sv_u 1)) : Int) ≠ 0 := c262
              refine wk_aload_n wm_268 wd_268_134 l251 ?_
              refine wk_getf wm_268 wd_268_135 (by decide +kernel) T.1 t0 tT_12 f126 ?_
              refine wk_iload wm_268 wd_268_138 l256 ?_
              refine wk_iald wm_268 wd_268_140 sv_ty_lt T.1 tA_94 tT_94 (by decide) ⟨by omega, by omega⟩ (fun q263 q264 => ?_)
              refine wk_iconst wm_268 wd_268_141 (by decide) ?_
              have e4 : wk_R h 157 k = J 3 k := by rw [← hJ, wm_J_at (by omega)]; rfl
              refine wk_isub wm_268 wd_268_142 ?_
              refine wk_istore wm_268 wd_268_143 (by decide +kernel) (fun lv265 s266 => ?_)
              have l267 := s266.2 0 _ l251 (by decide) (Or.inl rfl)
              have l268 := s266.2 1 _ l252 (by decide) (Or.inl rfl)
              have l269 := s266.2 2 _ l253 (by decide) (Or.inl rfl)
              have l270 := s266.2 3 _ l254 (by decide) (Or.inl rfl)
              have l271 := s266.2 4 _ l255 (by decide) (Or.inl rfl)
              have l272 := s266.2 5 _ l256 (by decide) (Or.inl rfl)
              have l273 := s266.2 6 _ l257 (by decide) (Or.inl rfl)
              have l274 := s266.2 7 _ l260 (by decide) (Or.inl rfl)
              have l275 := s266.1
              have q1 : wm_bt set k = 1 := by omega
              have hJ3 : ∀ z : Int, 0 ≤ z → z < c.toNat → 0 ≤ J 3 z := fun z a b => by
                rw [← hJ, wm_J_at a]; exact (wk_rng (i := z) T.1 tA_94 tT_94 ⟨a, by omega⟩).1
              have b2 := wm_dg_le (J := J) (set := set) hJ3 (m := k.toNat + 1) (n := c.toNat) (by omega) (Nat.le_refl _)
              have b2 : wm_dg J set k.toNat + (if wm_bt set ((k.toNat : Nat) : Int) = 1 then J 3 ((k.toNat : Nat) : Int) else 0) ≤ wm_dg J set c.toNat := b2
              rw [Int.toNat_of_nonneg hk.1, if_pos q1] at b2
              have b3 := wm_dg_le (J := J) (set := set) hJ3 (m := 0) (n := k.toNat) (by omega) (by omega)
              have b3 : 0 ≤ wm_dg J set k.toNat := b3
              have e3 : wm_dg J set (k + 1).toNat = wm_dg J set k.toNat + J 3 k := by
                rw [show (k + 1).toNat = k.toNat + 1 by omega]
                show wm_dg J set k.toNat + (if wm_bt set ((k.toNat : Nat) : Int) = 1 then J 3 ((k.toNat : Nat) : Int) else 0) = _
                rw [Int.toNat_of_nonneg hk.1, if_pos q1]
              refine wd_145 m1 m2 m3 t0 hc hset ho hda hfit (an := an) (bar := wm_dg J set k.toNat) (k := k) (is := 0) ⟨b3, by omega⟩ ⟨by omega, by omega⟩ ⟨by omega, by omega⟩ (by omega) (fun lv2 h2 T2 j2 D2 a0 a1 a2 a3 a4 a5 a6 => ?_) 6 lv265 h y (J 3 k - 1) T hJ FD l267 l268 l269 l270 l271 l272 l273 l274 (by rw [← e4]; exact l275) (by omega) (by unfold sv_I; omega) (by omega)
              obtain ⟨k276, f277, y278⟩ := wk_ref (j := 68) T2.1 t0 tT_12 rfl
              rw [tU_94 y278 tA_94] at f277
              refine wk_iload wm_268 wd_268_200 a4 ?_
              refine wk_aload_n wm_268 wd_268_202 a0 ?_
              refine wk_getf wm_268 wd_268_203 (by decide +kernel) T2.1 t0 tT_12 f277 ?_
              refine wk_iload wm_268 wd_268_206 a5 ?_
              refine wk_iald wm_268 wd_268_208 sv_ty_lt T2.1 tA_94 tT_94 (by decide) ⟨by omega, by omega⟩ (fun q279 q280 => ?_)
              have e5 : wk_R h2 157 k = J 3 k := by rw [← j2, wm_J_at (by omega)]; rfl
              refine wk_iadd wm_268 wd_268_209 ?_
              refine wk_istore wm_268 wd_268_210 (by decide +kernel) (fun lv281 s282 => ?_)
              have l283 := s282.2 0 _ a0 (by decide) (Or.inl rfl)
              have l284 := s282.2 1 _ a1 (by decide) (Or.inl rfl)
              have l285 := s282.2 2 _ a2 (by decide) (Or.inl rfl)
              have l286 := s282.2 3 _ a3 (by decide) (Or.inl rfl)
              have l287 := s282.2 5 _ a5 (by decide) (Or.inl rfl)
              have l288 := s282.2 6 _ a6 (by decide) (Or.inl rfl)
              have l289 := s282.1
              refine wk_iload_n wm_268 wd_268_212 l286 ?_
              refine wk_if 221 wm_268 wd_268_213 (by decide) (by unfold sv_I; omega) (fun c290 => ?_) (fun c290 => ?_)
              · have c290 : (an : Int) ≠ 0 := c290
                refine wk_iconst wm_268 wd_268_221 (by decide) ?_
                refine wk_goto 226 wm_268 wd_268_222 (by decide) ?_
                refine wk_istore_n wm_268 wd_268_226 (by decide +kernel) (fun lv291 s292 => ?_)
                have l293 := s292.2 0 _ l283 (by decide) (Or.inl rfl)
                have l294 := s292.2 1 _ l284 (by decide) (Or.inl rfl)
                have l295 := s292.2 2 _ l285 (by decide) (Or.inl rfl)
                have l296 := s292.2 4 _ l289 (by decide) (Or.inl rfl)
                have l297 := s292.2 5 _ l287 (by decide) (Or.inl rfl)
                have l298 := s292.2 6 _ l288 (by decide) (Or.inl rfl)
                have l299 := s292.1
                refine wk_iinc wm_268 wd_268_227 (by decide +kernel) (by decide) l297 (fun lv300 s301 => ?_)
                have l302 := s301.2 0 _ l293 (by decide) (Or.inl rfl)
                have l303 := s301.2 1 _ l294 (by decide) (Or.inl rfl)
                have l304 := s301.2 2 _ l295 (by decide) (Or.inl rfl)
                have l305 := s301.2 3 _ l299 (by decide) (Or.inl rfl)
                have l306 := s301.2 4 _ l296 (by decide) (Or.inl rfl)
                have l307 := s301.2 6 _ l298 (by decide) (Or.inl rfl)
                have l308 := s301.1
                refine wk_goto 50 wm_268 wd_268_230 (by decide) ?_
                exact ih lv300 h2 1 (k + 1) T2 j2 D2 l302 l303 l304 l305 (by rw [e3, ← e5]; exact l306) l308 (by omega) (by omega) (by omega)
              · have c290 : ¬ ((an : Int) ≠ 0) := c290
                refine wk_iload wm_268 wd_268_216 l288 ?_
                refine wk_if 225 wm_268 wd_268_218 (by decide) (by unfold sv_I; omega) (fun c309 => ?_) (fun c309 => ?_)
                · have c309 : (0 : Int) = 0 := c309
                  refine wk_iconst wm_268 wd_268_225 (by decide) ?_
                  refine wk_istore_n wm_268 wd_268_226 (by decide +kernel) (fun lv310 s311 => ?_)
                  have l312 := s311.2 0 _ l283 (by decide) (Or.inl rfl)
                  have l313 := s311.2 1 _ l284 (by decide) (Or.inl rfl)
                  have l314 := s311.2 2 _ l285 (by decide) (Or.inl rfl)
                  have l315 := s311.2 4 _ l289 (by decide) (Or.inl rfl)
                  have l316 := s311.2 5 _ l287 (by decide) (Or.inl rfl)
                  have l317 := s311.2 6 _ l288 (by decide) (Or.inl rfl)
                  have l318 := s311.1
                  refine wk_iinc wm_268 wd_268_227 (by decide +kernel) (by decide) l316 (fun lv319 s320 => ?_)
                  have l321 := s320.2 0 _ l312 (by decide) (Or.inl rfl)
                  have l322 := s320.2 1 _ l313 (by decide) (Or.inl rfl)
                  have l323 := s320.2 2 _ l314 (by decide) (Or.inl rfl)
                  have l324 := s320.2 3 _ l318 (by decide) (Or.inl rfl)
                  have l325 := s320.2 4 _ l315 (by decide) (Or.inl rfl)
                  have l326 := s320.2 6 _ l317 (by decide) (Or.inl rfl)
                  have l327 := s320.1
                  refine wk_goto 50 wm_268 wd_268_230 (by decide) ?_
                  exact ih lv319 h2 0 (k + 1) T2 j2 D2 l321 l322 l323 l324 (by rw [e3, ← e5]; exact l325) l327 (by omega) (by omega) (by omega)
                · have c309 : ¬ ((0 : Int) = 0) := c309
                  exfalso; omega
            · have c262 : ¬ (((sv_g (sv_u (((set).toNat >>> (k).toNat : Nat) : Int) &&& sv_u 1)) : Int) ≠ 0) := c262
              have q0 : wm_bt set k = 0 := by omega
              have e3 : wm_dg J set (k + 1).toNat = wm_dg J set k.toNat := by
                rw [show (k + 1).toNat = k.toNat + 1 by omega]
                show wm_dg J set k.toNat + (if wm_bt set ((k.toNat : Nat) : Int) = 1 then _ else _) = _
                rw [Int.toNat_of_nonneg hk.1, if_neg (by omega)]; omega
              refine wk_goto 227 wm_268 wd_268_131 (by decide) ?_
              refine wk_iinc wm_268 wd_268_227 (by decide +kernel) (by decide) l256 (fun lv328 s329 => ?_)
              have l330 := s329.2 0 _ l251 (by decide) (Or.inl rfl)
              have l331 := s329.2 1 _ l252 (by decide) (Or.inl rfl)
              have l332 := s329.2 2 _ l253 (by decide) (Or.inl rfl)
              have l333 := s329.2 3 _ l254 (by decide) (Or.inl rfl)
              have l334 := s329.2 4 _ l255 (by decide) (Or.inl rfl)
              have l335 := s329.2 6 _ l257 (by decide) (Or.inl rfl)
              have l336 := s329.2 7 _ l260 (by decide) (Or.inl rfl)
              have l337 := s329.1
              refine wk_goto 50 wm_268 wd_268_230 (by decide) ?_
              exact ih lv328 h an (k + 1) T hJ FD l330 l331 l332 l333 (by rw [e3]; exact l334) l337 (by omega) (by omega) (by omega)
          · have c261 : ¬ ((0 : Int) = 0) := c261
            exfalso; omega
      · have c143 : ¬ (((wk_R h 158 k) : Int) ≠ o) := c143
        refine wk_iconst wm_268 wd_268_72 (by decide) ?_
        refine wk_goto 77 wm_268 wd_268_73 (by decide) ?_
        refine wk_istore wm_268 wd_268_77 (by decide +kernel) (fun lv338 s339 => ?_)
        have l340 := s339.2 0 _ l0 (by decide) (Or.inl rfl)
        have l341 := s339.2 1 _ l1 (by decide) (Or.inl rfl)
        have l342 := s339.2 2 _ l2 (by decide) (Or.inl rfl)
        have l343 := s339.2 3 _ l3 (by decide) (Or.inl rfl)
        have l344 := s339.2 4 _ l4 (by decide) (Or.inl rfl)
        have l345 := s339.2 5 _ l5 (by decide) (Or.inl rfl)
        have l346 := s339.1
        refine wk_aload_n wm_268 wd_268_79 l340 ?_
        refine wk_getf wm_268 wd_268_80 (by decide +kernel) T.1 t0 tT_12 f123 ?_
        refine wk_iload wm_268 wd_268_83 l345 ?_
        refine wk_iald wm_268 wd_268_85 sv_ty_lt T.1 tA_105 tT_105 (by decide) ⟨by omega, by omega⟩ (fun q347 q348 => ?_)
        refine wk_if 100 wm_268 wd_268_86 (by decide) (by unfold sv_I; omega) (fun c349 => ?_) (fun c349 => ?_)
        · have c349 : ((wk_R h 169 k) : Int) ≥ 0 := c349
          refine wk_aload_n wm_268 wd_268_100 l340 ?_
          refine wk_getf wm_268 wd_268_101 (by decide +kernel) T.1 t0 tT_12 f123 ?_
          refine wk_iload wm_268 wd_268_104 l345 ?_
          refine wk_iald wm_268 wd_268_106 sv_ty_lt T.1 tA_105 tT_105 (by decide) ⟨by omega, by omega⟩ (fun q350 q351 => ?_)
          refine wk_istore wm_268 wd_268_107 (by decide +kernel) (fun lv352 s353 => ?_)
          have l354 := s353.2 0 _ l340 (by decide) (Or.inl rfl)
          have l355 := s353.2 1 _ l341 (by decide) (Or.inl rfl)
          have l356 := s353.2 2 _ l342 (by decide) (Or.inl rfl)
          have l357 := s353.2 3 _ l343 (by decide) (Or.inl rfl)
          have l358 := s353.2 4 _ l344 (by decide) (Or.inl rfl)
          have l359 := s353.2 5 _ l345 (by decide) (Or.inl rfl)
          have l360 := s353.2 6 _ l346 (by decide) (Or.inl rfl)
          have l361 := s353.1
          have iy := sv_g_I (sv_u_lt (wk_R h 169 k))
          have l363 := l361
          rw [wk_nm] at l363
          generalize sv_g (sv_u (wk_R h 169 k)) = y at l363 iy
          unfold sv_I at iy
          refine wk_iload wm_268 wd_268_109 l360 ?_
          refine wk_if 122 wm_268 wd_268_111 (by decide) (by unfold sv_I; omega) (fun c364 => ?_) (fun c364 => ?_)
          · have c364 : (1 : Int) = 0 := c364
            exfalso; omega
          · have c364 : ¬ ((1 : Int) = 0) := c364
            refine wk_aload_n wm_268 wd_268_114 l354 ?_
            refine wk_getf wm_268 wd_268_115 (by decide +kernel) T.1 t0 tT_12 f123 ?_
            refine wk_iload wm_268 wd_268_118 l359 ?_
            refine wk_iconst wm_268 wd_268_120 (by decide) ?_
            refine wk_iast wm_268 wd_268_121 sv_ty_lt T m2 tA_105 tT_105 (by decide) ⟨by omega, by omega⟩ ⟨by omega, by omega⟩ (by unfold sv_I; omega) (Or.inl rfl) (fun h365 T366 u367 g368 => ?_)
            have f369 := (u367.2 _ _).trans FD
            have f370 := (u367.2 _ _).trans f117
            have f371 := (u367.2 _ _).trans f120
            have f372 := (u367.2 _ _).trans f123
            have f373 := (u367.2 _ _).trans f126
            have j1 : wm_J h365 = J := (wm_J_up u367 (wm_a_ne tA_105 (by decide))).trans hJ
            refine wk_iload_n wm_268 wd_268_122 l355 ?_
            refine wk_iload wm_268 wd_268_123 l359 ?_
            refine wk_ishr wm_268 wd_268_125 ⟨by omega, by omega⟩ ⟨by omega, by omega⟩ ?_
            refine wk_iconst wm_268 wd_268_126 (by decide) ?_
            refine wk_iand wm_268 wd_268_127 ?_
            have eb := wm_bt_eq (set := set) (k := k) ⟨by omega, by omega⟩
            have eb1 := wm_bt01 set k
            refine wk_if 134 wm_268 wd_268_128 (by decide) (by unfold sv_I; omega) (fun c374 => ?_) (fun c374 => ?_)
            · have c374 : ((sv_g (sv_u (((set).toNat >>> (k).toNat : Nat) : Int) &&& sv_u 1)) : Int) ≠ 0 := c374
              refine wk_aload_n wm_268 wd_268_134 l354 ?_
              refine wk_getf wm_268 wd_268_135 (by decide +kernel) T366.1 t0 tT_12 f373 ?_
              refine wk_iload wm_268 wd_268_138 l359 ?_
              refine wk_iald wm_268 wd_268_140 sv_ty_lt T366.1 tA_94 tT_94 (by decide) ⟨by omega, by omega⟩ (fun q375 q376 => ?_)
              refine wk_iconst wm_268 wd_268_141 (by decide) ?_
              have e4 : wk_R h365 157 k = J 3 k := by rw [← j1, wm_J_at (by omega)]; rfl
              refine wk_isub wm_268 wd_268_142 ?_
              refine wk_istore wm_268 wd_268_143 (by decide +kernel) (fun lv377 s378 => ?_)
              have l379 := s378.2 0 _ l354 (by decide) (Or.inl rfl)
              have l380 := s378.2 1 _ l355 (by decide) (Or.inl rfl)
              have l381 := s378.2 2 _ l356 (by decide) (Or.inl rfl)
              have l382 := s378.2 3 _ l357 (by decide) (Or.inl rfl)
              have l383 := s378.2 4 _ l358 (by decide) (Or.inl rfl)
              have l384 := s378.2 5 _ l359 (by decide) (Or.inl rfl)
              have l385 := s378.2 6 _ l360 (by decide) (Or.inl rfl)
              have l386 := s378.2 7 _ l363 (by decide) (Or.inl rfl)
              have l387 := s378.1
              have q1 : wm_bt set k = 1 := by omega
              have hJ3 : ∀ z : Int, 0 ≤ z → z < c.toNat → 0 ≤ J 3 z := fun z a b => by
                rw [← hJ, wm_J_at a]; exact (wk_rng (i := z) T.1 tA_94 tT_94 ⟨a, by omega⟩).1
              have b2 := wm_dg_le (J := J) (set := set) hJ3 (m := k.toNat + 1) (n := c.toNat) (by omega) (Nat.le_refl _)
              have b2 : wm_dg J set k.toNat + (if wm_bt set ((k.toNat : Nat) : Int) = 1 then J 3 ((k.toNat : Nat) : Int) else 0) ≤ wm_dg J set c.toNat := b2
              rw [Int.toNat_of_nonneg hk.1, if_pos q1] at b2
              have b3 := wm_dg_le (J := J) (set := set) hJ3 (m := 0) (n := k.toNat) (by omega) (by omega)
              have b3 : 0 ≤ wm_dg J set k.toNat := b3
              have e3 : wm_dg J set (k + 1).toNat = wm_dg J set k.toNat + J 3 k := by
                rw [show (k + 1).toNat = k.toNat + 1 by omega]
                show wm_dg J set k.toNat + (if wm_bt set ((k.toNat : Nat) : Int) = 1 then J 3 ((k.toNat : Nat) : Int) else 0) = _
                rw [Int.toNat_of_nonneg hk.1, if_pos q1]
              refine wd_145 m1 m2 m3 t0 hc hset ho hda hfit (an := an) (bar := wm_dg J set k.toNat) (k := k) (is := 1) ⟨b3, by omega⟩ ⟨by omega, by omega⟩ ⟨by omega, by omega⟩ (by omega) (fun lv2 h2 T2 j2 D2 a0 a1 a2 a3 a4 a5 a6 => ?_) 6 lv377 h365 y (J 3 k - 1) T366 j1 f369 l379 l380 l381 l382 l383 l384 l385 l386 (by rw [← e4]; exact l387) (by omega) (by unfold sv_I; omega) (by omega)
              obtain ⟨k388, f389, y390⟩ := wk_ref (j := 68) T2.1 t0 tT_12 rfl
              rw [tU_94 y390 tA_94] at f389
              refine wk_iload wm_268 wd_268_200 a4 ?_
              refine wk_aload_n wm_268 wd_268_202 a0 ?_
              refine wk_getf wm_268 wd_268_203 (by decide +kernel) T2.1 t0 tT_12 f389 ?_
              refine wk_iload wm_268 wd_268_206 a5 ?_
              refine wk_iald wm_268 wd_268_208 sv_ty_lt T2.1 tA_94 tT_94 (by decide) ⟨by omega, by omega⟩ (fun q391 q392 => ?_)
              have e5 : wk_R h2 157 k = J 3 k := by rw [← j2, wm_J_at (by omega)]; rfl
              refine wk_iadd wm_268 wd_268_209 ?_
              refine wk_istore wm_268 wd_268_210 (by decide +kernel) (fun lv393 s394 => ?_)
              have l395 := s394.2 0 _ a0 (by decide) (Or.inl rfl)
              have l396 := s394.2 1 _ a1 (by decide) (Or.inl rfl)
              have l397 := s394.2 2 _ a2 (by decide) (Or.inl rfl)
              have l398 := s394.2 3 _ a3 (by decide) (Or.inl rfl)
              have l399 := s394.2 5 _ a5 (by decide) (Or.inl rfl)
              have l400 := s394.2 6 _ a6 (by decide) (Or.inl rfl)
              have l401 := s394.1
              refine wk_iload_n wm_268 wd_268_212 l398 ?_
              refine wk_if 221 wm_268 wd_268_213 (by decide) (by unfold sv_I; omega) (fun c402 => ?_) (fun c402 => ?_)
              · have c402 : (an : Int) ≠ 0 := c402
                refine wk_iconst wm_268 wd_268_221 (by decide) ?_
                refine wk_goto 226 wm_268 wd_268_222 (by decide) ?_
                refine wk_istore_n wm_268 wd_268_226 (by decide +kernel) (fun lv403 s404 => ?_)
                have l405 := s404.2 0 _ l395 (by decide) (Or.inl rfl)
                have l406 := s404.2 1 _ l396 (by decide) (Or.inl rfl)
                have l407 := s404.2 2 _ l397 (by decide) (Or.inl rfl)
                have l408 := s404.2 4 _ l401 (by decide) (Or.inl rfl)
                have l409 := s404.2 5 _ l399 (by decide) (Or.inl rfl)
                have l410 := s404.2 6 _ l400 (by decide) (Or.inl rfl)
                have l411 := s404.1
                refine wk_iinc wm_268 wd_268_227 (by decide +kernel) (by decide) l409 (fun lv412 s413 => ?_)
                have l414 := s413.2 0 _ l405 (by decide) (Or.inl rfl)
                have l415 := s413.2 1 _ l406 (by decide) (Or.inl rfl)
                have l416 := s413.2 2 _ l407 (by decide) (Or.inl rfl)
                have l417 := s413.2 3 _ l411 (by decide) (Or.inl rfl)
                have l418 := s413.2 4 _ l408 (by decide) (Or.inl rfl)
                have l419 := s413.2 6 _ l410 (by decide) (Or.inl rfl)
                have l420 := s413.1
                refine wk_goto 50 wm_268 wd_268_230 (by decide) ?_
                exact ih lv412 h2 1 (k + 1) T2 j2 D2 l414 l415 l416 l417 (by rw [e3, ← e5]; exact l418) l420 (by omega) (by omega) (by omega)
              · have c402 : ¬ ((an : Int) ≠ 0) := c402
                refine wk_iload wm_268 wd_268_216 l400 ?_
                refine wk_if 225 wm_268 wd_268_218 (by decide) (by unfold sv_I; omega) (fun c421 => ?_) (fun c421 => ?_)
                · have c421 : (1 : Int) = 0 := c421
                  exfalso; omega
                · have c421 : ¬ ((1 : Int) = 0) := c421
                  refine wk_iconst wm_268 wd_268_221 (by decide) ?_
                  refine wk_goto 226 wm_268 wd_268_222 (by decide) ?_
                  refine wk_istore_n wm_268 wd_268_226 (by decide +kernel) (fun lv422 s423 => ?_)
                  have l424 := s423.2 0 _ l395 (by decide) (Or.inl rfl)
                  have l425 := s423.2 1 _ l396 (by decide) (Or.inl rfl)
                  have l426 := s423.2 2 _ l397 (by decide) (Or.inl rfl)
                  have l427 := s423.2 4 _ l401 (by decide) (Or.inl rfl)
                  have l428 := s423.2 5 _ l399 (by decide) (Or.inl rfl)
                  have l429 := s423.2 6 _ l400 (by decide) (Or.inl rfl)
                  have l430 := s423.1
                  refine wk_iinc wm_268 wd_268_227 (by decide +kernel) (by decide) l428 (fun lv431 s432 => ?_)
                  have l433 := s432.2 0 _ l424 (by decide) (Or.inl rfl)
                  have l434 := s432.2 1 _ l425 (by decide) (Or.inl rfl)
                  have l435 := s432.2 2 _ l426 (by decide) (Or.inl rfl)
                  have l436 := s432.2 3 _ l430 (by decide) (Or.inl rfl)
                  have l437 := s432.2 4 _ l427 (by decide) (Or.inl rfl)
                  have l438 := s432.2 6 _ l429 (by decide) (Or.inl rfl)
                  have l439 := s432.1
                  refine wk_goto 50 wm_268 wd_268_230 (by decide) ?_
                  exact ih lv431 h2 1 (k + 1) T2 j2 D2 l433 l434 l435 l436 (by rw [e3, ← e5]; exact l437) l439 (by omega) (by omega) (by omega)
            · have c374 : ¬ (((sv_g (sv_u (((set).toNat >>> (k).toNat : Nat) : Int) &&& sv_u 1)) : Int) ≠ 0) := c374
              have q0 : wm_bt set k = 0 := by omega
              have e3 : wm_dg J set (k + 1).toNat = wm_dg J set k.toNat := by
                rw [show (k + 1).toNat = k.toNat + 1 by omega]
                show wm_dg J set k.toNat + (if wm_bt set ((k.toNat : Nat) : Int) = 1 then _ else _) = _
                rw [Int.toNat_of_nonneg hk.1, if_neg (by omega)]; omega
              refine wk_goto 227 wm_268 wd_268_131 (by decide) ?_
              refine wk_iinc wm_268 wd_268_227 (by decide +kernel) (by decide) l359 (fun lv440 s441 => ?_)
              have l442 := s441.2 0 _ l354 (by decide) (Or.inl rfl)
              have l443 := s441.2 1 _ l355 (by decide) (Or.inl rfl)
              have l444 := s441.2 2 _ l356 (by decide) (Or.inl rfl)
              have l445 := s441.2 3 _ l357 (by decide) (Or.inl rfl)
              have l446 := s441.2 4 _ l358 (by decide) (Or.inl rfl)
              have l447 := s441.2 6 _ l360 (by decide) (Or.inl rfl)
              have l448 := s441.2 7 _ l363 (by decide) (Or.inl rfl)
              have l449 := s441.1
              refine wk_goto 50 wm_268 wd_268_230 (by decide) ?_
              exact ih lv440 h365 an (k + 1) T366 j1 f369 l442 l443 l444 l445 (by rw [e3]; exact l446) l449 (by omega) (by omega) (by omega)
        · have c349 : ¬ (((wk_R h 169 k) : Int) ≥ 0) := c349
          refine wk_aload_n wm_268 wd_268_89 l340 ?_
          refine wk_getf wm_268 wd_268_90 (by decide +kernel) T.1 t0 tT_12 f123 ?_
          refine wk_iload wm_268 wd_268_93 l345 ?_
          refine wk_iald wm_268 wd_268_95 sv_ty_lt T.1 tA_105 tT_105 (by decide) ⟨by omega, by omega⟩ (fun q450 q451 => ?_)
          refine wk_ineg wm_268 wd_268_96 ?_
          refine wk_goto 107 wm_268 wd_268_97 (by decide) ?_
          refine wk_istore wm_268 wd_268_107 (by decide +kernel) (fun lv452 s453 => ?_)
          have l454 := s453.2 0 _ l340 (by decide) (Or.inl rfl)
          have l455 := s453.2 1 _ l341 (by decide) (Or.inl rfl)
          have l456 := s453.2 2 _ l342 (by decide) (Or.inl rfl)
          have l457 := s453.2 3 _ l343 (by decide) (Or.inl rfl)
          have l458 := s453.2 4 _ l344 (by decide) (Or.inl rfl)
          have l459 := s453.2 5 _ l345 (by decide) (Or.inl rfl)
          have l460 := s453.2 6 _ l346 (by decide) (Or.inl rfl)
          have l461 := s453.1
          have iy := sv_g_I (sv_u_lt (-(wk_R h 169 k)))
          have l463 := l461
          rw [wk_nm] at l463
          generalize sv_g (sv_u (-(wk_R h 169 k))) = y at l463 iy
          unfold sv_I at iy
          refine wk_iload wm_268 wd_268_109 l460 ?_
          refine wk_if 122 wm_268 wd_268_111 (by decide) (by unfold sv_I; omega) (fun c464 => ?_) (fun c464 => ?_)
          · have c464 : (1 : Int) = 0 := c464
            exfalso; omega
          · have c464 : ¬ ((1 : Int) = 0) := c464
            refine wk_aload_n wm_268 wd_268_114 l454 ?_
            refine wk_getf wm_268 wd_268_115 (by decide +kernel) T.1 t0 tT_12 f123 ?_
            refine wk_iload wm_268 wd_268_118 l459 ?_
            refine wk_iconst wm_268 wd_268_120 (by decide) ?_
            refine wk_iast wm_268 wd_268_121 sv_ty_lt T m2 tA_105 tT_105 (by decide) ⟨by omega, by omega⟩ ⟨by omega, by omega⟩ (by unfold sv_I; omega) (Or.inl rfl) (fun h465 T466 u467 g468 => ?_)
            have f469 := (u467.2 _ _).trans FD
            have f470 := (u467.2 _ _).trans f117
            have f471 := (u467.2 _ _).trans f120
            have f472 := (u467.2 _ _).trans f123
            have f473 := (u467.2 _ _).trans f126
            have j1 : wm_J h465 = J := (wm_J_up u467 (wm_a_ne tA_105 (by decide))).trans hJ
            refine wk_iload_n wm_268 wd_268_122 l455 ?_
            refine wk_iload wm_268 wd_268_123 l459 ?_
            refine wk_ishr wm_268 wd_268_125 ⟨by omega, by omega⟩ ⟨by omega, by omega⟩ ?_
            refine wk_iconst wm_268 wd_268_126 (by decide) ?_
            refine wk_iand wm_268 wd_268_127 ?_
            have eb := wm_bt_eq (set := set) (k := k) ⟨by omega, by omega⟩
            have eb1 := wm_bt01 set k
            refine wk_if 134 wm_268 wd_268_128 (by decide) (by unfold sv_I; omega) (fun c474 => ?_) (fun c474 => ?_)
            · have c474 : ((sv_g (sv_u (((set).toNat >>> (k).toNat : Nat) : Int) &&& sv_u 1)) : Int) ≠ 0 := c474
              refine wk_aload_n wm_268 wd_268_134 l454 ?_
              refine wk_getf wm_268 wd_268_135 (by decide +kernel) T466.1 t0 tT_12 f473 ?_
              refine wk_iload wm_268 wd_268_138 l459 ?_
              refine wk_iald wm_268 wd_268_140 sv_ty_lt T466.1 tA_94 tT_94 (by decide) ⟨by omega, by omega⟩ (fun q475 q476 => ?_)
              refine wk_iconst wm_268 wd_268_141 (by decide) ?_
              have e4 : wk_R h465 157 k = J 3 k := by rw [← j1, wm_J_at (by omega)]; rfl
              refine wk_isub wm_268 wd_268_142 ?_
              refine wk_istore wm_268 wd_268_143 (by decide +kernel) (fun lv477 s478 => ?_)
              have l479 := s478.2 0 _ l454 (by decide) (Or.inl rfl)
              have l480 := s478.2 1 _ l455 (by decide) (Or.inl rfl)
              have l481 := s478.2 2 _ l456 (by decide) (Or.inl rfl)
              have l482 := s478.2 3 _ l457 (by decide) (Or.inl rfl)
              have l483 := s478.2 4 _ l458 (by decide) (Or.inl rfl)
              have l484 := s478.2 5 _ l459 (by decide) (Or.inl rfl)
              have l485 := s478.2 6 _ l460 (by decide) (Or.inl rfl)
              have l486 := s478.2 7 _ l463 (by decide) (Or.inl rfl)
              have l487 := s478.1
              have q1 : wm_bt set k = 1 := by omega
              have hJ3 : ∀ z : Int, 0 ≤ z → z < c.toNat → 0 ≤ J 3 z := fun z a b => by
                rw [← hJ, wm_J_at a]; exact (wk_rng (i := z) T.1 tA_94 tT_94 ⟨a, by omega⟩).1
              have b2 := wm_dg_le (J := J) (set := set) hJ3 (m := k.toNat + 1) (n := c.toNat) (by omega) (Nat.le_refl _)
              have b2 : wm_dg J set k.toNat + (if wm_bt set ((k.toNat : Nat) : Int) = 1 then J 3 ((k.toNat : Nat) : Int) else 0) ≤ wm_dg J set c.toNat := b2
              rw [Int.toNat_of_nonneg hk.1, if_pos q1] at b2
              have b3 := wm_dg_le (J := J) (set := set) hJ3 (m := 0) (n := k.toNat) (by omega) (by omega)
              have b3 : 0 ≤ wm_dg J set k.toNat := b3
              have e3 : wm_dg J set (k + 1).toNat = wm_dg J set k.toNat + J 3 k := by
                rw [show (k + 1).toNat = k.toNat + 1 by omega]
                show wm_dg J set k.toNat + (if wm_bt set ((k.toNat : Nat) : Int) = 1 then J 3 ((k.toNat : Nat) : Int) else 0) = _
                rw [Int.toNat_of_nonneg hk.1, if_pos q1]
              refine wd_145 m1 m2 m3 t0 hc hset ho hda hfit (an := an) (bar := wm_dg J set k.toNat) (k := k) (is := 1) ⟨b3, by omega⟩ ⟨by omega, by omega⟩ ⟨by omega, by omega⟩ (by omega) (fun lv2 h2 T2 j2 D2 a0 a1 a2 a3 a4 a5 a6 => ?_) 6 lv477 h465 y (J 3 k - 1) T466 j1 f469 l479 l480 l481 l482 l483 l484 l485 l486 (by rw [← e4]; exact l487) (by omega) (by unfold sv_I; omega) (by omega)
              obtain ⟨k488, f489, y490⟩ := wk_ref (j := 68) T2.1 t0 tT_12 rfl
              rw [tU_94 y490 tA_94] at f489
              refine wk_iload wm_268 wd_268_200 a4 ?_
              refine wk_aload_n wm_268 wd_268_202 a0 ?_
              refine wk_getf wm_268 wd_268_203 (by decide +kernel) T2.1 t0 tT_12 f489 ?_
              refine wk_iload wm_268 wd_268_206 a5 ?_
              refine wk_iald wm_268 wd_268_208 sv_ty_lt T2.1 tA_94 tT_94 (by decide) ⟨by omega, by omega⟩ (fun q491 q492 => ?_)
              have e5 : wk_R h2 157 k = J 3 k := by rw [← j2, wm_J_at (by omega)]; rfl
              refine wk_iadd wm_268 wd_268_209 ?_
              refine wk_istore wm_268 wd_268_210 (by decide +kernel) (fun lv493 s494 => ?_)
              have l495 := s494.2 0 _ a0 (by decide) (Or.inl rfl)
              have l496 := s494.2 1 _ a1 (by decide) (Or.inl rfl)
              have l497 := s494.2 2 _ a2 (by decide) (Or.inl rfl)
              have l498 := s494.2 3 _ a3 (by decide) (Or.inl rfl)
              have l499 := s494.2 5 _ a5 (by decide) (Or.inl rfl)
              have l500 := s494.2 6 _ a6 (by decide) (Or.inl rfl)
              have l501 := s494.1
              refine wk_iload_n wm_268 wd_268_212 l498 ?_
              refine wk_if 221 wm_268 wd_268_213 (by decide) (by unfold sv_I; omega) (fun c502 => ?_) (fun c502 => ?_)
              · have c502 : (an : Int) ≠ 0 := c502
                refine wk_iconst wm_268 wd_268_221 (by decide) ?_
                refine wk_goto 226 wm_268 wd_268_222 (by decide) ?_
                refine wk_istore_n wm_268 wd_268_226 (by decide +kernel) (fun lv503 s504 => ?_)
                have l505 := s504.2 0 _ l495 (by decide) (Or.inl rfl)
                have l506 := s504.2 1 _ l496 (by decide) (Or.inl rfl)
                have l507 := s504.2 2 _ l497 (by decide) (Or.inl rfl)
                have l508 := s504.2 4 _ l501 (by decide) (Or.inl rfl)
                have l509 := s504.2 5 _ l499 (by decide) (Or.inl rfl)
                have l510 := s504.2 6 _ l500 (by decide) (Or.inl rfl)
                have l511 := s504.1
                refine wk_iinc wm_268 wd_268_227 (by decide +kernel) (by decide) l509 (fun lv512 s513 => ?_)
                have l514 := s513.2 0 _ l505 (by decide) (Or.inl rfl)
                have l515 := s513.2 1 _ l506 (by decide) (Or.inl rfl)
                have l516 := s513.2 2 _ l507 (by decide) (Or.inl rfl)
                have l517 := s513.2 3 _ l511 (by decide) (Or.inl rfl)
                have l518 := s513.2 4 _ l508 (by decide) (Or.inl rfl)
                have l519 := s513.2 6 _ l510 (by decide) (Or.inl rfl)
                have l520 := s513.1
                refine wk_goto 50 wm_268 wd_268_230 (by decide) ?_
                exact ih lv512 h2 1 (k + 1) T2 j2 D2 l514 l515 l516 l517 (by rw [e3, ← e5]; exact l518) l520 (by omega) (by omega) (by omega)
              · have c502 : ¬ ((an : Int) ≠ 0) := c502
                refine wk_iload wm_268 wd_268_216 l500 ?_
                refine wk_if 225 wm_268 wd_268_218 (by decide) (by unfold sv_I; omega) (fun c521 => ?_) (fun c521 => ?_)
                · have c521 : (1 : Int) = 0 := c521
                  exfalso; omega
                · have c521 : ¬ ((1 : Int) = 0) := c521
                  refine wk_iconst wm_268 wd_268_221 (by decide) ?_
                  refine wk_goto 226 wm_268 wd_268_222 (by decide) ?_
                  refine wk_istore_n wm_268 wd_268_226 (by decide +kernel) (fun lv522 s523 => ?_)
                  have l524 := s523.2 0 _ l495 (by decide) (Or.inl rfl)
                  have l525 := s523.2 1 _ l496 (by decide) (Or.inl rfl)
                  have l526 := s523.2 2 _ l497 (by decide) (Or.inl rfl)
                  have l527 := s523.2 4 _ l501 (by decide) (Or.inl rfl)
                  have l528 := s523.2 5 _ l499 (by decide) (Or.inl rfl)
                  have l529 := s523.2 6 _ l500 (by decide) (Or.inl rfl)
                  have l530 := s523.1
                  refine wk_iinc wm_268 wd_268_227 (by decide +kernel) (by decide) l528 (fun lv531 s532 => ?_)
                  have l533 := s532.2 0 _ l524 (by decide) (Or.inl rfl)
                  have l534 := s532.2 1 _ l525 (by decide) (Or.inl rfl)
                  have l535 := s532.2 2 _ l526 (by decide) (Or.inl rfl)
                  have l536 := s532.2 3 _ l530 (by decide) (Or.inl rfl)
                  have l537 := s532.2 4 _ l527 (by decide) (Or.inl rfl)
                  have l538 := s532.2 6 _ l529 (by decide) (Or.inl rfl)
                  have l539 := s532.1
                  refine wk_goto 50 wm_268 wd_268_230 (by decide) ?_
                  exact ih lv531 h2 1 (k + 1) T2 j2 D2 l533 l534 l535 l536 (by rw [e3, ← e5]; exact l537) l539 (by omega) (by omega) (by omega)
            · have c474 : ¬ (((sv_g (sv_u (((set).toNat >>> (k).toNat : Nat) : Int) &&& sv_u 1)) : Int) ≠ 0) := c474
              have q0 : wm_bt set k = 0 := by omega
              have e3 : wm_dg J set (k + 1).toNat = wm_dg J set k.toNat := by
                rw [show (k + 1).toNat = k.toNat + 1 by omega]
                show wm_dg J set k.toNat + (if wm_bt set ((k.toNat : Nat) : Int) = 1 then _ else _) = _
                rw [Int.toNat_of_nonneg hk.1, if_neg (by omega)]; omega
              refine wk_goto 227 wm_268 wd_268_131 (by decide) ?_
              refine wk_iinc wm_268 wd_268_227 (by decide +kernel) (by decide) l459 (fun lv540 s541 => ?_)
              have l542 := s541.2 0 _ l454 (by decide) (Or.inl rfl)
              have l543 := s541.2 1 _ l455 (by decide) (Or.inl rfl)
              have l544 := s541.2 2 _ l456 (by decide) (Or.inl rfl)
              have l545 := s541.2 3 _ l457 (by decide) (Or.inl rfl)
              have l546 := s541.2 4 _ l458 (by decide) (Or.inl rfl)
              have l547 := s541.2 6 _ l460 (by decide) (Or.inl rfl)
              have l548 := s541.2 7 _ l463 (by decide) (Or.inl rfl)
              have l549 := s541.1
              refine wk_goto 50 wm_268 wd_268_230 (by decide) ?_
              exact ih lv540 h465 an (k + 1) T466 j1 f469 l542 l543 l544 l545 (by rw [e3]; exact l546) l549 (by omega) (by omega) (by omega)
theorem wd_8 {mods : List (Nat × Nat)} {h0 : ae_H} {Q : ae_R → Prop} {k0 : Nat} {set o da c : Int} {J : Nat → Int → Int} (m1 : (104, 0) ∈ mods) (m2 : (105, 0) ∈ mods) (m3 : (12, 85) ∈ mods) (t0 : sv_ty k0 = some 12) (hc : J 1 0 = c ∧ 0 ≤ c ∧ c ≤ 8) (hset : 0 ≤ set ∧ set ≤ 255) (ho : 0 ≤ o ∧ o ≤ 3) (hda : 0 ≤ da ∧ da ≤ 999) (hfit : wm_dg J set c.toNat ≤ 12) (g : ∀ h2 x, sv_Tk sv_ty sv_tt mods h0 h2 → wk_F h2 k0 85 = some (wk_i x) → (0 ≤ x ∧ x ≤ da + 1) → Q (none, h2)) :
    ∀ (m : Nat) (lv : ae_L) (h : ae_H) (b : Int), sv_Tk sv_ty sv_tt mods h0 h → (wm_J h = J) → (wk_F h k0 85 = some (wk_i da)) → (ae_lk lv 0 = some (wk_r k0)) → (ae_lk lv 1 = some (wk_i set)) → (ae_lk lv 2 = some (wk_i o)) → (ae_lk lv 3 = some (wk_i 0)) → (ae_lk lv 4 = some (wk_i 0)) → (ae_lk lv 5 = some (wk_i b)) → (0 ≤ b ∧ b ≤ 12) → (12 - b ≤ m) → sv_G Q 268 8 lv [] h := by
  intro m
  induction m with
  | zero =>
    intro lv h b T hJ FD l0 l1 l2 l3 l4 l5 hb hm
    obtain ⟨k550, f551, y552⟩ := wk_ref (j := 82) T.1 t0 tT_12 rfl
    rw [tU_104 y552 tA_104] at f551
    refine wk_iload wm_268 wd_268_8 l5 ?_
    refine wk_bipush wm_268 wd_268_10 (by decide) ?_
    refine wk_icmp 47 wm_268 wd_268_12 (by decide) (by unfold sv_I; omega) (by unfold sv_I; omega) (fun c553 => ?_) (fun c553 => ?_)
    · have c553 : (b : Int) ≥ 12 := c553
      refine wk_iconst wm_268 wd_268_47 (by decide) ?_
      refine wk_istore wm_268 wd_268_48 (by decide +kernel) (fun lv554 s555 => ?_)
      have l556 := s555.2 0 _ l0 (by decide) (Or.inl rfl)
      have l557 := s555.2 1 _ l1 (by decide) (Or.inl rfl)
      have l558 := s555.2 2 _ l2 (by decide) (Or.inl rfl)
      have l559 := s555.2 3 _ l3 (by decide) (Or.inl rfl)
      have l560 := s555.2 4 _ l4 (by decide) (Or.inl rfl)
      have l561 := s555.1
      exact wd_50 m1 m2 m3 t0 hc hset ho hda hfit g 8 lv554 h 0 0 T hJ FD l556 l557 l558 l559 l560 l561 (by omega) (by omega) (by omega)
    · have c553 : ¬ ((b : Int) ≥ 12) := c553
      exfalso; omega
  | succ m ih =>
    intro lv h b T hJ FD l0 l1 l2 l3 l4 l5 hb hm
    obtain ⟨k562, f563, y564⟩ := wk_ref (j := 82) T.1 t0 tT_12 rfl
    rw [tU_104 y564 tA_104] at f563
    refine wk_iload wm_268 wd_268_8 l5 ?_
    refine wk_bipush wm_268 wd_268_10 (by decide) ?_
    refine wk_icmp 47 wm_268 wd_268_12 (by decide) (by unfold sv_I; omega) (by unfold sv_I; omega) (fun c565 => ?_) (fun c565 => ?_)
    · have c565 : (b : Int) ≥ 12 := c565
      refine wk_iconst wm_268 wd_268_47 (by decide) ?_
      refine wk_istore wm_268 wd_268_48 (by decide +kernel) (fun lv566 s567 => ?_)
      have l568 := s567.2 0 _ l0 (by decide) (Or.inl rfl)
      have l569 := s567.2 1 _ l1 (by decide) (Or.inl rfl)
      have l570 := s567.2 2 _ l2 (by decide) (Or.inl rfl)
      have l571 := s567.2 3 _ l3 (by decide) (Or.inl rfl)
      have l572 := s567.2 4 _ l4 (by decide) (Or.inl rfl)
      have l573 := s567.1
      exact wd_50 m1 m2 m3 t0 hc hset ho hda hfit g 8 lv566 h 0 0 T hJ FD l568 l569 l570 l571 l572 l573 (by omega) (by omega) (by omega)
    · have c565 : ¬ ((b : Int) ≥ 12) := c565
      refine wk_aload_n wm_268 wd_268_15 l0 ?_
      refine wk_getf wm_268 wd_268_16 (by decide +kernel) T.1 t0 tT_12 FD ?_
      refine wk_bipush wm_268 wd_268_19 (by decide) ?_
      refine wk_icmp 47 wm_268 wd_268_21 (by decide) (by unfold sv_I; omega) (by unfold sv_I; omega) (fun c574 => ?_) (fun c574 => ?_)
      · have c574 : (da : Int) ≥ 60 := c574
        refine wk_iconst wm_268 wd_268_47 (by decide) ?_
        refine wk_istore wm_268 wd_268_48 (by decide +kernel) (fun lv575 s576 => ?_)
        have l577 := s576.2 0 _ l0 (by decide) (Or.inl rfl)
        have l578 := s576.2 1 _ l1 (by decide) (Or.inl rfl)
        have l579 := s576.2 2 _ l2 (by decide) (Or.inl rfl)
        have l580 := s576.2 3 _ l3 (by decide) (Or.inl rfl)
        have l581 := s576.2 4 _ l4 (by decide) (Or.inl rfl)
        have l582 := s576.1
        exact wd_50 m1 m2 m3 t0 hc hset ho hda hfit g 8 lv575 h 0 0 T hJ FD l577 l578 l579 l580 l581 l582 (by omega) (by omega) (by omega)
      · have c574 : ¬ ((da : Int) ≥ 60) := c574
        refine wk_aload_n wm_268 wd_268_24 l0 ?_
        refine wk_getf wm_268 wd_268_25 (by decide +kernel) T.1 t0 tT_12 f563 ?_
        refine wk_bipush wm_268 wd_268_28 (by decide) ?_
        refine wk_aload_n wm_268 wd_268_30 l0 ?_
        refine wk_getf wm_268 wd_268_31 (by decide +kernel) T.1 t0 tT_12 FD ?_
        refine wk_imul wm_268 wd_268_34 ?_
        refine wk_iload wm_268 wd_268_35 l5 ?_
        refine wk_iadd wm_268 wd_268_37 ?_
        refine wk_bipush wm_268 wd_268_38 (by decide) ?_
        refine wk_iast wm_268 wd_268_40 sv_ty_lt T m1 tA_104 tT_104 (by decide) ⟨by omega, by omega⟩ ⟨by omega, by omega⟩ (by unfold sv_I; omega) (Or.inl rfl) (fun h583 T584 u585 g586 => ?_)
        have f587 := (u585.2 _ _).trans FD
        have f588 := (u585.2 _ _).trans f563
        refine wk_iinc wm_268 wd_268_41 (by decide +kernel) (by decide) l5 (fun lv589 s590 => ?_)
        have l591 := s590.2 0 _ l0 (by decide) (Or.inl rfl)
        have l592 := s590.2 1 _ l1 (by decide) (Or.inl rfl)
        have l593 := s590.2 2 _ l2 (by decide) (Or.inl rfl)
        have l594 := s590.2 3 _ l3 (by decide) (Or.inl rfl)
        have l595 := s590.2 4 _ l4 (by decide) (Or.inl rfl)
        have l596 := s590.1
        refine wk_goto 8 wm_268 wd_268_44 (by decide) ?_
        exact ih lv589 h583 (b + 1) T584 ((wm_J_up u585 (wm_a_ne tA_104 (by decide))).trans hJ) f587 l591 l592 l593 l594 l595 l596 (by omega) (by omega)
theorem wd_dueLine {mods : List (Nat × Nat)} {h0 : ae_H} {Q : ae_R → Prop} {k0 : Nat} {set o da c : Int} {J : Nat → Int → Int} (m1 : (104, 0) ∈ mods) (m2 : (105, 0) ∈ mods) (m3 : (12, 85) ∈ mods) (t0 : sv_ty k0 = some 12) (hc : J 1 0 = c ∧ 0 ≤ c ∧ c ≤ 8) (hset : 0 ≤ set ∧ set ≤ 255) (ho : 0 ≤ o ∧ o ≤ 3) (hda : 0 ≤ da ∧ da ≤ 999) (hfit : wm_dg J set c.toNat ≤ 12) {h : ae_H} {lv : ae_L} (T : sv_Tk sv_ty sv_tt mods h0 h) (hJ : wm_J h = J) (FD : wk_F h k0 85 = some (wk_i da)) (l0 : ae_lk lv 0 = some (wk_r k0)) (l1 : ae_lk lv 1 = some (wk_i set)) (l2 : ae_lk lv 2 = some (wk_i o)) (g : ∀ h2 x, sv_Tk sv_ty sv_tt mods h0 h2 → wk_F h2 k0 85 = some (wk_i x) → (0 ≤ x ∧ x ≤ da + 1) → Q (none, h2)) : sv_G Q 268 0 lv [] h := by
  refine wk_iconst wm_268 wd_268_0 (by decide) ?_
  refine wk_istore_n wm_268 wd_268_1 (by decide +kernel) (fun lv597 s598 => ?_)
  have l599 := s598.2 0 _ l0 (by decide) (Or.inl rfl)
  have l600 := s598.2 1 _ l1 (by decide) (Or.inl rfl)
  have l601 := s598.2 2 _ l2 (by decide) (Or.inl rfl)
  have l602 := s598.1
  refine wk_iconst wm_268 wd_268_2 (by decide) ?_
  refine wk_istore wm_268 wd_268_3 (by decide +kernel) (fun lv603 s604 => ?_)
  have l605 := s604.2 0 _ l599 (by decide) (Or.inl rfl)
  have l606 := s604.2 1 _ l600 (by decide) (Or.inl rfl)
  have l607 := s604.2 2 _ l601 (by decide) (Or.inl rfl)
  have l608 := s604.2 3 _ l602 (by decide) (Or.inl rfl)
  have l609 := s604.1
  refine wk_iconst wm_268 wd_268_5 (by decide) ?_
  refine wk_istore wm_268 wd_268_6 (by decide +kernel) (fun lv610 s611 => ?_)
  have l612 := s611.2 0 _ l605 (by decide) (Or.inl rfl)
  have l613 := s611.2 1 _ l606 (by decide) (Or.inl rfl)
  have l614 := s611.2 2 _ l607 (by decide) (Or.inl rfl)
  have l615 := s611.2 3 _ l608 (by decide) (Or.inl rfl)
  have l616 := s611.2 4 _ l609 (by decide) (Or.inl rfl)
  have l617 := s611.1
  exact wd_8 m1 m2 m3 t0 hc hset ho hda hfit g 12 lv610 h 0 T hJ FD l612 l613 l614 l615 l616 l617 (by omega) (by omega)
