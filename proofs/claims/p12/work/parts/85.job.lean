/-! PlugHall.job: the walk (wip/p2/hand/g85.py) -/
theorem tU_9 {a b : Nat} (ha : sv_ty a = some 9) (hb : sv_ty b = some 9) : a = b := wk_uq (by decide +kernel) ha hb
theorem tU_6 {a b : Nat} (ha : sv_ty a = some 6) (hb : sv_ty b = some 6) : a = b := wk_uq (by decide +kernel) ha hb
theorem wz_ty1 : sv_ty 1 = some 9 := rfl
theorem wz_typ : sv_ty 46 = some 6 := rfl
/-- what is known of a JOB in use -/
def wz_JF (h : ae_H) (a : Nat) : Prop := ∃ f w, wk_F h a 3 = some (wk_i f) ∧ wk_F h a 9 = some (wk_i w) ∧ (0 ≤ f ∧ f ≤ 6) ∧ (0 ≤ w ∧ w ≤ 8) ∧ (∀ j, 0 ≤ j → j < f → 1 ≤ wk_R h (a + 2) j ∧ wk_R h (a + 2) j ≤ 20) ∧ ∀ j, 0 ≤ j → j < w → -1 ≤ wk_R h (a + 5) j ∧ wk_R h (a + 5) j ≤ f - 1
def wz_RM : List (Nat × Nat) := [(2, 3), (2, 9), (9, 8), (9, 9), (9, 4), (9, 2), (9, 3), (9, 5), (9, 6), (9, 7), (43, 0), (41, 0), (42, 0), (40, 0), (45, 0), (44, 0), (46, 0), (47, 0)]
def wz_JM : List (Nat × Nat) := [(0, 2), (2, 3), (2, 9), (6, 8), (6, 9), (6, 1), (6, 7), (6, 10), (9, 8), (9, 9), (9, 4), (9, 1), (9, 2), (9, 3), (9, 5), (9, 6), (9, 7), (11, 10), (11, 11), (43, 0), (50, 0), (41, 0), (42, 0), (40, 0), (49, 0), (48, 0), (52, 0), (51, 0), (45, 0), (44, 0), (46, 0), (47, 0), (21, 0)]
theorem wz_own_eq {h h2 : ae_H} {a : Nat} (ho : wz_own h a) (e : ∀ j, j < 9 → j ≠ 3 → wk_F h2 a j = wk_F h a j) : wz_own h2 a := by
  obtain ⟨o0, o1, o2, o4, o5, o6, o7, o8⟩ := ho
  exact ⟨(e 0 (by decide) (by decide)).trans o0, (e 1 (by decide) (by decide)).trans o1, (e 2 (by decide) (by decide)).trans o2, (e 4 (by decide) (by decide)).trans o4, (e 5 (by decide) (by decide)).trans o5, (e 6 (by decide) (by decide)).trans o6, (e 7 (by decide) (by decide)).trans o7, (e 8 (by decide) (by decide)).trans o8⟩
/-- own rows stay where the fields of rows stay -/
theorem wz_own_fr {ms : List (Nat × Nat)} {h h2 : ae_H} {a : Nat} (ha : sv_ty a = some 2) (hk : sv_hk sv_ty sv_tt h) (hf : sv_fr sv_ty ms h h2) (hm : [0, 1, 2, 4, 5, 6, 7, 8].all (fun j => decide ((2, j) ∉ ms)) = true) (ho : wz_own h a) : wz_own h2 a :=
  wz_own_eq ho (fun j h9 h3 => wk_fr_F hk hf ha tT_2 rfl (of_decide_eq_true (List.all_eq_true.mp hm j (by
    match j, h9, h3 with
    | 0, _, _ => decide
    | 1, _, _ => decide
    | 2, _, _ => decide
    | 4, _, _ => decide
    | 5, _, _ => decide
    | 6, _, _ => decide
    | 7, _, _ => decide
    | 8, _, _ => decide))))
theorem wz_JF_eq {h h2 : ae_H} {a : Nat} (hj : wz_JF h a) (e3 : wk_F h2 a 3 = wk_F h a 3) (e9 : wk_F h2 a 9 = wk_F h a 9) (e2 : ∀ j, 0 ≤ j → wk_R h2 (a + 2) j = wk_R h (a + 2) j) (e5 : ∀ j, 0 ≤ j → wk_R h2 (a + 5) j = wk_R h (a + 5) j) : wz_JF h2 a := by
  obtain ⟨f, w, a1, a2, a3, a4, a5, a6⟩ := hj
  exact ⟨f, w, e3.trans a1, e9.trans a2, a3, a4, fun j x y => by rw [e2 j x]; exact a5 j x y, fun j x y => by rw [e5 j x]; exact a6 j x y⟩
theorem wz_rows {A B : Nat} (hAB : wz_two A B) : (sv_ty A = some 2 ∧ sv_ty (A + 2) = some 41 ∧ sv_ty (A + 5) = some 44) ∧ (sv_ty B = some 2 ∧ sv_ty (B + 2) = some 41 ∧ sv_ty (B + 5) = some 44) := by
  rcases hAB with ⟨x, y⟩ | ⟨x, y⟩ <;> subst x <;> subst y <;> exact ⟨⟨rfl, rfl, rfl⟩, ⟨rfl, rfl, rfl⟩⟩
theorem wz_two.sw {A B : Nat} (h : wz_two A B) : wz_two B A := by
  rcases h with ⟨x, y⟩ | ⟨x, y⟩
  · exact Or.inr ⟨y, x⟩
  · exact Or.inl ⟨y, x⟩
theorem wz_nin {t : Nat} (ht : wz_RM.all (fun q => !(q.1 == t)) = true) (j : Nat) : (t, j) ∉ wz_RM := fun h => by
  have := List.all_eq_true.mp ht _ h
  simp at this
/-- a pattern holds, out of its pieces -/
theorem wz_Pi {ty : Nat → Option Nat} {op : Nat → ae_H → Nat → Nat → Int → Int → Int → Int → Prop} {ρ : Nat → Int} {n : Nat} {B : List (Int × Int)} {C : List sv_L} {L : List (Nat × sv_V)} {F : List sv_F} {M : List sv_M} {Q : List sv_Q} {lv : ae_L} {h : ae_H} (h1 : wa_B ρ 0 B) (h2 : C = []) (h3 : sv_lk ty ρ B.length L lv) (h4 : wa_A (sv_Fk ty ρ B.length h) F) (h5 : M = []) (h6 : wa_A (sv_Qk ty op ρ B.length h) Q) : sv_Pk ty op ρ (n, B, C, L, F, M, Q) lv h := by
  subst h2; subst h5
  refine ⟨fun k b hb => ?_, ⟨fun c hc => absurd hc List.not_mem_nil, ⟨h3, ⟨wa_A_ok h4, fun q hq => absurd hq List.not_mem_nil, wa_A_ok h6⟩⟩⟩⟩
  have q := wa_B_ok h1 k b hb
  rw [Nat.zero_add] at q
  exact q
theorem wz_read {A B : Nat} (hAB : wz_two A B) {h : ae_H} (hk : sv_hk sv_ty sv_tt h) (FA : wk_F h 0 10 = some (wk_r A)) (FB : wk_F h 0 11 = some (wk_r B)) (oA : wz_own h A) (oB : wz_own h B) :
    sv_G (fun r => ∃ x, r.1 = some (wk_i x) ∧ (x = 0 ∨ x = 1) ∧ sv_Tk sv_ty sv_tt wz_RM h r.2 ∧ (∀ j, wk_F r.2 0 j = wk_F h 0 j) ∧ (∀ j, wk_F r.2 A j = wk_F h A j) ∧ (∀ j, wk_R r.2 (A + 2) j = wk_R h (A + 2) j) ∧ (∀ j, wk_R r.2 (A + 5) j = wk_R h (A + 5) j) ∧ (x = 1 → wz_JF r.2 B)) 35 0 (ae_args [wk_r B, wk_r 1] 0) [] h := by
  obtain ⟨⟨tA, tA2, tA5⟩, tB, tB2, tB5⟩ := wz_rows hAB
  have hX := wz_forth hAB hk FA FB oA oB
  have xB : wz_tyX A B = some 2 := by
    rcases hAB with ⟨x, y⟩ | ⟨x, y⟩ <;> subst x <;> subst y <;> rfl
  have x1 : wz_tyX A 1 = some 9 := by
    rcases hAB with ⟨x, y⟩ | ⟨x, y⟩ <;> subst x <;> rfl
  have x0 : wz_tyX A 0 = some 110 := by
    rcases hAB with ⟨x, y⟩ | ⟨x, y⟩ <;> subst x <;> rfl
  have xA : wz_tyX A A = some 111 := by
    rcases hAB with ⟨x, y⟩ | ⟨x, y⟩ <;> subst x <;> rfl
  have xA2 : wz_tyX A (A + 2) = some 113 := by
    rcases hAB with ⟨x, y⟩ | ⟨x, y⟩ <;> subst x <;> rfl
  have xA5 : wz_tyX A (A + 5) = some 116 := by
    rcases hAB with ⟨x, y⟩ | ⟨x, y⟩ <;> subst x <;> rfl
  have hB256 : B < 256 := sv_ty_lt B 2 tB
  have ev0 : sv_ev (wa_x (fun _ => 0) 0 [(B : Int), 1]) (0, [(0, 1)]) = (B : Int) := wa_ev1 _ _
  have ev1 : sv_ev (wa_x (fun _ => 0) 0 [(B : Int), 1]) (0, [(1, 1)]) = ((1 : Nat) : Int) := wa_ev1 _ _
  have hPre : sv_Pk (wz_tyX A) sv_oT (wa_x (fun _ => 0) 0 [(B : Int), 1]) svC_103.2.2.1 (ae_args [wk_r B, wk_r 1] 0) h := by
    refine wz_Pi ?_ rfl (fun i v hv => ?_) trivial rfl trivial
    · exact ⟨by show (0 : Int) ≤ (B : Int) ∧ (B : Int) ≤ 255; omega, by show (0 : Int) ≤ 1 ∧ (1 : Int) ≤ 255; omega, trivial⟩
    · have hv2 := ae_lk_mem hv
      have hv2 : (i, v) ∈ [((0 : Nat), ((1, 2, (0, [(0, 1)])) : sv_V)), (1, (1, 9, (0, [(1, 1)])))] := hv2
      rcases List.mem_cons.mp hv2 with e | e
      · cases e
        exact ⟨wk_r B, rfl, fun q hq => by cases List.mem_singleton.mp hq; decide, B, ev0, rfl, xB⟩
      · cases List.mem_singleton.mp e
        exact ⟨wk_r 1, rfl, fun q hq => by cases List.mem_singleton.mp hq; decide, 1, ev1, rfl, x1⟩
  refine sv_G_mono (fun r hr => ?_) (svX_read (ty := wz_tyX A) wz_lt (wa_x (fun _ => 0) 0 [(B : Int), 1]) (ae_args [wk_r B, wk_r 1] 0) h hX hPre)
  · obtain ⟨P, hPm, ρ', hag, hPk, hT, -⟩ := hr
    have hT2 : sv_Tk (wz_tyX A) sv_ttX wz_RM h r.2 := hT
    have T2 : sv_Tk sv_ty sv_tt wz_RM h r.2 := ⟨wz_back hAB hT2.1, wz_fr hAB (by decide) hT2.2⟩
    have eB : ρ' 0 = (B : Int) := hag 0 (by decide)
    have F0 : ∀ j, wk_F r.2 0 j = wk_F h 0 j := fun j => wk_fr_F hX hT2.2 x0 rfl rfl (wz_nin (by decide) j)
    have FAj : ∀ j, wk_F r.2 A j = wk_F h A j := fun j => wk_fr_F hX hT2.2 xA rfl rfl (wz_nin (by decide) j)
    have R2 : ∀ j, wk_R r.2 (A + 2) j = wk_R h (A + 2) j := fun j => wk_fr_R hX hT2.2 xA2 rfl rfl (by decide) j
    have R5 : ∀ j, wk_R r.2 (A + 5) j = wk_R h (A + 5) j := fun j => wk_fr_R hX hT2.2 xA5 rfl rfl (by decide) j
    have eP : P = wa_p svC_103 0 ∨ P = wa_p svC_103 1 := by
      have e : svC_103.2.2.2 = [wa_p svC_103 0, wa_p svC_103 1] := rfl
      rw [e] at hPm
      rcases List.mem_cons.mp hPm with z | z
      · exact Or.inl z
      · exact Or.inr (List.mem_singleton.mp z)
    have res : ∀ (P : sv_P), ae_lk P.2.2.2.1 1000 = some (0, 0, (0, [(2, 1)])) → sv_Pk (wz_tyX A) sv_oT ρ' P (sv_rl r.1) r.2 → r.1 = some (wk_i (ρ' 2)) := fun P e hPk => by
      obtain ⟨c, c1, -, c2, -⟩ := hPk.2.2.1 1000 _ e
      have c2 : c = .inl (.inl (sv_u (sv_ev ρ' (0, [(2, 1)])))) := c2
      rw [wa_ev1] at c2
      cases hr1 : r.1 with
      | none => rw [hr1] at c1; cases c1
      | some d =>
        rw [hr1] at c1
        have c1 : cond (Nat.beq 1000 1000) (some d) none = some c := c1
        rw [Nat.beq_refl, cond_true] at c1
        cases c1
        rw [c2]
    rcases eP with e | e
    · subst e
      have b2 : (0 : Int) ≤ ρ' 2 ∧ ρ' 2 ≤ 0 := hPk.1 2 _ rfl
      exact ⟨ρ' 2, res _ rfl hPk, Or.inl (by omega), T2, F0, FAj, R2, R5, fun z => by omega⟩
    · subst e
      have b2 : (1 : Int) ≤ ρ' 2 ∧ ρ' 2 ≤ 1 := hPk.1 2 _ rfl
      have b4 : (0 : Int) ≤ ρ' 4 ∧ ρ' 4 ≤ 6 := hPk.1 4 _ rfl
      have b6 : (0 : Int) ≤ ρ' 6 ∧ ρ' 6 ≤ 8 := hPk.1 6 _ rfl
      refine ⟨ρ' 2, res _ rfl hPk, Or.inr (by omega), T2, F0, FAj, R2, R5, fun _ => ?_⟩
      have oB2 := wz_own_fr tB hk T2.2 (by decide) oB
      have fld : ∀ {j : Nat} {V : sv_V}, ((0, 2, j), V) ∈ (wa_p svC_103 1).2.2.2.2.1 → ∃ c, wk_F r.2 B j = some c ∧ sv_vk (wz_tyX A) ρ' (wa_p svC_103 1).2.1.length V c := fun {j V} hm => by
        obtain ⟨-, k, ci, fs, c, y1, y2, y3, y4, y5⟩ := hPk.2.2.2.1 _ hm
        have y1 : ρ' 0 = k := y1
        have ek : k = B := by omega
        subst ek
        exact ⟨c, by rw [wk_F_of y3]; exact y4, y5⟩
      obtain ⟨c1, g1, -, k1, v1, v2, -⟩ := fld (j := 1) (V := (1, 41, (0, [(3, 1)]))) (List.mem_cons_self ..)
      obtain ⟨c3, g3, -, w3, -⟩ := fld (j := 3) (V := (0, 0, (0, [(4, 1)]))) (List.mem_cons_of_mem _ (List.mem_cons_self ..))
      obtain ⟨c5, g5, -, k5, v5, v6, -⟩ := fld (j := 5) (V := (1, 44, (0, [(5, 1)]))) (List.mem_cons_of_mem _ (List.mem_cons_of_mem _ (List.mem_cons_self ..)))
      obtain ⟨c9, g9, -, w9, -⟩ := fld (j := 9) (V := (0, 0, (0, [(6, 1)]))) (List.mem_cons_of_mem _ (List.mem_cons_of_mem _ (List.mem_cons_of_mem _ (List.mem_cons_self ..))))
      have w3 : c3 = .inl (.inl (sv_u (sv_ev ρ' (0, [(4, 1)])))) := w3
      have w9 : c9 = .inl (.inl (sv_u (sv_ev ρ' (0, [(6, 1)])))) := w9
      rw [wa_ev1] at w3 w9
      have v1 : sv_ev ρ' (0, [(3, 1)]) = k1 := v1
      have v5 : sv_ev ρ' (0, [(5, 1)]) = k5 := v5
      rw [wa_ev1] at v1 v5
      have o1 := oB2.2.1
      rw [g1, v2] at o1
      have e1 : k1 = B + 2 := by
        have := Option.some.inj o1
        have := Sum.inr.inj this
        have := Sum.inr.inj this
        exact Option.some.inj this
      have o5 := oB2.2.2.2.2.1
      rw [g5, v6] at o5
      have e5 : k5 = B + 5 := by
        have := Option.some.inj o5
        have := Sum.inr.inj this
        have := Sum.inr.inj this
        exact Option.some.inj this
      obtain ⟨A1, gA1, -⟩ := sv_hk_a T2.1 tB2 tT_41 rfl
      obtain ⟨A2, gA2, -⟩ := sv_hk_a T2.1 tB5 tT_44 rfl
      obtain ⟨-, q1, q2, z1, -, -, -, Q0⟩ := hPk.2.2.2.2.2 _ (List.mem_cons_self ..)
      obtain ⟨-, q3, q4, z3, -, -, -, Q1⟩ := hPk.2.2.2.2.2 _ (List.mem_cons_of_mem _ (List.mem_cons_self ..))
      have z1 : ρ' 3 = q1 := z1
      have z3 : ρ' 5 = q3 := z3
      have eq1 : q1 = B + 2 := by omega
      have eq3 : q3 = B + 5 := by omega
      subst eq1 eq3
      refine ⟨ρ' 4, ρ' 6, by rw [g3, w3], by rw [g9, w9], b4, b6, fun j a b => ?_, fun j a b => ?_⟩
      · have q := Q0 0 6 A1 gA1 j.toNat j.toNat (by rw [Int.toNat_of_nonneg a]; show j < sv_ev ρ' (0, [(4, 1)]); rw [wa_ev1]; exact b) (by show ((j.toNat : Nat) : Int) = 1 * ((j.toNat : Nat) : Int) + (0 + 0); omega) (by omega)
        rw [wk_R_of gA1]
        exact q
      · have q := Q1 0 8 A2 gA2 j.toNat j.toNat (by rw [Int.toNat_of_nonneg a]; show j < sv_ev ρ' (0, [(6, 1)]); rw [wa_ev1]; exact b) (by show ((j.toNat : Nat) : Int) = 1 * ((j.toNat : Nat) : Int) + (0 + 0); omega) (by omega)
        rw [wk_R_of gA2]
        have q2 : sv_g (ae_rd 32 A2 j.toNat) ≤ -1 + (1 * ρ' 4 + 0) := q.2
        exact ⟨q.1, by omega⟩
/-- what stands of the two JOBS -/
def wz_J (h : ae_H) : Prop := ∃ A B, wz_two A B ∧ wk_F h 0 10 = some (wk_r A) ∧ wk_F h 0 11 = some (wk_r B) ∧ wz_own h A ∧ wz_own h B ∧ wz_JF h A
theorem wm_35 : ae_m 35 = some (wk_M 35) := rfl
theorem wm_80 : ae_m 80 = some (wk_M 80) := rfl
theorem wz_part {h : ae_H} {B : Nat} (hk : sv_hk sv_ty sv_tt h) (hB : B = 96 ∨ B = 105) (oB : wz_own h B) (jB : wz_JF h B) : sv_G (fun r => r.1 = none ∧ sv_Tk sv_ty sv_tt svC_111.2.1 h r.2) 80 0 (ae_args [wk_r 46, wk_r B] 0) [] h := by
  have t3 : sv_ty B = some 2 ∧ sv_ty (B + 2) = some 41 ∧ sv_ty (B + 5) = some 44 := by rcases hB with e | e <;> subst e <;> exact ⟨rfl, rfl, rfl⟩
  obtain ⟨tB, tB2, tB5⟩ := t3
  obtain ⟨f, w, j1, j2, j3, j4, j5, j6⟩ := jB
  obtain ⟨A1, gA1, -⟩ := sv_hk_a hk tB2 tT_41 rfl
  obtain ⟨A2, gA2, -⟩ := sv_hk_a hk tB5 tT_44 rfl
  have hb : B ≤ 105 := by omega
  have hPre : sv_Pk sv_ty sv_op (wa_x (fun _ => 0) 0 [46, (B : Int), ((B + 2 : Nat) : Int), f, ((B + 5 : Nat) : Int), w]) svC_111.2.2.1 (ae_args [wk_r 46, wk_r B] 0) h := by
    refine wz_Pi ?_ rfl (fun i v hv => ?_) ⟨?_, ?_, ?_, ?_, trivial⟩ rfl ⟨?_, ?_, trivial⟩
    · exact ⟨by show (0 : Int) ≤ 46 ∧ (46 : Int) ≤ 255; omega, by show (0 : Int) ≤ (B : Int) ∧ (B : Int) ≤ 255; omega, by show (0 : Int) ≤ ((B + 2 : Nat) : Int) ∧ ((B + 2 : Nat) : Int) ≤ 255; omega, j3, by show (0 : Int) ≤ ((B + 5 : Nat) : Int) ∧ ((B + 5 : Nat) : Int) ≤ 255; omega, j4, trivial⟩
    · have hv2 : (i, v) ∈ [((0 : Nat), ((1, 6, (0, [(0, 1)])) : sv_V)), (1, (1, 2, (0, [(1, 1)])))] := ae_lk_mem hv
      rcases List.mem_cons.mp hv2 with e | e
      · cases e
        exact ⟨wk_r 46, rfl, fun q hq => by cases List.mem_singleton.mp hq; decide, 46, wa_ev1 _ _, rfl, wz_typ⟩
      · cases List.mem_singleton.mp e
        exact ⟨wk_r B, rfl, fun q hq => by cases List.mem_singleton.mp hq; decide, B, wa_ev1 _ _, rfl, tB⟩
    · exact wa_F1 (k := B) (k2 := B + 2) (by decide) (by decide) rfl tB rfl tB2 oB.2.1
    · exact wa_F0 (k := B) (by decide) (by decide) rfl tB j1 (by show sv_I f; unfold sv_I; omega)
    · exact wa_F1 (k := B) (k2 := B + 5) (by decide) (by decide) rfl tB rfl tB5 oB.2.2.2.2.1
    · exact wa_F0 (k := B) (by decide) (by decide) rfl tB j2 (by show sv_I w; unfold sv_I; omega)
    · refine ⟨⟨by decide, by decide, sv_wf0 _ _, fun q hq => by cases List.mem_singleton.mp hq; decide, sv_wf0 _ _, sv_wf0 _ _⟩, B + 2, B + 2, rfl, tB2, rfl, tB2, fun tag len Az hg j i hj hi hl => ?_⟩
      rw [gA1] at hg
      cases hg
      have hj : (j : Int) < sv_ev (wa_x (fun _ => 0) 0 [46, (B : Int), ((B + 2 : Nat) : Int), f, ((B + 5 : Nat) : Int), w]) (0, [(3, 1)]) := hj
      rw [wa_ev1] at hj
      have hj : (j : Int) < f := hj
      have hi : (i : Int) = 1 * (j : Int) + (0 + 0) := hi
      have q := j5 j (by omega) hj
      rw [wk_R_of gA1, Int.toNat_natCast, show j = i by omega] at q
      exact q
    · refine ⟨⟨by decide, by decide, sv_wf0 _ _, fun q hq => by cases List.mem_singleton.mp hq; decide, sv_wf0 _ _, fun q hq => by cases List.mem_singleton.mp hq; decide⟩, B + 5, B + 5, rfl, tB5, rfl, tB5, fun tag len Az hg j i hj hi hl => ?_⟩
      rw [gA2] at hg
      cases hg
      have hj : (j : Int) < sv_ev (wa_x (fun _ => 0) 0 [46, (B : Int), ((B + 2 : Nat) : Int), f, ((B + 5 : Nat) : Int), w]) (0, [(5, 1)]) := hj
      rw [wa_ev1] at hj
      have hj : (j : Int) < w := hj
      have hi : (i : Int) = 1 * (j : Int) + (0 + 0) := hi
      have q := j6 j (by omega) hj
      rw [wk_R_of gA2, Int.toNat_natCast, show j = i by omega] at q
      exact ⟨q.1, by show _ ≤ (-1 : Int) + (1 * f + 0); omega⟩
  refine sv_G_mono (fun r hr => ?_) (svC_111_ok (wa_x (fun _ => 0) 0 [46, (B : Int), ((B + 2 : Nat) : Int), f, ((B + 5 : Nat) : Int), w]) (ae_args [wk_r 46, wk_r B] 0) h hk hPre)
  · obtain ⟨P, hPm, ρ', hag, hPk, hT, hnone⟩ := hr
    have e : svC_111.2.2.2 = [wa_p svC_111 0] := rfl
    rw [e] at hPm
    have ep := List.mem_singleton.mp hPm
    subst ep
    exact ⟨hnone rfl, hT⟩

theorem wz_job {h : ae_H} {Q : ae_R → Prop} {lv : ae_L} (hk : sv_hk sv_ty sv_tt h) (hJ : wz_J h) (l0 : ae_lk lv 0 = some (wk_r 0)) (g : ∀ h2 x, sv_I x → sv_Tk sv_ty sv_tt wz_JM h h2 → wz_J h2 → wk_F h2 1 1 = some (wk_i 0) → Q (some (wk_i x), h2)) : sv_G Q 163 0 lv [] h := by
  obtain ⟨A, B, hAB, FA, FB, oA, oB, jA⟩ := hJ
  obtain ⟨⟨tA, tA2, tA5⟩, tB, tB2, tB5⟩ := wz_rows hAB
  have T : sv_Tk sv_ty sv_tt wz_JM h h := ⟨hk, sv_fr.rf h⟩
  obtain ⟨k1, f2, y3⟩ := wk_ref (j := 0) T.1 wz_ty0 tT_11 rfl
  rw [tU_9 y3 wz_ty1] at f2
  obtain ⟨k4, f5, y6⟩ := wk_ref (j := 5) T.1 wz_ty0 tT_11 rfl
  rw [tU_6 y6 wz_typ] at f5
  refine wk_aload_n wm_163 wd_163_0 l0 ?_
  refine wk_getf wm_163 wd_163_1 (by decide +kernel) T.1 wz_ty0 tT_11 FB ?_
  refine wk_aload_n wm_163 wd_163_4 l0 ?_
  refine wk_getf wm_163 wd_163_5 (by decide +kernel) T.1 wz_ty0 tT_11 f2 ?_
  refine wk_call (Or.inr ⟨rfl, rfl⟩) wm_163 wd_163_8 (by decide +kernel) wm_35 (by decide +kernel) rfl rfl (wk_rcv T.1 tB tT_2) ?_
  refine sv_G_mono (fun r hr => ?_) (wz_read hAB hk FA FB oA oB)
  obtain ⟨r1, h2⟩ := r
  obtain ⟨x, er, hx, T2, f0, fA, rA2, rA5, jB⟩ := hr
  have er : r1 = some (wk_i x) := er
  subst er
  have T3 : sv_Tk sv_ty sv_tt wz_JM h h2 := ⟨T2.1, T2.2.wd (by decide)⟩
  show sv_G Q 163 11 lv [wk_i x] h2
  have f7 := (f0 _).trans FA
  have f8 := (f0 _).trans FB
  have f9 := (f0 _).trans f2
  have f10 := (f0 _).trans f5
  have oA2 := wz_own_eq oA (fun j _ _ => fA j)
  have oB2 := wz_own_fr tB hk T2.2 (by decide) oB
  have jA2 : wz_JF h2 A := wz_JF_eq jA (fA 3) (fA 9) (fun j _ => rA2 j) (fun j _ => rA5 j)
  obtain ⟨x11, f12, i13, i14, i15⟩ := wk_int (j := 9) T3.1 wz_ty1 tT_9 rfl
  unfold sv_I at i13
  refine wk_istore_n wm_163 wd_163_11 (by decide +kernel) (fun lv16 s17 => ?_)
  have l18 := s17.2 0 _ l0 (by decide) (Or.inl rfl)
  have l19 := s17.1
  refine wk_aload_n wm_163 wd_163_12 l18 ?_
  refine wk_getf wm_163 wd_163_13 (by decide +kernel) T3.1 wz_ty0 tT_11 f9 ?_
  refine wk_iconst wm_163 wd_163_16 (by decide) ?_
  refine wk_putf (j := 1) (fk := 0) (ft := (0, 0, 740, 0)) wm_163 wd_163_17 (by decide +kernel) sv_ty_lt T3 (by decide) wz_ty1 tT_9 rfl (by decide +kernel) rfl rfl ⟨0, rfl, by unfold sv_I; omega, by show (0 : Int) ≤ 0; omega, by show 0 ≤ (740 : Int); omega⟩ (fun h20 T21 u22 g23 => ?_)
  have f24 := ((u22.2 _ _).trans (if_neg (fun z => wk_ne wz_ty0 wz_ty1 (by decide) z.1))).trans f7
  have f25 := ((u22.2 _ _).trans (if_neg (fun z => wk_ne wz_ty0 wz_ty1 (by decide) z.1))).trans f8
  have f26 := ((u22.2 _ _).trans (if_neg (fun z => wk_ne wz_ty0 wz_ty1 (by decide) z.1))).trans f9
  have f27 := ((u22.2 _ _).trans (if_neg (fun z => wk_ne wz_ty0 wz_ty1 (by decide) z.1))).trans f10
  have f28 := ((u22.2 _ _).trans (if_neg (fun z => absurd z.2 (by decide)))).trans f12
  have f29 := (u22.2 1 1).trans (if_pos ⟨rfl, rfl⟩)
  have oA3 : wz_own h20 A := wz_own_eq oA2 (fun j _ _ => (u22.2 _ _).trans (if_neg (fun z => wk_ne tA wz_ty1 (by decide) z.1)))
  have oB3 : wz_own h20 B := wz_own_eq oB2 (fun j _ _ => (u22.2 _ _).trans (if_neg (fun z => wk_ne tB wz_ty1 (by decide) z.1)))
  have jA3 : wz_JF h20 A := wz_JF_eq jA2 ((u22.2 _ _).trans (if_neg (fun z => wk_ne tA wz_ty1 (by decide) z.1))) ((u22.2 _ _).trans (if_neg (fun z => wk_ne tA wz_ty1 (by decide) z.1))) (fun j _ => u22.1 _ _) (fun j _ => u22.1 _ _)
  have jB3 : x = 1 → wz_JF h20 B := fun z => wz_JF_eq (jB z) ((u22.2 _ _).trans (if_neg (fun z => wk_ne tB wz_ty1 (by decide) z.1))) ((u22.2 _ _).trans (if_neg (fun z => wk_ne tB wz_ty1 (by decide) z.1))) (fun j _ => u22.1 _ _) (fun j _ => u22.1 _ _)
  refine wk_iload_n wm_163 wd_163_20 l19 ?_
  refine wk_if 34 wm_163 wd_163_21 (by decide) (by unfold sv_I; omega) (fun c30 => ?_) (fun c30 => ?_)
  · have c30 : (x : Int) ≠ 0 := c30
    refine wk_aload_n wm_163 wd_163_34 l18 ?_
    refine wk_getf wm_163 wd_163_35 (by decide +kernel) T21.1 wz_ty0 tT_11 f25 ?_
    refine wk_astore_n wm_163 wd_163_38 (by decide +kernel) (fun lv31 s32 => ?_)
    have l33 := s32.2 0 _ l18 (by decide) (Or.inl rfl)
    have l34 := s32.2 1 _ l19 (by decide) (Or.inl rfl)
    have l35 := s32.1
    refine wk_aload_n wm_163 wd_163_39 l33 ?_
    refine wk_aload_n wm_163 wd_163_40 l33 ?_
    refine wk_getf wm_163 wd_163_41 (by decide +kernel) T21.1 wz_ty0 tT_11 f24 ?_
    refine wk_putf (j := 11) (fk := 4) (ft := (1, 0, 0, 2)) wm_163 wd_163_44 (by decide +kernel) sv_ty_lt T21 (by decide) wz_ty0 tT_11 rfl (by decide +kernel) rfl rfl ⟨_, rfl, tA⟩ (fun h36 T37 u38 g39 => ?_)
    have f40 := ((u38.2 _ _).trans (if_neg (fun z => absurd z.2 (by decide)))).trans f24
    have f41 := (u38.2 _ _).trans (if_pos ⟨rfl, rfl⟩)
    have f42 := ((u38.2 _ _).trans (if_neg (fun z => absurd z.2 (by decide)))).trans f26
    have f43 := ((u38.2 _ _).trans (if_neg (fun z => absurd z.2 (by decide)))).trans f27
    have f44 := ((u38.2 _ _).trans (if_neg (fun z => wk_ne wz_ty1 wz_ty0 (by decide) z.1))).trans f28
    have f45 := ((u38.2 _ _).trans (if_neg (fun z => wk_ne wz_ty1 wz_ty0 (by decide) z.1))).trans f29
    refine wk_aload_n wm_163 wd_163_47 l33 ?_
    refine wk_aload_n wm_163 wd_163_48 l35 ?_
    refine wk_putf (j := 10) (fk := 4) (ft := (1, 0, 0, 2)) wm_163 wd_163_49 (by decide +kernel) sv_ty_lt T37 (by decide) wz_ty0 tT_11 rfl (by decide +kernel) rfl rfl ⟨_, rfl, tB⟩ (fun h46 T47 u48 g49 => ?_)
    have f50 := (u48.2 _ _).trans (if_pos ⟨rfl, rfl⟩)
    have f51 := ((u48.2 _ _).trans (if_neg (fun z => absurd z.2 (by decide)))).trans f41
    have f52 := ((u48.2 _ _).trans (if_neg (fun z => absurd z.2 (by decide)))).trans f42
    have f53 := ((u48.2 _ _).trans (if_neg (fun z => absurd z.2 (by decide)))).trans f43
    have f54 := ((u48.2 _ _).trans (if_neg (fun z => wk_ne wz_ty1 wz_ty0 (by decide) z.1))).trans f44
    have f55 := ((u48.2 _ _).trans (if_neg (fun z => wk_ne wz_ty1 wz_ty0 (by decide) z.1))).trans f45
    have jB3 := jB3 (by omega)
    have oA5 : wz_own h46 A := wz_own_eq oA3 (fun j _ _ => ((u48.2 _ _).trans (if_neg (fun z => wk_ne tA wz_ty0 (by decide) z.1))).trans ((u38.2 _ _).trans (if_neg (fun z => wk_ne tA wz_ty0 (by decide) z.1))))
    have oB5 : wz_own h46 B := wz_own_eq oB3 (fun j _ _ => ((u48.2 _ _).trans (if_neg (fun z => wk_ne tB wz_ty0 (by decide) z.1))).trans ((u38.2 _ _).trans (if_neg (fun z => wk_ne tB wz_ty0 (by decide) z.1))))
    have jB5 : wz_JF h46 B := wz_JF_eq jB3 (((u48.2 _ _).trans (if_neg (fun z => wk_ne tB wz_ty0 (by decide) z.1))).trans ((u38.2 _ _).trans (if_neg (fun z => wk_ne tB wz_ty0 (by decide) z.1)))) (((u48.2 _ _).trans (if_neg (fun z => wk_ne tB wz_ty0 (by decide) z.1))).trans ((u38.2 _ _).trans (if_neg (fun z => wk_ne tB wz_ty0 (by decide) z.1)))) (fun j _ => (u48.1 _ _).trans (u38.1 _ _)) (fun j _ => (u48.1 _ _).trans (u38.1 _ _))
    refine wk_aload_n wm_163 wd_163_52 l33 ?_
    refine wk_getf wm_163 wd_163_53 (by decide +kernel) T47.1 wz_ty0 tT_11 f53 ?_
    refine wk_aload_n wm_163 wd_163_56 l33 ?_
    refine wk_getf wm_163 wd_163_57 (by decide +kernel) T47.1 wz_ty0 tT_11 f50 ?_
    refine wk_call (Or.inr ⟨rfl, rfl⟩) wm_163 wd_163_60 (by decide +kernel) wm_80 (by decide +kernel) rfl rfl (wk_rcv T47.1 wz_typ tT_6) ?_
    refine sv_G_mono (fun r hr => ?_) (wz_part T47.1 (by rcases hAB with ⟨x, y⟩ | ⟨x, y⟩ <;> omega) oB5 jB5)
    obtain ⟨r1, h7⟩ := r
    obtain ⟨er, T7⟩ := hr
    have er : r1 = none := er
    subst er
    have T8 : sv_Tk sv_ty sv_tt wz_JM h h7 := ⟨T7.1, T47.2.tr (T7.2.wd (by decide))⟩
    show sv_G Q 163 63 lv31 [] h7
    have oA7 := wz_own_fr tA T47.1 T7.2 (by decide) oA5
    have oB7 := wz_own_fr tB T47.1 T7.2 (by decide) oB5
    have jB7 : wz_JF h7 B := wz_JF_eq jB5 (wk_fr_F T47.1 T7.2 tB tT_2 rfl (by decide)) (wk_fr_F T47.1 T7.2 tB tT_2 rfl (by decide)) (fun j _ => wk_fr_R T47.1 T7.2 tB2 tT_41 rfl (by decide) j) (fun j _ => wk_fr_R T47.1 T7.2 tB5 tT_44 rfl (by decide) j)
    have f56 := (wk_fr_F T47.1 T7.2 wz_ty0 tT_11 rfl (by decide)).trans f50
    have f57 := (wk_fr_F T47.1 T7.2 wz_ty0 tT_11 rfl (by decide)).trans f51
    have f58 := (wk_fr_F T47.1 T7.2 wz_ty0 tT_11 rfl (by decide)).trans f52
    have f59 := (wk_fr_F T47.1 T7.2 wz_ty0 tT_11 rfl (by decide)).trans f53
    have f61 := (wk_fr_F T47.1 T7.2 wz_ty1 tT_9 rfl (by decide)).trans f55
    obtain ⟨fB, wB, g1, g2, g3, g4, g5, g6⟩ := jB7
    refine wk_aload_n wm_163 wd_163_63 l33 ?_
    refine wk_getf wm_163 wd_163_64 (by decide +kernel) T8.1 wz_ty0 tT_11 f56 ?_
    refine wk_getf wm_163 wd_163_67 (by decide +kernel) T8.1 tB tT_2 g2 ?_
    refine wk_ireturn wm_163 wd_163_70 rfl ?_
    exact g _ _ (by unfold sv_I; omega) T8 ⟨B, A, hAB.sw, f56, f57, oB7, oA7, fB, wB, g1, g2, g3, g4, g5, g6⟩ f61
  · have c30 : ¬ ((x : Int) ≠ 0) := c30
    refine wk_iconst wm_163 wd_163_24 (by decide) ?_
    refine wk_aload_n wm_163 wd_163_25 l18 ?_
    refine wk_getf wm_163 wd_163_26 (by decide +kernel) T21.1 wz_ty0 tT_11 f26 ?_
    refine wk_getf wm_163 wd_163_29 (by decide +kernel) T21.1 wz_ty1 tT_9 f28 ?_
    refine wk_isub wm_163 wd_163_32 ?_
    refine wk_ireturn wm_163 wd_163_33 rfl ?_
    exact g _ _ (by unfold sv_I; omega) T21 ⟨A, B, hAB, f24, f25, oA3, oB3, jA3⟩ f29
