/-! THE WALKS' ROWS OVER ANY PREDICATE THAT IS CLOSED UNDER STEPS (printed by wip/p2/law/g88.py) -/
def wt_cl (M : ae_M) (G : Nat → ae_L → List ae_V → ae_H → Prop) : Prop :=
  (∀ (pc pc' : Nat) (i : Instr) (len : Nat) (lv lv' : ae_L) (st st' : List ae_V) (h h' : ae_H), decode M.2.2.1 pc = .ok (i, len) → Nat.beq len (ae_ln i len) = true → (∀ (K : ae_K) (C : Nat → List ae_V → ae_H → Option ae_R), ae_step i M pc 0 0 lv st h K C = K pc' 0 0 lv' st' h') → G pc' lv' st' h' → G pc lv st h) ∧
  ∀ (pc pc' : Nat) (i : Instr) (len mj : Nat) (lv : ae_L) (st as rest : List ae_V) (h : ae_H), decode M.2.2.1 pc = .ok (i, len) → Nat.beq len (ae_ln i len) = true → (∀ (K : ae_K) (C : Nat → List ae_V → ae_H → Option ae_R) (r : ae_R), C mj as h = some r → ae_step i M pc 0 0 lv st h K C = K pc' 0 0 lv (sv_push r.1 rest) r.2) → sv_G (fun r => G pc' lv (sv_push r.1 rest) r.2) mj 0 (ae_args as 0) [] h → G pc lv st h
section
variable {M : ae_M} {G : Nat → ae_L → List ae_V → ae_H → Prop} {pc pc' : Nat} {i : Instr} {len : Nat} {lv lv' : ae_L} {st st' : List ae_V} {h h' : ae_H}
theorem wt_s (hG : wt_cl M G) (hd : decode M.2.2.1 pc = .ok (i, len)) (hl : Nat.beq len (ae_ln i len) = true) (hs : ∀ (K : ae_K) (C : Nat → List ae_V → ae_H → Option ae_R), ae_step i M pc 0 0 lv st h K C = K pc' 0 0 lv' st' h') (g : G pc' lv' st' h') : G pc lv st h := hG.1 _ _ _ _ _ _ _ _ _ _ hd hl hs g
theorem wt_c {mj : Nat} {as rest : List ae_V} (hG : wt_cl M G) (hd : decode M.2.2.1 pc = .ok (i, len)) (hl : Nat.beq len (ae_ln i len) = true) (hs : ∀ (K : ae_K) (C : Nat → List ae_V → ae_H → Option ae_R) (r : ae_R), C mj as h = some r → ae_step i M pc 0 0 lv st h K C = K pc' 0 0 lv (sv_push r.1 rest) r.2) (g : sv_G (fun r => G pc' lv (sv_push r.1 rest) r.2) mj 0 (ae_args as 0) [] h) : G pc lv st h := hG.2 _ _ _ _ _ _ _ _ _ _ hd hl hs g
end
section
variable {ty : Nat → Option Nat} {tt : List sv_T} {M : ae_M} {G : Nat → ae_L → List ae_V → ae_H → Prop} {pc : Nat} {lv : ae_L} {st : List ae_V} {h : ae_H} {x y : Int}
theorem wt_iconst {n : Int} (hG : wt_cl M G) (hd : decode M.2.2.1 pc = .ok (.iconst n, 1)) (h1 : -1 ≤ n ∧ n ≤ 5) (g : G (pc + 1) lv (wk_i n :: st) h) : G pc lv st h :=
  wt_s hG hd rfl (fun K C => by
    show cond (and (decide (-1 ≤ n)) (decide (n ≤ 5))) (ae_f (ae_u n) fun z => K (Nat.add pc 1) 0 0 lv (ae_i z :: st) h) none = _
    rw [decide_eq_true h1.1, decide_eq_true h1.2, ae_f_eq, sv_u_ae (by omega) (by omega)]; rfl) g
theorem wt_iload_n {k : Fin 4} (hG : wt_cl M G) (hd : decode M.2.2.1 pc = .ok (.iload_n k, 1)) (hv : ae_lk lv k.val = some (wk_i x)) (g : G (pc + 1) lv (wk_i x :: st) h) : G pc lv st h :=
  wt_s hG hd rfl (fun K C => by
    show ae_iload lv k.val (fun v => K (Nat.add pc 1) 0 0 lv (v :: st) h) = _
    unfold ae_iload; rw [hv]) g
theorem wt_aload_n {k : Fin 4} {o : Option Nat} (hG : wt_cl M G) (hd : decode M.2.2.1 pc = .ok (.aload_n k, 1)) (hv : ae_lk lv k.val = some (.inr (.inr o))) (g : G (pc + 1) lv (.inr (.inr o) :: st) h) : G pc lv st h :=
  wt_s hG hd rfl (fun K C => by
    show ae_aload lv k.val (fun v => K (Nat.add pc 1) 0 0 lv (v :: st) h) = _
    unfold ae_aload; rw [hv]) g
theorem wt_iadd (hG : wt_cl M G) (hd : decode M.2.2.1 pc = .ok (.iadd, 1)) (g : G (pc + 1) lv (wk_i (x + y) :: st) h) : G pc lv (wk_i y :: wk_i x :: st) h :=
  wt_s hG hd rfl (fun K C => by
    show ae_f (ae_add (sv_u x) (sv_u y)) (fun z => K (Nat.add pc 1) 0 0 lv (ae_i z :: st) h) = _
    rw [ae_f_eq, sv_add_u]; rfl) g
theorem wt_isub (hG : wt_cl M G) (hd : decode M.2.2.1 pc = .ok (.isub, 1)) (g : G (pc + 1) lv (wk_i (x - y) :: st) h) : G pc lv (wk_i y :: wk_i x :: st) h :=
  wt_s hG hd rfl (fun K C => by
    show ae_f (ae_sub (sv_u x) (sv_u y)) (fun z => K (Nat.add pc 1) 0 0 lv (ae_i z :: st) h) = _
    rw [ae_f_eq, sv_sub_u]; rfl) g
theorem wt_icmp {c : Jvm.ClassFile.Cond} {off : Int} (t : Nat) (hG : wt_cl M G) (hd : decode M.2.2.1 pc = .ok (.if_icmp c off, 3)) (ht : (pc : Int) + off = (t : Int)) (hx : sv_I x) (hy : sv_I y) (g1 : sv_holds c x y → G t lv st h) (g2 : ¬ sv_holds c x y → G (pc + 3) lv st h) : G pc lv (wk_i y :: wk_i x :: st) h := by
  obtain ⟨c1, c2⟩ := sv_cmp_u (c := c) hx hy
  by_cases hc : sv_holds c x y
  · refine wt_s hG hd rfl (fun K C => ?_) (g1 hc)
    show (match ae_cmp c (ae_rg (.inl (sv_u x))) (ae_rg (.inl (sv_u y))) with
      | some true => ae_tgt pc off fun t => K t 0 0 lv st h
      | some false => ae_tgt pc off fun _ => K (Nat.add pc 3) 0 0 lv st h
      | none => none) = _
    rw [c1 hc]
    show ae_tgt pc off (fun t => K t 0 0 lv st h) = _
    unfold ae_tgt; rw [ht]
  · refine wt_s hG hd rfl (fun K C => ?_) (g2 hc)
    show (match ae_cmp c (ae_rg (.inl (sv_u x))) (ae_rg (.inl (sv_u y))) with
      | some true => ae_tgt pc off fun t => K t 0 0 lv st h
      | some false => ae_tgt pc off fun _ => K (Nat.add pc 3) 0 0 lv st h
      | none => none) = _
    rw [c2 hc]
    show ae_tgt pc off (fun _ => K (Nat.add pc 3) 0 0 lv st h) = _
    unfold ae_tgt; rw [ht]
theorem wt_if {c : Jvm.ClassFile.Cond} {off : Int} (t : Nat) (hG : wt_cl M G) (hd : decode M.2.2.1 pc = .ok (.ifCond c off, 3)) (ht : (pc : Int) + off = (t : Int)) (hx : sv_I x) (g1 : sv_holds c x 0 → G t lv st h) (g2 : ¬ sv_holds c x 0 → G (pc + 3) lv st h) : G pc lv (wk_i x :: st) h := by
  obtain ⟨c1, c2⟩ := sv_cmp_0 (c := c) hx
  by_cases hc : sv_holds c x 0
  · refine wt_s hG hd rfl (fun K C => ?_) (g1 hc)
    show (match ae_cmp c (ae_rg (.inl (sv_u x))) (2147483648, 2147483648) with
      | some true => ae_tgt pc off fun t => K t 0 0 lv st h
      | some false => ae_tgt pc off fun _ => K (Nat.add pc 3) 0 0 lv st h
      | none => none) = _
    rw [c1 hc]
    show ae_tgt pc off (fun t => K t 0 0 lv st h) = _
    unfold ae_tgt; rw [ht]
  · refine wt_s hG hd rfl (fun K C => ?_) (g2 hc)
    show (match ae_cmp c (ae_rg (.inl (sv_u x))) (2147483648, 2147483648) with
      | some true => ae_tgt pc off fun t => K t 0 0 lv st h
      | some false => ae_tgt pc off fun _ => K (Nat.add pc 3) 0 0 lv st h
      | none => none) = _
    rw [c2 hc]
    show ae_tgt pc off (fun _ => K (Nat.add pc 3) 0 0 lv st h) = _
    unfold ae_tgt; rw [ht]
theorem wt_getf {k t ci z0 z1 j idx : Nat} {a b : Int} {fts : List sv_ft} {v : ae_V} (hG : wt_cl M G) (hd : decode M.2.2.1 pc = .ok (.getfield idx, 3)) (hc : ae_cp M.1 idx = some (0, ci, j)) (hh : sv_hk ty tt h) (hk : ty k = some t) (hT : tt[t]? = some (0, ci, z0, a, b, z1, fts)) (hF : wk_F h k j = some v) (g : G (pc + 3) lv (v :: st) h) : G pc lv (wk_r k :: st) h := by
  obtain ⟨fs, g1, -, -⟩ := sv_hk_o (ci := 0) hh hk hT rfl
  rw [wk_F_of g1] at hF
  refine wt_s hG hd rfl (fun K C => ?_) g
  show (match ae_cp M.1 idx, ae_hg h k with
      | some (0, ci, k), some (.inr (cj, fs)) => cond (Nat.beq ci cj) (match ae_nth fs k with
        | some v => K (Nat.add pc 3) 0 0 lv (v :: st) h
        | none => none) none
      | _, _ => none) = _
  rw [hc, g1]
  show cond (Nat.beq ci ci) (match ae_nth fs j with
        | some v => K (Nat.add pc 3) 0 0 lv (v :: st) h
        | none => none) none = _
  rw [Nat.beq_refl, cond_true, ae_nth_eq, hF]
theorem wt_iald {k t len mask : Nat} {lo hi : Int} (hG : wt_cl M G) (hd : decode M.2.2.1 pc = .ok (.iaload, 1)) (hty : ∀ q t, ty q = some t → q < 256) (hh : sv_hk ty tt h) (hk : ty k = some t) (hT : tt[t]? = some (1, 0, len, lo, hi, mask, [])) (hl : len < 2147483648) (hx : 0 ≤ x ∧ x < len) (g : lo ≤ wk_R h k x → wk_R h k x ≤ hi → G (pc + 1) lv (wk_i (wk_R h k x) :: st) h) : G pc lv (wk_i x :: wk_r k :: st) h := by
  obtain ⟨r1, r2, -⟩ := wk_rng hh hk hT hx
  obtain ⟨A, g1, -⟩ := sv_hk_a hh hk hT rfl
  have g1 : ae_hg h k = some (.inl (0, len, .inl A)) := g1
  have ex : sv_u x = x.toNat := sv_u_nn hx.1 (by omega)
  have hb : Nat.ble 256 k = false := by
    cases hb : Nat.ble 256 k with
    | false => rfl
    | true => have := Nat.le_of_ble_eq_true hb; have := hty k t hk; omega
  refine wt_s hG hd rfl (fun K C => ?_) (g r1 r2)
  show cond (Nat.ble 256 k) (ae_ldx (wk_i x :: wk_r k :: st) fun st => K (Nat.add pc 1) 0 0 lv st h) (ae_ald 0 (wk_i x :: wk_r k :: st) h fun st => K (Nat.add pc 1) 0 0 lv st h) = _
  rw [hb, cond_false, wk_R_of g1]
  show ae_ald 0 (.inl (.inl (sv_u x)) :: .inr (.inr (some k)) :: st) h _ = _
  rw [ex, sv_ald (by omega) g1 rfl (show x.toNat < len by omega) hl]
  show K _ _ _ _ (.inl (.inl (ae_rd 32 A x.toNat)) :: st) h = K _ _ _ _ (.inl (.inl (sv_u (sv_g (ae_rd 32 A x.toNat)))) :: st) h
  rw [sv_rd_u]
theorem wt_bald {k t tag len mask : Nat} {lo hi : Int} (hG : wt_cl M G) (hd : decode M.2.2.1 pc = .ok (.baload, 1)) (hh : sv_hk ty tt h) (hk : ty k = some t) (hT : tt[t]? = some (1, tag, len, lo, hi, mask, [])) (ht : tag = 1 ∨ tag = 2) (hl : len < 2147483648) (hx : 0 ≤ x ∧ x < len) (g : lo ≤ wk_R h k x → wk_R h k x ≤ hi → G (pc + 1) lv (wk_i (wk_R h k x) :: st) h) : G pc lv (wk_i x :: wk_r k :: st) h := by
  obtain ⟨r1, r2, -⟩ := wk_rng hh hk hT hx
  obtain ⟨A, g1, -⟩ := sv_hk_a hh hk hT rfl
  have g1 : ae_hg h k = some (.inl (tag, len, .inl A)) := g1
  have ex : sv_u x = x.toNat := sv_u_nn hx.1 (by omega)
  have hq : ae_tq tag 1 = true := by rcases ht with e | e <;> subst e <;> rfl
  refine wt_s hG hd rfl (fun K C => ?_) (g r1 r2)
  show ae_ald 1 (.inl (.inl (sv_u x)) :: .inr (.inr (some k)) :: st) h (fun st => K (Nat.add pc 1) 0 0 lv st h) = _
  rw [wk_R_of g1, ex, sv_ald (by omega) g1 hq (show x.toNat < len by omega) hl]
  show K _ _ _ _ (.inl (.inl (ae_rd 32 A x.toNat)) :: st) h = K _ _ _ _ (.inl (.inl (sv_u (sv_g (ae_rd 32 A x.toNat)))) :: st) h
  rw [sv_rd_u]
theorem wt_call {vir idx mj : Nat} {N : ae_M} {as rest : List ae_V} {i : Instr} (hi : i = .invokestatic idx ∧ vir = 0 ∨ i = .invokevirtual idx ∧ vir = 1) (hG : wt_cl M G) (hd : decode M.2.2.1 pc = .ok (i, 3)) (hcc : wk_cc M.1 idx mj = true) (hN : ae_m mj = some N)
    (hB : and (Nat.beq N.2.2.2.2.2.1 vir) (and (Nat.blt N.2.2.2.2.2.2.2.1 M.2.2.2.2.2.2.2.1) (and (Nat.ble (Nat.add (Nat.add 19 N.2.2.2.1) N.2.2.2.2.2.2.2.2.1) M.2.2.2.2.2.2.2.2.1) (and (Nat.beq N.2.2.2.2.2.2.2.2.2.1 0) (Nat.beq N.2.2.2.2.2.2.2.2.2.2 0)))) = true)
    (hp : ae_pop (cond (Nat.beq vir 0) N.2.2.2.2.2.2.1 (Nat.succ N.2.2.2.2.2.2.1)) [] st = some (as, rest)) (hD : and (Nat.ble (ae_catS rest) 8) (Nat.ble (ae_catS as) N.2.2.2.1) = true) (hrc : ae_rcv vir as h N.1 = true)
    (g : sv_G (fun r => G (pc + 3) lv (sv_push r.1 rest) r.2) mj 0 (ae_args as 0) [] h) : G pc lv st h := by
  obtain ⟨kd, z, hc, hkd⟩ := wk_cc_ok hcc
  have main : ∀ (K : ae_K) (C : Nat → List ae_V → ae_H → Option ae_R) (r : ae_R), C mj as h = some r → ae_call M vir idx pc 0 0 lv st h K C = K (Nat.add pc 3) 0 0 lv (sv_push r.1 rest) r.2 := fun K C r hr => by
    simp only [Bool.and_eq_true] at hB
    obtain ⟨b1, b2, b3, b4, b5⟩ := hB
    have b4 := Nat.eq_of_beq_eq_true b4
    have b5 := Nat.eq_of_beq_eq_true b5
    have mm : (match ae_m mj with
            | some N => cond (and (Nat.beq N.2.2.2.2.2.1 vir) (and (Nat.blt N.2.2.2.2.2.2.2.1 M.2.2.2.2.2.2.2.1) (and (Nat.ble (Nat.add (Nat.add 19 N.2.2.2.1) N.2.2.2.2.2.2.2.2.1) M.2.2.2.2.2.2.2.2.1) (and (Nat.ble (Nat.add 0 N.2.2.2.2.2.2.2.2.2.1) M.2.2.2.2.2.2.2.2.2.1) (Nat.ble (Nat.add 0 N.2.2.2.2.2.2.2.2.2.2) M.2.2.2.2.2.2.2.2.2.2))))) (match ae_pop (cond (Nat.beq vir 0) N.2.2.2.2.2.2.1 (Nat.succ N.2.2.2.2.2.2.1)) [] st with
              | some (as, rest) => cond (and (and (Nat.ble (ae_catS rest) 8) (Nat.ble (ae_catS as) N.2.2.2.1)) (ae_rcv vir as h N.1)) (match C mj as h with
                | some (some v, h2) => ae_f (Nat.add 0 N.2.2.2.2.2.2.2.2.2.1) fun ce2 => ae_f (Nat.add 0 N.2.2.2.2.2.2.2.2.2.2) fun sl2 => K (Nat.add pc 3) ce2 sl2 lv (v :: rest) h2
                | some (none, h2) => ae_f (Nat.add 0 N.2.2.2.2.2.2.2.2.2.1) fun ce2 => ae_f (Nat.add 0 N.2.2.2.2.2.2.2.2.2.2) fun sl2 => K (Nat.add pc 3) ce2 sl2 lv rest h2
                | none => none) none
              | none => none) none
            | none => none) = K (Nat.add pc 3) 0 0 lv (sv_push r.1 rest) r.2 := by
      rw [hN]
      show cond (and (Nat.beq N.2.2.2.2.2.1 vir) (and (Nat.blt N.2.2.2.2.2.2.2.1 M.2.2.2.2.2.2.2.1) (and (Nat.ble (Nat.add (Nat.add 19 N.2.2.2.1) N.2.2.2.2.2.2.2.2.1) M.2.2.2.2.2.2.2.2.1) (and (Nat.ble (Nat.add 0 N.2.2.2.2.2.2.2.2.2.1) M.2.2.2.2.2.2.2.2.2.1) (Nat.ble (Nat.add 0 N.2.2.2.2.2.2.2.2.2.2) M.2.2.2.2.2.2.2.2.2.2))))) _ none = _
      rw [b1, b2, b3, b4, b5, hp]
      have z1 : Nat.ble (Nat.add 0 0) M.2.2.2.2.2.2.2.2.2.1 = true := Nat.ble_eq_true_of_le (Nat.zero_le _)
      have z2 : Nat.ble (Nat.add 0 0) M.2.2.2.2.2.2.2.2.2.2 = true := Nat.ble_eq_true_of_le (Nat.zero_le _)
      rw [z1, z2]
      show cond (and (and (Nat.ble (ae_catS rest) 8) (Nat.ble (ae_catS as) N.2.2.2.1)) (ae_rcv vir as h N.1)) (match C mj as h with
                | some (some v, h2) => ae_f (Nat.add 0 0) fun ce2 => ae_f (Nat.add 0 0) fun sl2 => K (Nat.add pc 3) ce2 sl2 lv (v :: rest) h2
                | some (none, h2) => ae_f (Nat.add 0 0) fun ce2 => ae_f (Nat.add 0 0) fun sl2 => K (Nat.add pc 3) ce2 sl2 lv rest h2
                | none => none) none = _
      rw [hD, hrc, hr]
      obtain ⟨v, h2⟩ := r
      cases v with
      | none => rfl
      | some v => rfl
    rcases hkd with e | e
    · subst e
      unfold ae_call
      rw [hc]
      exact mm
    · subst e
      unfold ae_call
      rw [hc]
      exact mm
  rcases hi with ⟨e, ev⟩ | ⟨e, ev⟩
  · subst e ev
    exact wt_c hG hd rfl main g
  · subst e ev
    exact wt_c hG hd rfl main g
end
