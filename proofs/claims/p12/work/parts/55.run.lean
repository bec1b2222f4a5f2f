/-! THE VERIFIER -/
def sv_ro (ty : Nat → Option Nat) (ρ : Nat → Int) (n : Nat) (v : Option sv_V) (c : Option ae_V) : Prop := match v, c with
  | none, none => True
  | some v, some c => sv_vk ty ρ n v c
  | _, _ => False
noncomputable def sx_ret (i : Instr) (M : ae_M) (S : sv_S) (Rt : sv_S → Option sv_V → Bool) : Bool := match i, S.2.2.1 with
  | .ireturn, [(0, t, e)] => (match M.2.2.2.2.1 with
    | some .int => Rt S (some (0, t, e))
    | some .boolean => cond (and (sv_p 3 S.1 e) (sx_ge S.1 (1, []) e)) (Rt S (some (0, t, e))) false
    | _ => false)
  | .lreturn, [(4, t, e)] => (match M.2.2.2.2.1 with
    | some .long => Rt S (some (4, t, e))
    | _ => false)
  | .return_, [] => (match M.2.2.2.2.1 with
    | none => Rt S none
    | _ => false)
  | _, _ => false
def sx_ps (v : Option sv_V) (rest : List sv_V) : List sv_V := match v with
  | some v => v :: rest
  | none => rest
noncomputable def sx_call (tt : List sv_T) (od : Nat → List (Nat × Nat)) (mods : List (Nat × Nat)) (ct : Nat → List sv_C) (vir idx : Nat) (M : ae_M) (pc : Nat) (S : sv_S) (K : Nat → sv_S → Bool) (Cc : Nat → sv_S → (sv_S → Option sv_V → Bool) → Bool) : Bool := match ae_cp M.1 idx with
  | some (kd, mj, _) => cond (or (Nat.beq kd 1) (Nat.beq kd 2)) (match ae_m mj with
    | some N => sx_inv tt vir M N S.2.2.1 fun vs rest => (match ct mj with
      | [] => Cc mj (S.1, sx_args vs 0, [], S.2.2.2) fun S2 v => K (Nat.add pc 3) (S2.1, S.2.1, sx_ps v rest, S2.2.2.2)
      | C :: Cs => sx_an (fun C => sx_app tt od mods C S vs rest (K (Nat.add pc 3))) (C :: Cs))
    | none => false) (sx_lib tt od mods kd vir M pc S K)
  | none => false
noncomputable def sx_ins (tt : List sv_T) (od : Nat → List (Nat × Nat)) (mods : List (Nat × Nat)) (ct : Nat → List sv_C) (i : Instr) (M : ae_M) (pc : Nat) (S : sv_S) (K : Nat → sv_S → Bool) (Cc : Nat → sv_S → (sv_S → Option sv_V → Bool) → Bool) (Rt : sv_S → Option sv_V → Bool) : Bool := match i with
  | .getfield idx => sx_get tt idx M pc S K
  | .putfield idx => sx_put tt od mods idx M pc S K
  | .iaload => sx_ld tt 0 pc S K
  | .baload => sx_ld tt 1 pc S K
  | .laload => sx_lld tt pc S K
  | .aaload => sx_rld tt pc S K
  | .arraylength => sx_len tt pc S K
  | .iastore => sx_sto2 tt od mods 0 pc S K
  | .bastore => sx_sto2 tt od mods 1 pc S K
  | .lastore => sx_lst tt od mods pc S K
  | .invokestatic idx => sx_call tt od mods ct 0 idx M pc S K Cc
  | .invokevirtual idx => sx_call tt od mods ct 1 idx M pc S K Cc
  | .invokespecial idx => sx_call tt od mods ct 2 idx M pc S K Cc
  | .ireturn => sx_ret .ireturn M S Rt
  | .lreturn => sx_ret .lreturn M S Rt
  | .return_ => sx_ret .return_ M S Rt
  | i => sx_1 i M pc S K
noncomputable def sx_fr (fl : List Nat) (pc : Nat) : Bool := sx_an (fun q => Nat.beq q pc) fl
noncomputable def sx_rmv (fl : List Nat) (pc : Nat) : List Nat := sv_flt (fun q => not (Nat.beq q pc)) fl
/-- fuel, method, place, places that may be passed once, state, what is asked at a return, what is asked at a cut -/
noncomputable def sx_run (tt : List sv_T) (od : Nat → List (Nat × Nat)) (mods : List (Nat × Nat)) (ct : Nat → List sv_C) : Nat → Nat → Nat → List Nat → sv_S → (sv_S → Option sv_V → Bool) → (Nat → Option (sv_S → Bool)) → Bool := fun n => Nat.rec (motive := fun _ => Nat → Nat → List Nat → sv_S → (sv_S → Option sv_V → Bool) → (Nat → Option (sv_S → Bool)) → Bool) (fun _ _ _ _ _ _ => false) (fun _ ih mi pc fl S Rt CU => match cond (sx_fr fl pc) none (CU pc) with
  | some f => f S
  | none => match ae_m mi with
    | none => false
    | some M => match decode M.2.2.1 pc with
      | .error _ => false
      | .ok (i, len) => cond (Nat.beq len (ae_ln i len)) (sx_ins tt od mods ct i M pc S (fun pc2 S => sv_fn pc2 fun pc2 => ih mi pc2 (sx_rmv fl pc) S Rt CU) (fun mj S Rt => ih mj 0 [] S Rt (fun _ => none)) Rt) false) n
section
variable {ty : Nat → Option Nat} {tt : List sv_T} {op : Nat → ae_H → Nat → Nat → Int → Int → Int → Int → Prop} {od : Nat → List (Nat × Nat)} {mods : List (Nat × Nat)} {h0 : ae_H} {ct : Nat → List sv_C} {M : ae_M} {pc : Nat}
theorem sx_ret_ok {i : Instr} {ρ0 : Nat → Int} {n0 : Nat} {ρ : Nat → Int} {S : sv_S} {lv : ae_L} {st : List ae_V} {h : ae_H} {Rt : sv_S → Option sv_V → Bool} (hR : sv_R ty tt op ρ0 n0 mods h0 ρ S lv st h) (hs : sx_ret i M S Rt = true) : ∃ v c, Rt S v = true ∧ sv_ro ty ρ S.1.1 v c ∧ ∀ K C, ae_step i M pc 0 0 lv st h K C = some (c, h) := by
  have hk := hR.2.2.2.1
  unfold sx_ret at hs
  split at hs
  · next t e hstk =>
    rw [hstk] at hk
    obtain ⟨c, cs, rfl, hv, hr⟩ := sv_sk1 hk
    rw [show cs = [] from hr]
    obtain ⟨wx, rfl, ix⟩ := sv_vk0 hv
    split at hs
    · next hret =>
      refine ⟨_, some _, hs, hv, fun K C => ?_⟩
      unfold ae_step; dsimp only
      rw [sx_rm0, cond_true, hret]
    · next hret =>
      cases hc : and (sv_p 3 S.1 e) (sx_ge S.1 (1, []) e) with
      | false => rw [hc, cond_false] at hs; cases hs
      | true =>
        rw [hc, cond_true] at hs
        rw [Bool.and_eq_true] at hc
        have g1 := sv_p_ok hR.1 hc.1
        have g2 := sx_ge_ok hR.1 hc.2
        rw [sv_ev0] at g2
        have hu := (sv_upos ix g1).1
        refine ⟨_, some _, hs, hv, fun K C => ?_⟩
        unfold ae_step; dsimp only
        rw [sx_rm0, cond_true, hret]
        show cond (Nat.ble (sv_u (sv_ev ρ e)) 1) (some (some (Sum.inl (Sum.inl (sv_u (sv_ev ρ e)))), h) : Option ae_R) none = _
        rw [Nat.ble_eq_true_of_le (by omega), cond_true]
    · cases hs
  · next t e hstk =>
    rw [hstk] at hk
    obtain ⟨c, cs, rfl, hv, hr⟩ := sv_sk1 hk
    rw [show cs = [] from hr]
    obtain ⟨wx, rfl, ix⟩ := sv_vk4 hv
    split at hs
    · next hret =>
      refine ⟨_, some _, hs, hv, fun K C => ?_⟩
      unfold ae_step; dsimp only
      rw [sx_rm0, cond_true, hret]
    · cases hs
  · next hstk =>
    rw [hstk] at hk
    rw [show st = [] from hk]
    split at hs
    · next hret =>
      refine ⟨none, none, hs, trivial, fun K C => ?_⟩
      unfold ae_step; dsimp only
      rw [sx_rm0, cond_true, hret]
    · cases hs
  · cases hs
def sx_good (ty : Nat → Option Nat) (tt : List sv_T) (op : Nat → ae_H → Nat → Nat → Int → Int → Int → Int → Prop) (od : Nat → List (Nat × Nat)) (mods : List (Nat × Nat)) (h0 : ae_H) (ct : Nat → List sv_C) (n : Nat) : Prop := ∀ (ρ0 : Nat → Int) (n0 mi pc : Nat) (fl : List Nat) (S : sv_S) (Rt : sv_S → Option sv_V → Bool) (CU : Nat → Option (sv_S → Bool)) (ρ : Nat → Int) (lv : ae_L) (st : List ae_V) (h : ae_H) (Q : ae_R → Prop), sx_run tt od mods ct n mi pc fl S Rt CU = true → sv_R ty tt op ρ0 n0 mods h0 ρ S lv st h →
  (∀ S ρ lv st h v c, Rt S v = true → sv_R ty tt op ρ0 n0 mods h0 ρ S lv st h → sv_ro ty ρ S.1.1 v c → Q (c, h)) →
  (∀ pc f S ρ lv st h, CU pc = some f → f S = true → sv_R ty tt op ρ0 n0 mods h0 ρ S lv st h → sv_G Q mi pc lv st h) → sv_G Q mi pc lv st h
theorem sx_call_ok {n mi len vir idx : Nat} {i : Instr} {ρ0 : Nat → Int} {n0 : Nat} {ρ : Nat → Int} {S : sv_S} {lv : ae_L} {st : List ae_V} {h : ae_H} {Q : ae_R → Prop} {K : Nat → sv_S → Bool} (hty : ∀ q t, ty q = some t → q < 256) (ho : sv_opk ty op od) (hct : ∀ mj, ∀ C ∈ ct mj, C.1 = mj ∧ sv_ctk ty tt op C) (ih : sx_good ty tt op od mods h0 ct n)
    (hM : ae_m mi = some M) (hd : decode M.2.2.1 pc = .ok (i, len)) (hl : Nat.beq len (ae_ln i len) = true) (hi : ∀ lv st h K C, ae_step i M pc 0 0 lv st h K C = ae_call M vir idx pc 0 0 lv st h K C) (hR : sv_R ty tt op ρ0 n0 mods h0 ρ S lv st h)
    (hK : ∀ pc S ρ lv st h, K pc S = true → sv_R ty tt op ρ0 n0 mods h0 ρ S lv st h → sv_G Q mi pc lv st h)
    (hs : sx_call tt od mods ct vir idx M pc S K (fun mj S Rt => sx_run tt od mods ct n mj 0 [] S Rt (fun _ => none)) = true) : sv_G Q mi pc lv st h := by
  unfold sx_call at hs
  split at hs
  · next kd mj z hc =>
    cases hkd : or (Nat.beq kd 1) (Nat.beq kd 2) with
    | false =>
      rw [hkd, cond_false] at hs
      exact sx_lib_ok hc hty ho hR hs hK (fun pc' lv' st' h' hst g => sv_G_step hM hd hl (fun K C => (hi _ _ _ K C).trans (hst K C)) g)
    | true =>
      rw [hkd, cond_true] at hs
      rw [Bool.or_eq_true] at hkd
      have hkd : kd = 1 ∨ kd = 2 := hkd.imp Nat.eq_of_beq_eq_true Nat.eq_of_beq_eq_true
      split at hs
      · next N hN =>
        obtain ⟨vs, rest, as, crest, hs, hvs, hr, hstep⟩ := sx_inv_ok (pc := pc) hkd hc hN hR hs
        refine sv_G_call hM hd hl (fun K C r hr => (hi _ _ _ K C).trans (hstep K C r hr)) ?_
        split at hs
        · obtain ⟨ha, hn, hlv, hstk, hh, ht⟩ := hR
          have hRa : sv_R ty tt op ρ S.1.1 mods h0 ρ (S.1, sx_args vs 0, [], S.2.2.2) (ae_args as 0) [] h := ⟨ha, ⟨Nat.le_refl _, fun _ _ => rfl⟩, sx_args_ok 0 hvs, rfl, hh, ht⟩
          refine ih ρ S.1.1 mj 0 [] _ _ _ ρ _ _ h _ hs hRa (fun S2 ρ2 lv2 st2 h2 v c hrt r2 hro => ?_) (fun pc f S ρ lv st h hcu => by cases hcu)
          obtain ⟨ra, ⟨rn, r00⟩, rl, rs, rh, rt⟩ := r2
          refine hK _ _ ρ2 lv (sv_push c crest) h2 hrt ⟨ra, ⟨Nat.le_trans hn.1 rn, fun s hs => (r00 s (Nat.lt_of_lt_of_le hs hn.1)).trans (hn.2 s hs)⟩, hlv.up r00 rn, ?_, rh, rt⟩
          have hr2 := hr.up r00 rn
          match v, c, hro with
          | none, none, _ => exact hr2
          | some v, some c, hv => exact ⟨c, crest, rfl, hv, hr2⟩
        · next C0 Cs eC =>
          obtain ⟨C, hCm, hs⟩ := sx_an_ok hs
          rw [← eC] at hCm
          obtain ⟨e1, hC⟩ := hct mj C hCm
          rw [← e1]
          exact sx_app_ok (G := fun v h => sv_G Q mi (Nat.add pc 3) lv (sv_push v crest) h) hty ho hC hR hvs hr (fun S ρ st h hk r v e => by rw [← e]; exact hK _ S ρ lv st h hk r) hs
      · cases hs
  · cases hs
theorem sx_run_ok (hty : ∀ q t, ty q = some t → q < 256) (ho : sv_opk ty op od) (hct : ∀ mj, ∀ C ∈ ct mj, C.1 = mj ∧ sv_ctk ty tt op C) : ∀ n, sx_good ty tt op od mods h0 ct n := by
  intro n
  induction n with
  | zero => intro ρ0 n0 mi pc fl S Rt CU ρ lv st h Q hs; cases hs
  | succ n ih =>
    intro ρ0 n0 mi pc fl S Rt CU ρ lv st h Q hs hR hRt hCU
    have hs : (match cond (sx_fr fl pc) none (CU pc) with
      | some f => f S
      | none => match ae_m mi with
        | none => false
        | some M => match decode M.2.2.1 pc with
          | .error _ => false
          | .ok (i, len) => cond (Nat.beq len (ae_ln i len)) (sx_ins tt od mods ct i M pc S (fun pc2 S => sv_fn pc2 fun pc2 => sx_run tt od mods ct n mi pc2 (sx_rmv fl pc) S Rt CU) (fun mj S Rt => sx_run tt od mods ct n mj 0 [] S Rt (fun _ => none)) Rt) false) = true := hs
    split at hs
    · next f hf =>
      cases hfr : sx_fr fl pc with
      | true => rw [hfr, cond_true] at hf; cases hf
      | false => rw [hfr, cond_false] at hf; exact hCU pc f S ρ lv st h hf hs hR
    · split at hs
      · cases hs
      · next M hM =>
        split at hs
        · cases hs
        · next i len hd =>
          cases hl : Nat.beq len (ae_ln i len) with
          | false => rw [hl, cond_false] at hs; cases hs
          | true =>
            rw [hl, cond_true] at hs
            have hK : ∀ pc2 S ρ lv st h, (fun pc2 S => sv_fn pc2 fun pc2 => sx_run tt od mods ct n mi pc2 (sx_rmv fl pc) S Rt CU) pc2 S = true → sv_R ty tt op ρ0 n0 mods h0 ρ S lv st h → sv_G Q mi pc2 lv st h := fun pc2 S ρ lv st h hk hr => by
              have hk : sv_fn pc2 (fun pc2 => sx_run tt od mods ct n mi pc2 (sx_rmv fl pc) S Rt CU) = true := hk
              rw [sv_fn_eq] at hk
              exact ih ρ0 n0 mi pc2 _ S Rt CU ρ lv st h Q hk hr hRt hCU
            have hG : ∀ pc' lv' st' h', (∀ K C, ae_step i M pc 0 0 lv st h K C = K pc' 0 0 lv' st' h') → sv_G Q mi pc' lv' st' h' → sv_G Q mi pc lv st h := fun pc' lv' st' h' hst g => sv_G_step hM hd hl hst g
            have hret : ∀ {j : Instr}, i = j → sx_ret j M S Rt = true → sv_G Q mi pc lv st h := fun {j} e hs2 => by
              subst e
              obtain ⟨v, c, h1, h2, h3⟩ := sx_ret_ok (pc := pc) hR hs2
              exact sv_G_ret hM hd hl h3 (hRt S ρ lv st h v c h1 hR h2)
            unfold sx_ins at hs
            split at hs
            · exact sx_get_ok hty hR hs hK hG
            · exact sx_put_ok hty ho hR hs hK hG
            · exact sx_ld_ok (Or.inl ⟨rfl, rfl⟩) hty hR hs hK hG
            · exact sx_ld_ok (Or.inr ⟨rfl, rfl⟩) hty hR hs hK hG
            · exact sx_lld_ok hR hs hK hG
            · exact sx_rld_ok hty hR hs hK hG
            · exact sx_len_ok hR hs hK hG
            · exact sx_sto2_ok (Or.inl ⟨rfl, rfl⟩) hty ho hR hs hK hG
            · exact sx_sto2_ok (Or.inr ⟨rfl, rfl⟩) hty ho hR hs hK hG
            · exact sx_lst_ok hty ho hR hs hK hG
            · exact sx_call_ok hty ho hct ih hM hd hl (fun _ _ _ _ _ => rfl) hR hK hs
            · exact sx_call_ok hty ho hct ih hM hd hl (fun _ _ _ _ _ => rfl) hR hK hs
            · exact sx_call_ok hty ho hct ih hM hd hl (fun _ _ _ _ _ => rfl) hR hK hs
            · exact hret rfl hs
            · exact hret rfl hs
            · exact hret rfl hs
            · exact sx_1_ok hR hs hK (fun pc' lv' st' hst g => hG pc' lv' st' h hst g)
end
