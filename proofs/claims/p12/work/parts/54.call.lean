/-! CALLS -/
noncomputable def sx_args (vs : List sv_V) : Nat → List (Nat × sv_V) := List.rec (motive := fun _ => Nat → List (Nat × sv_V)) (fun _ => []) (fun v _ ih i => (i, v) :: ih (Nat.add i (cond (Nat.beq v.1 4) 2 1))) vs
noncomputable def sx_pop (n : Nat) : List sv_V → List sv_V → Option (List sv_V × List sv_V) := Nat.rec (motive := fun _ => List sv_V → List sv_V → Option (List sv_V × List sv_V)) (fun acc st => some (acc, st)) (fun _ ih acc st => match st with
  | v :: rest => ih (v :: acc) rest
  | [] => none) n
noncomputable def sx_rcv (tt : List sv_T) (vir : Nat) (vs : List sv_V) (own : Nat) : Bool := cond (Nat.beq vir 0) true (match vs with
  | v :: _ => and (Nat.beq v.1 1) (match ae_nth tt v.2.1 with
    | some T => and (Nat.beq T.1 0) (Nat.beq T.2.1 own)
    | none => false)
  | [] => false)
noncomputable def sx_inv (tt : List sv_T) (vir : Nat) (M N : ae_M) (st : List sv_V) (K : List sv_V → List sv_V → Bool) : Bool := cond (and (Nat.beq N.2.2.2.2.2.1 vir) (and (Nat.blt N.2.2.2.2.2.2.2.1 M.2.2.2.2.2.2.2.1) (and (Nat.ble (Nat.add (Nat.add 19 N.2.2.2.1) N.2.2.2.2.2.2.2.2.1) M.2.2.2.2.2.2.2.2.1) (and (Nat.beq N.2.2.2.2.2.2.2.2.2.1 0) (Nat.beq N.2.2.2.2.2.2.2.2.2.2 0))))) (match sx_pop (cond (Nat.beq vir 0) N.2.2.2.2.2.2.1 (Nat.succ N.2.2.2.2.2.2.1)) [] st with
  | some (as, rest) => cond (and (and (Nat.ble (sx_cS rest) 8) (Nat.ble (sx_cS as) N.2.2.2.1)) (sx_rcv tt vir as N.1)) (K as rest) false
  | none => false) false
section
variable {ty : Nat → Option Nat} {tt : List sv_T} {op : Nat → ae_H → Nat → Nat → Int → Int → Int → Int → Prop} {od : Nat → List (Nat × Nat)} {ρ0 : Nat → Int} {n0 : Nat} {mods : List (Nat × Nat)} {h0 : ae_H} {ρ : Nat → Int} {S : sv_S} {lv : ae_L} {st : List ae_V} {h : ae_H} {M : ae_M} {pc : Nat}
theorem sx_args_ok {n : Nat} : ∀ {vs : List sv_V} {as : List ae_V} (i : Nat), sv_sk ty ρ n vs as → sv_lk ty ρ n (sx_args vs i) (ae_args as i)
  | [], as, i, hk => fun j v hj => by cases hj
  | v :: vs, _, i, ⟨c, cs, e, h1, h2⟩ => by
    subst e
    have hcat : cond (Nat.beq v.1 4) 2 1 = ae_cat c := by
      obtain ⟨g1, g2⟩ := sv_cat h1
      cases hb : Nat.beq v.1 4 with
      | true => rw [g1.mpr (Nat.eq_of_beq_eq_true hb)]; rfl
      | false => rw [Nat.eq_of_beq_eq_true (sv_cat1 h1 hb)]; rfl
    have ih := sx_args_ok (Nat.add i (cond (Nat.beq v.1 4) 2 1)) h2
    rw [hcat] at ih
    exact sv_lk_c h1 ih (by show (i, v) :: sx_args vs (Nat.add i (cond (Nat.beq v.1 4) 2 1)) = _; rw [hcat]) rfl
theorem sx_pop_ok {n : Nat} : ∀ (k : Nat) {acc st : List sv_V} {cacc cst : List ae_V} {vs rest : List sv_V}, sv_sk ty ρ n acc cacc → sv_sk ty ρ n st cst → sx_pop k acc st = some (vs, rest) → ∃ as crest, ae_pop k cacc cst = some (as, crest) ∧ sv_sk ty ρ n vs as ∧ sv_sk ty ρ n rest crest
  | 0, acc, st, cacc, cst, vs, rest, ha, hs, hp => by
    cases hp
    exact ⟨cacc, cst, rfl, ha, hs⟩
  | k + 1, acc, st, cacc, cst, vs, rest, ha, hs, hp => by
    match st, hs, hp with
    | v :: st, ⟨c, cs, e, h1, h2⟩, hp =>
      subst e
      exact sx_pop_ok k (acc := v :: acc) (cacc := c :: cacc) ⟨c, cacc, rfl, h1, ha⟩ h2 hp
    | [], _, hp => cases hp
theorem sx_inv_ok {vir mj idx kd z : Nat} {N : ae_M} {K : List sv_V → List sv_V → Bool} (hkd : kd = 1 ∨ kd = 2) (hc : ae_cp M.1 idx = some (kd, mj, z)) (hN : ae_m mj = some N) (hR : sv_R ty tt op ρ0 n0 mods h0 ρ S lv st h) (hs : sx_inv tt vir M N S.2.2.1 K = true) :
    ∃ vs rest as crest, K vs rest = true ∧ sv_sk ty ρ S.1.1 vs as ∧ sv_sk ty ρ S.1.1 rest crest ∧ ∀ (K : ae_K) (C : Nat → List ae_V → ae_H → Option ae_R) (r : ae_R), C mj as h = some r → ae_call M vir idx pc 0 0 lv st h K C = K (Nat.add pc 3) 0 0 lv (sv_push r.1 crest) r.2 := by
  unfold sx_inv at hs
  generalize hB : (and (Nat.beq N.2.2.2.2.2.1 vir) (and (Nat.blt N.2.2.2.2.2.2.2.1 M.2.2.2.2.2.2.2.1) (and (Nat.ble (Nat.add (Nat.add 19 N.2.2.2.1) N.2.2.2.2.2.2.2.2.1) M.2.2.2.2.2.2.2.2.1) (and (Nat.beq N.2.2.2.2.2.2.2.2.2.1 0) (Nat.beq N.2.2.2.2.2.2.2.2.2.2 0))))) = B at hs
  cases B with
  | false => rw [cond_false] at hs; cases hs
  | true =>
    rw [cond_true] at hs
    simp only [Bool.and_eq_true] at hB
    obtain ⟨b1, b2, b3, b4, b5⟩ := hB
    have b4 := Nat.eq_of_beq_eq_true b4
    have b5 := Nat.eq_of_beq_eq_true b5
    split at hs
    · next vs rest ep =>
      generalize hD : (and (and (Nat.ble (sx_cS rest) 8) (Nat.ble (sx_cS vs) N.2.2.2.1)) (sx_rcv tt vir vs N.1)) = D at hs
      cases D with
      | false => rw [cond_false] at hs; cases hs
      | true =>
        rw [cond_true] at hs
        simp only [Bool.and_eq_true] at hD
        obtain ⟨⟨d1, d2⟩, d3⟩ := hD
        obtain ⟨as, crest, p1, p2, p3⟩ := sx_pop_ok _ (show sv_sk ty ρ S.1.1 [] [] from rfl) hR.2.2.2.1 ep
        refine ⟨vs, rest, as, crest, hs, p2, p3, fun K C r hr => ?_⟩
        rw [← sx_cS_ok p3] at d1
        rw [← sx_cS_ok p2] at d2
        have hrc : ae_rcv vir as h N.1 = true := by
          unfold sx_rcv at d3
          unfold ae_rcv
          cases hv0 : Nat.beq vir 0 with
          | true => rfl
          | false =>
            rw [hv0, cond_false] at d3
            rw [cond_false]
            split at d3
            · next v vs2 =>
              obtain ⟨c, cs, rfl, hv, -⟩ := sv_sk1 p2
              rw [Bool.and_eq_true] at d3
              obtain ⟨kd, t, e⟩ := v
              have ek : kd = 1 := Nat.eq_of_beq_eq_true d3.1
              subst ek
              obtain ⟨q, q1, q2, q3⟩ := hv.2
              subst q2
              have d4 := d3.2
              split at d4
              · next T eT =>
                rw [ae_nth_eq] at eT
                rw [Bool.and_eq_true] at d4
                obtain ⟨fs, g1, -⟩ := sv_hk_o (ci := 0) hR.2.2.2.2.2.1 q3 eT (Nat.eq_of_beq_eq_true d4.1)
                show (match ae_hg h q with
                  | some (.inr (ci, _)) => Nat.beq ci N.1
                  | _ => false) = true
                rw [g1]
                exact d4.2
              · cases d4
            · cases d3
        have main : (match ae_m mj with
            | some N => cond (and (Nat.beq N.2.2.2.2.2.1 vir) (and (Nat.blt N.2.2.2.2.2.2.2.1 M.2.2.2.2.2.2.2.1) (and (Nat.ble (Nat.add (Nat.add 19 N.2.2.2.1) N.2.2.2.2.2.2.2.2.1) M.2.2.2.2.2.2.2.2.1) (and (Nat.ble (Nat.add 0 N.2.2.2.2.2.2.2.2.2.1) M.2.2.2.2.2.2.2.2.2.1) (Nat.ble (Nat.add 0 N.2.2.2.2.2.2.2.2.2.2) M.2.2.2.2.2.2.2.2.2.2))))) (match ae_pop (cond (Nat.beq vir 0) N.2.2.2.2.2.2.1 (Nat.succ N.2.2.2.2.2.2.1)) [] st with
              | some (as, rest) => cond (and (and (Nat.ble (ae_catS rest) 8) (Nat.ble (ae_catS as) N.2.2.2.1)) (ae_rcv vir as h N.1)) (match C mj as h with
                | some (some v, h2) => ae_f (Nat.add 0 N.2.2.2.2.2.2.2.2.2.1) fun ce2 => ae_f (Nat.add 0 N.2.2.2.2.2.2.2.2.2.2) fun sl2 => K (Nat.add pc 3) ce2 sl2 lv (v :: rest) h2
                | some (none, h2) => ae_f (Nat.add 0 N.2.2.2.2.2.2.2.2.2.1) fun ce2 => ae_f (Nat.add 0 N.2.2.2.2.2.2.2.2.2.2) fun sl2 => K (Nat.add pc 3) ce2 sl2 lv rest h2
                | none => none) none
              | none => none) none
            | none => none) = K (Nat.add pc 3) 0 0 lv (sv_push r.1 crest) r.2 := by
          rw [hN]
          show cond (and (Nat.beq N.2.2.2.2.2.1 vir) (and (Nat.blt N.2.2.2.2.2.2.2.1 M.2.2.2.2.2.2.2.1) (and (Nat.ble (Nat.add (Nat.add 19 N.2.2.2.1) N.2.2.2.2.2.2.2.2.1) M.2.2.2.2.2.2.2.2.1) (and (Nat.ble (Nat.add 0 N.2.2.2.2.2.2.2.2.2.1) M.2.2.2.2.2.2.2.2.2.1) (Nat.ble (Nat.add 0 N.2.2.2.2.2.2.2.2.2.2) M.2.2.2.2.2.2.2.2.2.2))))) (match ae_pop (cond (Nat.beq vir 0) N.2.2.2.2.2.2.1 (Nat.succ N.2.2.2.2.2.2.1)) [] st with
              | some (as, rest) => cond (and (and (Nat.ble (ae_catS rest) 8) (Nat.ble (ae_catS as) N.2.2.2.1)) (ae_rcv vir as h N.1)) (match C mj as h with
                | some (some v, h2) => ae_f (Nat.add 0 N.2.2.2.2.2.2.2.2.2.1) fun ce2 => ae_f (Nat.add 0 N.2.2.2.2.2.2.2.2.2.2) fun sl2 => K (Nat.add pc 3) ce2 sl2 lv (v :: rest) h2
                | some (none, h2) => ae_f (Nat.add 0 N.2.2.2.2.2.2.2.2.2.1) fun ce2 => ae_f (Nat.add 0 N.2.2.2.2.2.2.2.2.2.2) fun sl2 => K (Nat.add pc 3) ce2 sl2 lv rest h2
                | none => none) none
              | none => none) none = _
          rw [b1, b2, b3, b4, b5, Nat.ble_eq_true_of_le (Nat.zero_le _ : Nat.add 0 0 ≤ M.2.2.2.2.2.2.2.2.2.1), Nat.ble_eq_true_of_le (Nat.zero_le _ : Nat.add 0 0 ≤ M.2.2.2.2.2.2.2.2.2.2), Bool.and_self, Bool.and_self, Bool.and_self, Bool.and_self, cond_true, p1]
          show cond (and (and (Nat.ble (ae_catS crest) 8) (Nat.ble (ae_catS as) N.2.2.2.1)) (ae_rcv vir as h N.1)) (match C mj as h with
                | some (some v, h2) => ae_f (Nat.add 0 0) fun ce2 => ae_f (Nat.add 0 0) fun sl2 => K (Nat.add pc 3) ce2 sl2 lv (v :: crest) h2
                | some (none, h2) => ae_f (Nat.add 0 0) fun ce2 => ae_f (Nat.add 0 0) fun sl2 => K (Nat.add pc 3) ce2 sl2 lv crest h2
                | none => none) none = _
          rw [d1, d2, hrc, Bool.and_self, Bool.and_self, cond_true, hr]
          obtain ⟨rv, rh⟩ := r
          cases rv with
          | none => rfl
          | some v => rfl
        unfold ae_call
        rw [hc]
        rcases hkd with rfl | rfl
        · exact main
        · exact main
    · cases hs
/-- every symbol that is mapped is worth what the pattern's number is -/
def sv_mz (ρ ρ' : Nat → Int) (mp : sv_mp) : Prop := ∀ s e, ae_lk mp s = some e → sv_ev ρ e = ρ' s
/-- symbols of fields that stayed are bound to the old values -/
noncomputable def sx_b2 (N : Nat) (V w : sv_V) (mp : sv_mp) (K : sv_mp → Bool) : Bool := cond (and (Nat.beq V.1 w.1) (Nat.ble V.1 1)) (match V.2.2 with
  | (c, [(s, k)]) => cond (and (sv_iz c) (and (sv_ieq k 1) (Nat.blt s N))) (match ae_lk mp s with
    | some _ => K mp
    | none => K ((s, w.2.2) :: mp)) (K mp)
  | _ => K mp) (K mp)
noncomputable def sx_bB (N : Nat) (F : List sv_F) (l : List sv_F) : sv_mp → (sv_mp → Bool) → Bool := List.rec (motive := fun _ => sv_mp → (sv_mp → Bool) → Bool) (fun mp K => K mp) (fun q _ ih mp K => match ae_lk mp q.1.1 with
  | none => ih mp K
  | some _ => sx_sy mp q.1.1 fun x => (match sx_fl x q.1.2.1 q.1.2.2 F with
    | some w => sx_b2 N q.2 w mp fun mp => ih mp K
    | none => ih mp K)) l
theorem sx_b2_ok {ρ' : Nat → Int} {N n : Nat} {V w : sv_V} {c : ae_V} {mp : sv_mp} {K : sv_mp → Bool} (hm : sv_mk n N mp) (hx : sv_mz ρ ρ' mp) (hV : sv_vk ty ρ' N V c) (hw : sv_vk ty ρ n w c) (hs : sx_b2 N V w mp K = true) : ∃ mp2, K mp2 = true ∧ sv_mk n N mp2 ∧ sv_mz ρ ρ' mp2 ∧ ∀ s g, ae_lk mp s = some g → ae_lk mp2 s = some g := by
  unfold sx_b2 at hs
  cases hc : and (Nat.beq V.1 w.1) (Nat.ble V.1 1) with
  | false => rw [hc, cond_false] at hs; exact ⟨mp, hs, hm, hx, fun _ _ h => h⟩
  | true =>
    rw [hc, cond_true] at hs
    split at hs
    · next c0 s k0 ev =>
      cases hd : and (sv_iz c0) (and (sv_ieq k0 1) (Nat.blt s N)) with
      | false => rw [hd, cond_false] at hs; exact ⟨mp, hs, hm, hx, fun _ _ h => h⟩
      | true =>
        rw [hd, cond_true] at hs
        split at hs
        · exact ⟨mp, hs, hm, hx, fun _ _ h => h⟩
        · next hnone =>
          rw [Bool.and_eq_true, Bool.and_eq_true] at hd
          have e1 := sv_iz_iff.mp hd.1
          have e2 := sv_ieq_ok hd.2.1
          subst e1 e2
          rw [Bool.and_eq_true] at hc
          have hk := Nat.eq_of_beq_eq_true hc.1
          have hk1 : V.1 ≤ 1 := Nat.le_of_ble_eq_true hc.2
          have hval : sv_ev ρ w.2.2 = ρ' s := by
            have hV2 : sv_ev ρ' V.2.2 = ρ' s := by rw [ev]; show (0 : Int) + (1 * ρ' s + 0) = ρ' s; omega
            rw [← hV2]
            obtain ⟨vk, vt, ve⟩ := V
            obtain ⟨wk, wt, we⟩ := w
            have hk : vk = wk := hk
            subst hk
            have hk1 : vk ≤ 1 := hk1
            match vk, hk1, hV, hw with
            | 0, _, hV, hw =>
              obtain ⟨-, v2, v3⟩ := sv_vk0 hV
              obtain ⟨-, w2, w3⟩ := sv_vk0 hw
              have e3 : sv_u (sv_ev ρ' ve) = sv_u (sv_ev ρ we) := Sum.inl.inj (Sum.inl.inj (v2.symm.trans w2))
              show sv_ev ρ we = sv_ev ρ' ve
              rw [← sv_g_u w3, ← sv_g_u v3, e3]
            | 1, _, ⟨_, a, a1, a2, _⟩, ⟨_, b, b1, b2, _⟩ =>
              have e3 : a = b := Option.some.inj (Sum.inr.inj (Sum.inr.inj (a2.symm.trans b2)))
              subst e3
              exact b1.trans a1.symm
          refine ⟨_, hs, fun s' e' he => ?_, fun s' e' he => ?_, fun s' g hg => ?_⟩
          · have he : cond (Nat.beq s s') (some w.2.2) (ae_lk mp s') = some e' := he
            cases hq : Nat.beq s s' with
            | true =>
              rw [hq, cond_true] at he
              cases he
              rw [← Nat.eq_of_beq_eq_true hq]
              exact ⟨Nat.le_of_ble_eq_true hd.2.2, hw.1⟩
            | false => rw [hq, cond_false] at he; exact hm s' e' he
          · have he : cond (Nat.beq s s') (some w.2.2) (ae_lk mp s') = some e' := he
            cases hq : Nat.beq s s' with
            | true =>
              rw [hq, cond_true] at he
              cases he
              rw [← Nat.eq_of_beq_eq_true hq]
              exact hval
            | false => rw [hq, cond_false] at he; exact hx s' e' he
          · show cond (Nat.beq s s') (some w.2.2) (ae_lk mp s') = some g
            cases hq : Nat.beq s s' with
            | true => rw [← Nat.eq_of_beq_eq_true hq, hnone] at hg; cases hg
            | false => rw [cond_false]; exact hg
    · exact ⟨mp, hs, hm, hx, fun _ _ h => h⟩
theorem sx_bB_ok {ρ' : Nat → Int} {N n : Nat} {F : List sv_F} (hF : ∀ q ∈ F, sv_Fk ty ρ n h q) : ∀ {l : List sv_F} {mp : sv_mp} {K : sv_mp → Bool}, (∀ q ∈ l, sv_Fk ty ρ' N h q) → sv_mk n N mp → sv_mz ρ ρ' mp → sx_bB N F l mp K = true → ∃ mp2, K mp2 = true ∧ sv_mk n N mp2 ∧ sv_mz ρ ρ' mp2 ∧ ∀ s g, ae_lk mp s = some g → ae_lk mp2 s = some g
  | [], mp, K, _, hm, hx, hs => ⟨mp, hs, hm, hx, fun _ _ h => h⟩
  | q :: l, mp, K, hl, hm, hx, hs => by
    have hs : (match ae_lk mp q.1.1 with
      | none => sx_bB N F l mp K
      | some _ => sx_sy mp q.1.1 fun x => (match sx_fl x q.1.2.1 q.1.2.2 F with
        | some w => sx_b2 N q.2 w mp fun mp => sx_bB N F l mp K
        | none => sx_bB N F l mp K)) = true := hs
    have hlt := fun y hy => hl y (List.mem_cons_of_mem q hy)
    cases hg : ae_lk mp q.1.1 with
    | none => rw [hg] at hs; exact sx_bB_ok hF hlt hm hx hs
    | some g =>
    rw [hg] at hs
    obtain ⟨x, hs, h2, h3, h4⟩ := sx_sy_ok hm ρ hs
    split at hs
    · next w ew =>
      obtain ⟨-, k, ci, fs, c, y1, y2, y3, y4, y5⟩ := hl q (List.mem_cons_self ..)
      obtain ⟨-, k0, ci0, fs0, c0, z1, z2, z3, z4, z5⟩ := hF _ (sx_fl_ok ew)
      have z1 : ρ x = k0 := z1
      have hrx : sv_rm ρ mp q.1.1 = ρ' q.1.1 := by
        have := hx _ _ hg
        unfold sv_rm; rw [hg]; exact this
      have ek : k0 = k := by omega
      subst ek
      rw [y3] at z3
      cases z3
      rw [y4] at z4
      cases z4
      obtain ⟨mp2, k2, m2, x2, t2⟩ := sx_b2_ok hm hx y5 z5 hs
      obtain ⟨mp3, k3, m3, x3, t3⟩ := sx_bB_ok hF hlt m2 x2 k2
      exact ⟨mp3, k3, m3, x3, fun s g hg => t3 s g (t2 s g hg)⟩
    · exact sx_bB_ok hF hlt hm hx hs
/-- symbols of places of rows that stayed are bound to the old values -/
noncomputable def sx_b3 (N : Nat) (V w : sv_L) (mp : sv_mp) (K : sv_mp → Bool) : Bool := match V with
  | (c, [(s, k)]) => cond (and (sv_iz c) (and (sv_ieq k 1) (Nat.blt s N))) (match ae_lk mp s with
    | some _ => K mp
    | none => K ((s, w) :: mp)) (K mp)
  | _ => K mp
noncomputable def sx_bM (N : Nat) (Mm : List sv_M) (l : List sv_M) : sv_mp → (sv_mp → Bool) → Bool := List.rec (motive := fun _ => sv_mp → (sv_mp → Bool) → Bool) (fun mp K => K mp) (fun q _ ih mp K => match ae_lk mp q.1, q.2.2.1.2 with
  | some _, [] => sx_sy mp q.1 fun x => (match sx_ml x (q.2.2.1.1, []) Mm with
    | some w => sx_b3 N q.2.2.2 w mp fun mp => ih mp K
    | none => ih mp K)
  | _, _ => ih mp K) l
theorem sx_b3_ok {ρ' : Nat → Int} {N n : Nat} {V w : sv_L} {mp : sv_mp} {K : sv_mp → Bool} (hm : sv_mk n N mp) (hx : sv_mz ρ ρ' mp) (hww : sv_wf n w) (hv : sv_ev ρ w = sv_ev ρ' V) (hs : sx_b3 N V w mp K = true) : ∃ mp2, K mp2 = true ∧ sv_mk n N mp2 ∧ sv_mz ρ ρ' mp2 ∧ ∀ s g, ae_lk mp s = some g → ae_lk mp2 s = some g := by
  unfold sx_b3 at hs
  split at hs
  · next c0 s k0 =>
    cases hd : and (sv_iz c0) (and (sv_ieq k0 1) (Nat.blt s N)) with
    | false => rw [hd, cond_false] at hs; exact ⟨mp, hs, hm, hx, fun _ _ h => h⟩
    | true =>
      rw [hd, cond_true] at hs
      split at hs
      · exact ⟨mp, hs, hm, hx, fun _ _ h => h⟩
      · next hnone =>
        rw [Bool.and_eq_true, Bool.and_eq_true] at hd
        have e1 := sv_iz_iff.mp hd.1
        have e2 := sv_ieq_ok hd.2.1
        subst e1 e2
        have hval : sv_ev ρ w = ρ' s := by
          rw [hv]; show (0 : Int) + (1 * ρ' s + 0) = ρ' s; omega
        refine ⟨_, hs, fun s' e' he => ?_, fun s' e' he => ?_, fun s' g hg => ?_⟩
        · have he : cond (Nat.beq s s') (some w) (ae_lk mp s') = some e' := he
          cases hq : Nat.beq s s' with
          | true =>
            rw [hq, cond_true] at he
            cases he
            rw [← Nat.eq_of_beq_eq_true hq]
            exact ⟨Nat.le_of_ble_eq_true hd.2.2, hww⟩
          | false => rw [hq, cond_false] at he; exact hm s' e' he
        · have he : cond (Nat.beq s s') (some w) (ae_lk mp s') = some e' := he
          cases hq : Nat.beq s s' with
          | true =>
            rw [hq, cond_true] at he
            cases he
            rw [← Nat.eq_of_beq_eq_true hq]
            exact hval
          | false => rw [hq, cond_false] at he; exact hx s' e' he
        · show cond (Nat.beq s s') (some w) (ae_lk mp s') = some g
          cases hq : Nat.beq s s' with
          | true => rw [← Nat.eq_of_beq_eq_true hq, hnone] at hg; cases hg
          | false => rw [cond_false]; exact hg
  · exact ⟨mp, hs, hm, hx, fun _ _ h => h⟩
theorem sx_bM_ok {ρ' : Nat → Int} {N n : Nat} {Mm : List sv_M} (hM : ∀ q ∈ Mm, sv_Mk ty ρ n h q) : ∀ {l : List sv_M} {mp : sv_mp} {K : sv_mp → Bool}, (∀ q ∈ l, sv_Mk ty ρ' N h q) → sv_mk n N mp → sv_mz ρ ρ' mp → sx_bM N Mm l mp K = true → ∃ mp2, K mp2 = true ∧ sv_mk n N mp2 ∧ sv_mz ρ ρ' mp2 ∧ ∀ s g, ae_lk mp s = some g → ae_lk mp2 s = some g
  | [], mp, K, _, hm, hx, hs => ⟨mp, hs, hm, hx, fun _ _ h => h⟩
  | q :: l, mp, K, hl, hm, hx, hs => by
    have hs : (match ae_lk mp q.1, q.2.2.1.2 with
      | some _, [] => sx_sy mp q.1 fun x => (match sx_ml x (q.2.2.1.1, []) Mm with
        | some w => sx_b3 N q.2.2.2 w mp fun mp => sx_bM N Mm l mp K
        | none => sx_bM N Mm l mp K)
      | _, _ => sx_bM N Mm l mp K) = true := hs
    have hlt := fun y hy => hl y (List.mem_cons_of_mem q hy)
    split at hs
    · next g hg hnil =>
      obtain ⟨x, hs, h2, h3, h4⟩ := sx_sy_ok hm ρ hs
      split at hs
      · next w ew =>
        obtain ⟨t, hmem⟩ := sx_ml_ok ew
        obtain ⟨-, -, -, k, tag, len, A, i, y1, y2, y3, y4, y5, y6⟩ := hl q (List.mem_cons_self ..)
        obtain ⟨-, -, ww, k0, tag0, len0, A0, i0, z1, z2, z3, z4, z5, z6⟩ := hM _ hmem
        have z1 : ρ x = k0 := z1
        have hrx : sv_rm ρ mp q.1 = ρ' q.1 := by
          have := hx _ _ hg
          unfold sv_rm; rw [hg]; exact this
        have ek : k0 = k := by omega
        subst ek
        rw [y3] at z3
        cases z3
        have ei : i0 = i := by
          have a1 : sv_ev ρ ((q.2.2.1.1, []) : sv_L) = i0 := z4
          have a2 : sv_ev ρ' q.2.2.1 = q.2.2.1.1 := by
            unfold sv_ev; rw [hnil]; show _ + (0 : Int) = _; omega
          rw [sv_ev0] at a1
          omega
        subst ei
        have hval : sv_ev ρ w = sv_ev ρ' q.2.2.2 := by
          have z6 : sv_ev ρ w = sv_g (ae_rd 32 A i0) := z6
          rw [z6, y6]
        obtain ⟨mp2, k2, m2, x2, t2⟩ := sx_b3_ok hm hx ww hval hs
        obtain ⟨mp3, k3, m3, x3, t3⟩ := sx_bM_ok hM hlt m2 x2 k2
        exact ⟨mp3, k3, m3, x3, fun s g hg => t3 s g (t2 s g hg)⟩
      · exact sx_bM_ok hM hlt hm hx hs
    · exact sx_bM_ok hM hlt hm hx hs
noncomputable def sx_pn2 (l : List (Int × Int)) : Nat → sv_A → sv_mp → (sv_A → sv_mp → Bool) → Bool := List.rec (motive := fun _ => Nat → sv_A → sv_mp → (sv_A → sv_mp → Bool) → Bool) (fun _ a mp K => K a mp) (fun b _ ih k a mp K => match ae_lk mp k with
  | some e => sx_bt (b.1, []) (b.2, []) e a fun a => sv_fn (Nat.succ k) fun k2 => ih k2 a mp K
  | none => sv_nw a b.1 b.2 fun a e => sv_fn (Nat.succ k) fun k2 => ih k2 a ((k, e) :: mp) K) l
theorem sx_pn2_ok {ρ' : Nat → Int} {N : Nat} : ∀ {l : List (Int × Int)} {k : Nat} {ρ : Nat → Int} {a : sv_A} {mp : sv_mp} {K : sv_A → sv_mp → Bool}, k + l.length = N → (∀ (j : Nat) (b : Int × Int), l[j]? = some b → b.1 ≤ ρ' (k + j) ∧ ρ' (k + j) ≤ b.2) → sv_ak ρ a → sv_mk a.1 N mp → sv_mw ρ ρ' mp k → sv_mz ρ ρ' mp → sx_pn2 l k a mp K = true → ∃ ρ2 a2 mp2, K a2 mp2 = true ∧ sv_ak ρ2 a2 ∧ a.1 ≤ a2.1 ∧ (∀ s, s < a.1 → ρ2 s = ρ s) ∧ sv_mk a2.1 N mp2 ∧ sv_mw ρ2 ρ' mp2 N
  | [], k, ρ, a, mp, K, hN, hb, ha, hm, hw, hz, hs => ⟨ρ, a, mp, hs, ha, Nat.le_refl _, fun _ _ => rfl, hm, by rw [← hN]; exact hw⟩
  | b :: l, k, ρ, a, mp, K, hN, hb, ha, hm, hw, hz, hs => by
    have hs : (match ae_lk mp k with
      | some e => sx_bt (b.1, []) (b.2, []) e a fun a => sv_fn (Nat.succ k) fun k2 => sx_pn2 l k2 a mp K
      | none => sv_nw a b.1 b.2 fun a e => sv_fn (Nat.succ k) fun k2 => sx_pn2 l k2 a ((k, e) :: mp) K) = true := hs
    obtain ⟨b1, b2⟩ := hb 0 b rfl
    rw [List.length_cons] at hN
    have hb2 : ∀ (j : Nat) (b : Int × Int), l[j]? = some b → b.1 ≤ ρ' (k + 1 + j) ∧ ρ' (k + 1 + j) ≤ b.2 := fun j b hj => by
      have := hb (j + 1) b (by simpa using hj)
      rw [show k + 1 + j = k + (j + 1) by omega]; exact this
    split at hs
    · next e he =>
      have hv := hz k e he
      obtain ⟨a2, k2, r2, e2⟩ := sx_bt_ok ha (sv_wf0 _ _) (sv_wf0 _ _) (hm k e he).2 (by rw [sv_ev0, hv]; exact b1) (by rw [sv_ev0, hv]; exact b2) hs
      rw [sv_fn_eq] at k2
      have hw2 : sv_mw ρ ρ' mp (k + 1) := fun s hs => by
        by_cases e9 : s = k
        · subst e9; unfold sv_rm; rw [he]; exact hv
        · exact hw s (by omega)
      obtain ⟨ρ3, a3, mp3, k3, r3, n3, u3, m3, w3⟩ := sx_pn2_ok (ρ' := ρ') (N := N) (k := k + 1) (by omega) hb2 r2 (by rw [e2]; exact hm) hw2 hz k2
      exact ⟨ρ3, a3, mp3, k3, r3, by omega, fun s hs => u3 s (by omega), m3, w3⟩
    · next hnone =>
      obtain ⟨hlt, a2, k2, r2, e2, v2⟩ := sv_nw_ok ha b1 b2 hs
      rw [sv_fn_eq] at k2
      have hup := sv_up_lt (ρ := ρ) (v := ρ' (k + 0)) hlt
      have hlk : ∀ s, ae_lk ((k, ((0 : Int), [(a.1, (1 : Int))])) :: mp) s = cond (Nat.beq k s) (some (0, [(a.1, 1)])) (ae_lk mp s) := fun s => rfl
      have hm2 : sv_mk a2.1 N ((k, (0, [(a.1, 1)])) :: mp) := fun s e he => by
        rw [hlk] at he
        cases hq : Nat.beq k s with
        | true =>
          rw [hq, cond_true] at he
          cases he
          rw [← Nat.eq_of_beq_eq_true hq]
          exact ⟨by omega, by rw [e2]; exact sv_wf1 _⟩
        | false =>
          rw [hq, cond_false] at he
          exact ⟨(hm s e he).1, sv_wf_up (by omega) (hm s e he).2⟩
      have hz2 : sv_mz (sv_up ρ a.1 (ρ' (k + 0))) ρ' ((k, (0, [(a.1, 1)])) :: mp) := fun s e he => by
        rw [hlk] at he
        cases hq : Nat.beq k s with
        | true =>
          rw [hq, cond_true] at he
          cases he
          have ek := Nat.eq_of_beq_eq_true hq
          subst ek
          exact v2
        | false =>
          rw [hq, cond_false] at he
          rw [sv_ev_up hup (hm s e he).2]; exact hz s e he
      have hw2 : sv_mw (sv_up ρ a.1 (ρ' (k + 0))) ρ' ((k, (0, [(a.1, 1)])) :: mp) (k + 1) := fun s hs => by
        unfold sv_rm
        rw [hlk]
        cases hq : Nat.beq k s with
        | true =>
          rw [cond_true]
          have ek := Nat.eq_of_beq_eq_true hq
          subst ek
          exact v2
        | false =>
          rw [cond_false]
          have hne : k ≠ s := fun z => by subst z; rw [Nat.beq_refl] at hq; cases hq
          have hs2 : s < k := by omega
          have old := hw s hs2
          unfold sv_rm at old
          cases hl : ae_lk mp s with
          | none => rw [hl] at old; exact old
          | some e =>
            rw [hl] at old
            show sv_ev _ e = _
            rw [sv_ev_up hup (hm s e hl).2]; exact old
      obtain ⟨ρ3, a3, mp3, k3, r3, n3, u3, m3, w3⟩ := sx_pn2_ok (ρ' := ρ') (N := N) (k := k + 1) (by omega) hb2 r2 hm2 hw2 hz2 k2
      exact ⟨ρ3, a3, mp3, k3, r3, by omega, fun s hs => (u3 s (by omega)).trans (hup s hs), m3, w3⟩
/-- a field that stayed has its old value -/
noncomputable def sx_pE (mp : sv_mp) (F : List sv_F) (l : List sv_F) : sv_A → (sv_A → Bool) → Bool := List.rec (motive := fun _ => sv_A → (sv_A → Bool) → Bool) (fun a K => K a) (fun q _ ih a K => sx_sy mp q.1.1 fun x => sx_pv mp q.2 fun w => (match sx_fl x q.1.2.1 q.1.2.2 F with
  | some w0 => cond (and (Nat.beq w.1 0) (Nat.beq w0.1 0)) (sv_ma (-1) w.2.2 w0.2.2 fun d => sv_as a d fun a => sv_ma (-1) w0.2.2 w.2.2 fun d => sv_as a d fun a => ih a K) (ih a K)
  | none => ih a K)) l
theorem sx_pE_ok {ρ' : Nat → Int} {N n : Nat} {mp : sv_mp} {F : List sv_F} (hm : sv_mk n N mp) (hw : sv_mw ρ ρ' mp N) (hF : ∀ q ∈ F, sv_Fk ty ρ n h q) : ∀ {l : List sv_F} {a : sv_A} {K : sv_A → Bool}, (∀ q ∈ l, sv_Fk ty ρ' N h q) → sv_ak ρ a → a.1 = n → sx_pE mp F l a K = true → ∃ a2, K a2 = true ∧ sv_ak ρ a2 ∧ a2.1 = a.1
  | [], a, K, _, ha, _, hs => ⟨a, hs, ha, rfl⟩
  | q :: l, a, K, hl, ha, hn, hs => by
    have ih := fun a K => sx_pE_ok (a := a) (K := K) hm hw hF (fun y hy => hl y (List.mem_cons_of_mem _ hy))
    have hs : (sx_sy mp q.1.1 fun x => sx_pv mp q.2 fun w => (match sx_fl x q.1.2.1 q.1.2.2 F with
      | some w0 => cond (and (Nat.beq w.1 0) (Nat.beq w0.1 0)) (sv_ma (-1) w.2.2 w0.2.2 fun d => sv_as a d fun a => sv_ma (-1) w0.2.2 w.2.2 fun d => sv_as a d fun a => sx_pE mp F l a K) (sx_pE mp F l a K)
      | none => sx_pE mp F l a K)) = true := hs
    obtain ⟨x, hs, h2, h3, h4⟩ := sx_sy_ok hm ρ hs
    obtain ⟨-, k, ci, fs, c, y1, y2, y3, y4, y5⟩ := hl q (List.mem_cons_self ..)
    obtain ⟨w, hs, hv⟩ := sx_pv_ok hm hw y5 hs
    split at hs
    · next w0 e0 =>
      cases hc : and (Nat.beq w.1 0) (Nat.beq w0.1 0) with
      | false => rw [hc, cond_false] at hs; exact ih a K ha hn hs
      | true =>
        rw [hc, cond_true] at hs
        simp only [sv_ma_f] at hs
        rw [Bool.and_eq_true] at hc
        obtain ⟨-, k0, ci0, fs0, c0, z1, z2, z3, z4, z5⟩ := hF _ (sx_fl_ok e0)
        have z1 : ρ x = k0 := z1
        have hx : ρ x = k := by rw [← h4, hw _ h2]; exact y1
        have ek : k0 = k := by omega
        subst ek
        rw [y3] at z3
        cases z3
        rw [y4] at z4
        cases z4
        obtain ⟨wk, wt, we⟩ := w
        obtain ⟨vk, vt, ve⟩ := w0
        have e1 : wk = 0 := Nat.eq_of_beq_eq_true hc.1
        have e2 : vk = 0 := Nat.eq_of_beq_eq_true hc.2
        subst e1 e2
        obtain ⟨w1, w2, w3⟩ := sv_vk0 hv
        obtain ⟨v1, v2, v3⟩ := sv_vk0 z5
        have heq : sv_ev ρ we = sv_ev ρ ve := by
          have e3 : sv_u (sv_ev ρ we) = sv_u (sv_ev ρ ve) := Sum.inl.inj (Sum.inl.inj (w2.symm.trans v2))
          rw [← sv_g_u w3, ← sv_g_u v3, e3]
        obtain ⟨a2, q1, q2, q3⟩ := sv_as_ok ha (by rw [hn]; exact sv_mf_wf w1 v1) (by rw [sv_mf_ev]; show 0 ≤ -1 * sv_ev ρ we + sv_ev ρ ve; omega) hs
        obtain ⟨a3, p1, p2, p3⟩ := sv_as_ok q2 (by rw [q3, hn]; exact sv_mf_wf v1 w1) (by rw [sv_mf_ev]; show 0 ≤ -1 * sv_ev ρ ve + sv_ev ρ we; omega) q1
        obtain ⟨a4, r1, r2, r3⟩ := ih a3 K p2 (p3.trans (q3.trans hn)) p1
        exact ⟨a4, r1, r2, r3.trans (p3.trans q3)⟩
    · exact ih a K ha hn hs
/-- behind a call: one of the patterns -/
noncomputable def sx_aft (od : Nat → List (Nat × Nat)) (C : sv_C) (mp : sv_mp) (P : sv_P) (S : sv_S) (loc : List (Nat × sv_V)) (rest : List sv_V) (K : sv_S → Bool) : Bool := cond (Nat.ble C.2.2.1.2.1.length P.2.1.length) (sx_bB P.2.1.length (sv_kF C.2.1 S.2.2.2.1) P.2.2.2.2.1 mp fun mp => sx_bM P.2.1.length (sv_kM C.2.1 S.2.2.2.2.1) P.2.2.2.2.2.1 mp fun mp => sx_pn2 (List.drop C.2.2.1.2.1.length P.2.1) C.2.2.1.2.1.length S.1 mp fun a mp => sx_pE mp (sv_kF C.2.1 S.2.2.2.1) P.2.2.2.2.1 a fun a => sx_pc mp P.2.2.1 a fun a => sx_pF mp P.2.2.2.2.1 (sv_kF C.2.1 S.2.2.2.1) fun F => sx_pM mp P.2.2.2.2.2.1 (sv_kM C.2.1 S.2.2.2.2.1) fun Mm => sx_pQ mp P.2.2.2.2.2.2 (sv_kQ od C.2.1 S.2.2.2.2.2) fun Q => (match ae_lk P.2.2.2.1 1000 with
  | some V => sx_pv mp V fun w => K (a, loc, w :: rest, F, Mm, Q)
  | none => K (a, loc, rest, F, Mm, Q))) false
noncomputable def sx_app (tt : List sv_T) (od : Nat → List (Nat × Nat)) (mods : List (Nat × Nat)) (C : sv_C) (S : sv_S) (vs rest : List sv_V) (K : sv_S → Bool) : Bool := sx_mat tt C.2.2.1 [] (S.1, sx_args vs 0, rest, S.2.2.2) fun S2 mp => cond (and (sx_ck tt mp C.2.2.1 S2) (sv_sub C.2.1 mods)) (sx_al (fun P => sx_aft od C mp P S2 S.2.1 rest K) C.2.2.2) false
theorem sv_mk_lift {n N N' : Nat} {mp : sv_mp} (hN : N ≤ N') (hm : sv_mk n N mp) : sv_mk n N' mp := fun s e he => ⟨Nat.lt_of_lt_of_le (hm s e he).1 hN, (hm s e he).2⟩
theorem sx_app_ok {C : sv_C} {vs rest : List sv_V} {as crest : List ae_V} {K : sv_S → Bool} {G : Option ae_V → ae_H → Prop} (hty : ∀ q t, ty q = some t → q < 256) (ho : sv_opk ty op od) (hC : sv_ctk ty tt op C) (hR : sv_R ty tt op ρ0 n0 mods h0 ρ S lv st h) (hvs : sv_sk ty ρ S.1.1 vs as) (hr : sv_sk ty ρ S.1.1 rest crest)
    (hK : ∀ S ρ st h, K S = true → sv_R ty tt op ρ0 n0 mods h0 ρ S lv st h → ∀ v, st = sv_push v crest → G v h) (hs : sx_app tt od mods C S vs rest K = true) : sv_G (fun r => G r.1 r.2) C.1 0 (ae_args as 0) [] h := by
  unfold sx_app at hs
  obtain ⟨ha, hn, hl, hstk, hh, ht⟩ := hR
  have hRa : sv_R ty tt op ρ0 n0 mods h0 ρ (S.1, sx_args vs 0, rest, S.2.2.2) (ae_args as 0) crest h := ⟨ha, hn, sx_args_ok 0 hvs, hr, hh, ht⟩
  obtain ⟨ρ2, S2, mp, k2, r2, m2, n2, u2, -, t2, l2⟩ := sx_mat_ok hty hRa (fun s e he => by cases he) hs
  have k2 : cond (and (sx_ck tt mp C.2.2.1 S2) (sv_sub C.2.1 mods)) (sx_al (fun P => sx_aft od C mp P S2 S.2.1 rest K) C.2.2.2) false = true := k2
  have n2 : S.1.1 ≤ S2.1.1 := n2
  have u2 : ∀ s, s < S.1.1 → ρ2 s = ρ s := u2
  cases hc : and (sx_ck tt mp C.2.2.1 S2) (sv_sub C.2.1 mods) with
  | false => rw [hc, cond_false] at k2; cases k2
  | true =>
    rw [hc, cond_true] at k2
    rw [Bool.and_eq_true] at hc
    have hP := sx_ck_ok m2 r2 hc.1
    refine sv_G_mono (fun r hpost => ?_) (hC (sv_rm ρ2 mp) (ae_args as 0) h ht.1 hP)
    obtain ⟨P, hPm, ρ', hag, hPk, hT2, hnone⟩ := hpost
    have hs2 := sx_al_ok k2 P hPm
    unfold sx_aft at hs2
    cases hle : Nat.ble C.2.2.1.2.1.length P.2.1.length with
    | false => rw [hle, cond_false] at hs2; cases hs2
    | true =>
      rw [hle, cond_true] at hs2
      have hle := Nat.le_of_ble_eq_true hle
      obtain ⟨p1, p2, p3, p4⟩ := hPk
      obtain ⟨ra, ⟨rn, r00⟩, rl, rs, rh, rt⟩ := r2
      have hfr := rh.fr rt.1 ho hT2.2
      have hz0 : sv_mz ρ2 ρ' mp := fun s e he => by
        have h1 := hag s (m2 s e he).1
        have h2 : sv_rm ρ2 mp s = sv_ev ρ2 e := by unfold sv_rm; rw [he]
        rw [← h2]; exact h1.symm
      obtain ⟨mp9, k9, m9, z9, t9⟩ := sx_bB_ok hfr.1 p4.1 (sv_mk_lift hle m2) hz0 hs2
      obtain ⟨mp8, k8, m8, z8, t98⟩ := sx_bM_ok hfr.2.1 p4.2.1 m9 z9 k9
      have t8 : ∀ s g, ae_lk mp s = some g → ae_lk mp8 s = some g := fun s g hg => t98 s g (t9 s g hg)
      obtain ⟨ρ3, a3, mp3, k3, r3, n3, u3, m3, w3⟩ := sx_pn2_ok (ρ' := ρ') (N := P.2.1.length) (by rw [List.length_drop]; omega) (fun j b hj => by
        rw [List.getElem?_drop] at hj
        exact p1 _ b hj) ra m8 (fun s hs => by
          have h1 := hag s hs
          cases hl9 : ae_lk mp s with
          | some e => unfold sv_rm; rw [t8 s e hl9]; exact z8 s e (t8 s e hl9)
          | none =>
            cases hl8 : ae_lk mp8 s with
            | some e => unfold sv_rm; rw [hl8]; exact z8 s e hl8
            | none =>
              have h2 : sv_rm ρ2 mp s = 0 := by unfold sv_rm; rw [hl9]
              unfold sv_rm; rw [hl8]; rw [h2] at h1; exact h1.symm) z8 k8
      have hfr3 : sv_Hk ty op ρ3 a3.1 r.2 (sv_kF C.2.1 S2.2.2.2.1) (sv_kM C.2.1 S2.2.2.2.2.1) (sv_kQ od C.2.1 S2.2.2.2.2.2) := hfr.up u3 n3
      obtain ⟨a9, k9, r9, e9⟩ := sx_pE_ok m3 w3 hfr3.1 p4.1 r3 rfl k3
      obtain ⟨a4, k4, r4, e4⟩ := sx_pc_ok m3 w3 (fun c hc => (p2 c hc).1) r9 e9 k9
      have e4 : a4.1 = a3.1 := e4.trans e9
      obtain ⟨F, k5, hF⟩ := sx_pF_ok m3 w3 p4.1 hfr3.1 k4
      obtain ⟨Mm, k6, hM⟩ := sx_pM_ok m3 w3 p4.2.1 hfr3.2.1 k5
      obtain ⟨Q, k7, hQ⟩ := sx_pQ_ok m3 w3 p4.2.2 hfr3.2.2 k6
      have hle4 : S.1.1 ≤ a4.1 := by omega
      have hup : ∀ s, s < S.1.1 → ρ3 s = ρ s := fun s hs => (u3 s (by omega)).trans (u2 s hs)
      have hmods : ∀ q ∈ C.2.1, q ∈ mods := sv_sub_ok hc.2
      have hT : sv_Tk ty tt mods h0 r.2 := ⟨hT2.1, ht.2.tr (hT2.2.wd hmods)⟩
      have base : ∀ (stk : List sv_V) (cst : List ae_V), sv_sk ty ρ3 a4.1 stk cst → sv_R ty tt op ρ0 n0 mods h0 ρ3 (a4, S.2.1, stk, F, Mm, Q) lv cst r.2 := fun stk cst hk =>
        ⟨r4, ⟨by show n0 ≤ a4.1; omega, fun s hs => (hup s (by omega)).trans (hn.2 s hs)⟩, hl.up hup hle4, hk, by show sv_Hk ty op ρ3 a4.1 _ _ _ _; rw [e4]; exact ⟨hF, hM, hQ⟩, hT⟩
      have hr4 : sv_sk ty ρ3 a4.1 rest crest := hr.up hup hle4
      split at k7
      · next V eV =>
        obtain ⟨c, c1, c2⟩ := p3 1000 V eV
        have hrv : r.1 = some c := by
          cases hr1 : r.1 with
          | none => rw [hr1] at c1; cases c1
          | some d =>
            rw [hr1] at c1
            have c1 : cond (Nat.beq 1000 1000) (some d) none = some c := c1
            rw [Nat.beq_refl, cond_true] at c1
            exact c1
        obtain ⟨w, k8, hv⟩ := sx_pv_ok m3 w3 c2 k7
        exact hK _ ρ3 (c :: crest) r.2 k8 (base _ _ ⟨c, crest, rfl, by rw [e4]; exact hv, hr4⟩) r.1 (by rw [hrv]; rfl)
      · next eV =>
        exact hK _ ρ3 crest r.2 k7 (base _ _ hr4) r.1 (by rw [hnone eV]; rfl)
end
