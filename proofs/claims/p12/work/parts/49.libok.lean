/-! CALLS OF THE LIBRARY ARE SOUND -/
section
variable {ty : Nat → Option Nat} {tt : List sv_T} {op : Nat → ae_H → Nat → Nat → Int → Int → Int → Int → Prop} {od : Nat → List (Nat × Nat)} {ρ0 : Nat → Int} {n0 : Nat} {mods : List (Nat × Nat)} {h0 : ae_H} {ρ : Nat → Int} {S : sv_S} {lv : ae_L} {st : List ae_V} {h : ae_H} {K : Nat → sv_S → Bool} {G : Nat → ae_L → List ae_V → ae_H → Prop} {M : ae_M} {pc : Nat}
theorem sx_rm0 : ae_rm M 0 0 = true := by
  show and (Nat.ble 0 _) (Nat.ble 0 _) = true
  rw [Nat.ble_eq_true_of_le (Nat.zero_le _), Nat.ble_eq_true_of_le (Nat.zero_le _)]; rfl
theorem sx_lib_ok {kd vir idx x0 y0 : Nat} (hc : ae_cp M.1 idx = some (kd, x0, y0)) (hty : ∀ q t, ty q = some t → q < 256) (ho : sv_opk ty op od) (hR : sv_R ty tt op ρ0 n0 mods h0 ρ S lv st h) (hs : sx_lib tt od mods kd vir M pc S K = true)
    (hK : ∀ pc S ρ lv st h, K pc S = true → sv_R ty tt op ρ0 n0 mods h0 ρ S lv st h → G pc lv st h)
    (hG : ∀ pc' lv' st' h', (∀ K C, ae_call M vir idx pc 0 0 lv st h K C = K pc' 0 0 lv' st' h') → G pc' lv' st' h' → G pc lv st h) : G pc lv st h := by
  have hk := hR.2.2.2.1
  unfold sx_lib at hs
  split at hs
  · generalize hB : (and (Nat.beq vir 0) (and (Nat.ble 1 M.2.2.2.2.2.2.2.1) (Nat.ble 60 M.2.2.2.2.2.2.2.2.1))) = B at hs
    cases B with
    | false => rw [cond_false] at hs; cases hs
    | true =>
      rw [cond_true] at hs
      obtain ⟨S2, st2, h2, k2, r2, c2, e2⟩ := sx_cpy_ok hty ho hR hs
      refine hG _ _ _ _ (fun K C => ?_) (hK _ _ _ _ _ _ k2 r2)
      unfold ae_call
      rw [hc]
      show cond (and (Nat.beq vir 0) (and (Nat.ble 1 M.2.2.2.2.2.2.2.1) (Nat.ble 60 M.2.2.2.2.2.2.2.2.1))) (ae_cpy st h fun st h => cond (Nat.ble (ae_catS st) 8) (K (Nat.add pc 3) 0 0 lv st h) none) none = _
      rw [hB, cond_true, e2, Nat.ble_eq_true_of_le c2, cond_true]
  · generalize hB : (and (Nat.beq vir 0) (Nat.ble 1 M.2.2.2.2.2.2.2.1)) = B at hs
    cases B with
    | false => rw [cond_false] at hs; cases hs
    | true =>
      rw [cond_true] at hs
      rw [Bool.and_eq_true] at hB
      split at hs
      · next t1 y t2 x rest e =>
        rw [e] at hk
        obtain ⟨c1, cs1, rfl, hv1, hk2⟩ := sv_sk1 hk
        obtain ⟨c2, cs, rfl, hv2, hr⟩ := sv_sk1 hk2
        obtain ⟨wy, rfl, iy⟩ := sv_vk0 hv1
        obtain ⟨wx, rfl, ix⟩ := sv_vk0 hv2
        cases hl : Nat.ble (Nat.add (sx_cS rest) 13) M.2.2.2.2.2.2.2.2.1 with
        | false => rw [hl, cond_false] at hs; cases hs
        | true =>
          rw [hl, cond_true] at hs
          rw [← sx_cS_ok hr] at hl
          obtain ⟨ρ2, S2, k2, r2⟩ := sv_R_int (K := K (Nat.add pc 3)) hR hr (sx_mn_ok hR.1 wx wy ix iy hs)
          refine hG _ _ _ _ (fun K C => ?_) (hK _ _ _ _ _ _ k2 r2)
          unfold ae_call
          rw [hc]
          show cond (and (Nat.beq vir 0) (and (Nat.ble 1 M.2.2.2.2.2.2.2.1) (ae_rm M 0 0))) (cond (Nat.ble (Nat.add (ae_catS cs) 13) M.2.2.2.2.2.2.2.2.1) (K (Nat.add pc 3) 0 0 lv (ae_i (cond (Nat.blt (ae_bs (sv_u (sv_ev ρ y))) (ae_bs (sv_u (sv_ev ρ x)))) (sv_u (sv_ev ρ y)) (sv_u (sv_ev ρ x))) :: cs) h) none) none = _
          rw [hB.1, hB.2, sx_rm0, Bool.and_self, Bool.and_self, cond_true, hl, cond_true]
      · cases hs
  · generalize hB : (and (Nat.beq vir 0) (Nat.ble 1 M.2.2.2.2.2.2.2.1)) = B at hs
    cases B with
    | false => rw [cond_false] at hs; cases hs
    | true =>
      rw [cond_true] at hs
      rw [Bool.and_eq_true] at hB
      split at hs
      · next t1 y t2 x rest e =>
        rw [e] at hk
        obtain ⟨c1, cs1, rfl, hv1, hk2⟩ := sv_sk1 hk
        obtain ⟨c2, cs, rfl, hv2, hr⟩ := sv_sk1 hk2
        obtain ⟨wy, rfl, iy⟩ := sv_vk0 hv1
        obtain ⟨wx, rfl, ix⟩ := sv_vk0 hv2
        cases hl : Nat.ble (Nat.add (sx_cS rest) 13) M.2.2.2.2.2.2.2.2.1 with
        | false => rw [hl, cond_false] at hs; cases hs
        | true =>
          rw [hl, cond_true] at hs
          rw [← sx_cS_ok hr] at hl
          obtain ⟨ρ2, S2, k2, r2⟩ := sv_R_int (K := K (Nat.add pc 3)) hR hr (sx_mx_ok hR.1 wx wy ix iy hs)
          refine hG _ _ _ _ (fun K C => ?_) (hK _ _ _ _ _ _ k2 r2)
          unfold ae_call
          rw [hc]
          show cond (and (Nat.beq vir 0) (and (Nat.ble 1 M.2.2.2.2.2.2.2.1) (ae_rm M 0 0))) (cond (Nat.ble (Nat.add (ae_catS cs) 13) M.2.2.2.2.2.2.2.2.1) (K (Nat.add pc 3) 0 0 lv (ae_i (cond (Nat.blt (ae_bs (sv_u (sv_ev ρ x))) (ae_bs (sv_u (sv_ev ρ y)))) (sv_u (sv_ev ρ y)) (sv_u (sv_ev ρ x))) :: cs) h) none) none = _
          rw [hB.1, hB.2, sx_rm0, Bool.and_self, Bool.and_self, cond_true, hl, cond_true]
      · cases hs
  · generalize hB : (and (Nat.beq vir 0) (Nat.ble 1 M.2.2.2.2.2.2.2.1)) = B at hs
    cases B with
    | false => rw [cond_false] at hs; cases hs
    | true =>
      rw [cond_true] at hs
      rw [Bool.and_eq_true] at hB
      split at hs
      · next t2 x rest e =>
        rw [e] at hk
        obtain ⟨c2, cs, rfl, hv2, hr⟩ := sv_sk1 hk
        obtain ⟨wx, rfl, ix⟩ := sv_vk0 hv2
        cases hl : Nat.ble (Nat.add (sx_cS rest) 13) M.2.2.2.2.2.2.2.2.1 with
        | false => rw [hl, cond_false] at hs; cases hs
        | true =>
          rw [hl, cond_true] at hs
          rw [← sx_cS_ok hr] at hl
          obtain ⟨ρ2, S2, k2, r2⟩ := sv_R_int (K := K (Nat.add pc 3)) hR hr (sx_abs_ok hR.1 wx ix hs)
          refine hG _ _ _ _ (fun K C => ?_) (hK _ _ _ _ _ _ k2 r2)
          unfold ae_call
          rw [hc]
          show cond (and (Nat.beq vir 0) (and (Nat.ble 1 M.2.2.2.2.2.2.2.1) (ae_rm M 0 0))) (cond (Nat.ble (Nat.add (ae_catS cs) 13) M.2.2.2.2.2.2.2.2.1) (K (Nat.add pc 3) 0 0 lv (ae_i (cond (Nat.ble 2147483648 (sv_u (sv_ev ρ x))) (ae_sub 0 (sv_u (sv_ev ρ x))) (sv_u (sv_ev ρ x))) :: cs) h) none) none = _
          rw [hB.1, hB.2, sx_rm0, Bool.and_self, Bool.and_self, cond_true, hl, cond_true]
      · cases hs
  · generalize hB : (and (Nat.beq vir 1) (Nat.ble 4 M.2.2.2.2.2.2.2.1)) = B at hs
    cases B with
    | false => rw [cond_false] at hs; cases hs
    | true =>
      rw [cond_true] at hs
      rw [Bool.and_eq_true] at hB
      split at hs
      · next t x rest e =>
        rw [e] at hk
        obtain ⟨c2, cs, rfl, hv2, hr⟩ := sv_sk1 hk
        have ec : c2 = .inr (.inr (some t)) := hv2.2
        subst ec
        split at hs
        · next l el =>
          generalize hD : (and (Nat.ble 259 t) (and (Nat.ble (Nat.add (sx_cS rest) 60) M.2.2.2.2.2.2.2.2.1) (Nat.ble l.length 100000))) = D at hs
          cases D with
          | false => rw [cond_false] at hs; cases hs
          | true =>
            rw [cond_true] at hs
            rw [Bool.and_eq_true, Bool.and_eq_true] at hD
            have hlen : l.length ≤ 100000 := Nat.le_of_ble_eq_true hD.2.2
            have hl := hD.2.1
            rw [← sx_cS_ok hr] at hl
            refine hG _ _ _ h (fun K C => ?_) (hK _ _ _ _ _ _ hs (sv_R_psh (c := ae_i l.length) hR hr ⟨sv_wf0 _ _, ?_, ?_⟩))
            · unfold ae_call
              rw [hc]
              show cond (and (Nat.beq vir 1) (and (Nat.ble 4 M.2.2.2.2.2.2.2.1) (ae_rm M 0 0))) (match ae_xt t with
                | some l => cond (and (Nat.ble 259 t) (Nat.ble (Nat.add (ae_catS cs) 60) M.2.2.2.2.2.2.2.2.1)) (K (Nat.add pc 3) 0 0 lv (ae_i l.length :: cs) h) none
                | none => none) none = _
              rw [hB.1, hB.2, sx_rm0, Bool.and_self, Bool.and_self, cond_true, el]
              show cond (and (Nat.ble 259 t) (Nat.ble (Nat.add (ae_catS cs) 60) M.2.2.2.2.2.2.2.2.1)) (K (Nat.add pc 3) 0 0 lv (ae_i l.length :: cs) h) none = _
              rw [hD.1, hl, Bool.and_self, cond_true]
            · show ae_i _ = .inl (.inl (sv_u (sv_ev ρ ((l.length : Int), []))))
              rw [sv_ev0, sv_u_nat (by omega)]; rfl
            · show sv_I (sv_ev ρ ((l.length : Int), []))
              rw [sv_ev0]; unfold sv_I; omega
        · cases hs
      · cases hs
  · generalize hB : (and (Nat.beq vir 1) (Nat.ble 4 M.2.2.2.2.2.2.2.1)) = B at hs
    cases B with
    | false => rw [cond_false] at hs; cases hs
    | true =>
      rw [cond_true] at hs
      rw [Bool.and_eq_true] at hB
      split at hs
      · next t1 i t x rest e =>
        rw [e] at hk
        obtain ⟨c1, cs1, rfl, hv1, hk2⟩ := sv_sk1 hk
        obtain ⟨c2, cs, rfl, hv2, hr⟩ := sv_sk1 hk2
        obtain ⟨wi, rfl, ii⟩ := sv_vk0 hv1
        have ec : c2 = .inr (.inr (some t)) := hv2.2
        subst ec
        split at hs
        · next l el =>
          generalize hD : (and (Nat.ble 259 t) (and (Nat.ble (Nat.add (sx_cS rest) 60) M.2.2.2.2.2.2.2.2.1) (and (sx_ix S.1 i l.length) (sx_small l)))) = D at hs
          cases D with
          | false => rw [cond_false] at hs; cases hs
          | true =>
            rw [cond_true] at hs
            rw [Bool.and_eq_true, Bool.and_eq_true, Bool.and_eq_true] at hD
            obtain ⟨I, I1, I2, I3, I4⟩ := sx_ix_ok hR.1 ii hD.2.2.1
            have hz := sx_small_ok hD.2.2.2 l[I] (List.getElem_mem I2)
            have hl := hD.2.1
            rw [← sx_cS_ok hr] at hl
            obtain ⟨ρ2, S2, k2, r2⟩ := sv_R_int (K := K (Nat.add pc 3)) hR hr (sv_res_new (v := (l[I] : Int)) hR.1 hs (by omega) (by omega) (by unfold sv_I; omega) (sv_u_nat (by omega)))
            refine hG _ _ _ h (fun K C => ?_) (hK _ _ _ _ _ _ k2 r2)
            unfold ae_call
            rw [hc, I3]
            show cond (and (Nat.beq vir 1) (and (Nat.ble 4 M.2.2.2.2.2.2.2.1) (ae_rm M 0 0))) (match ae_xt t with
              | some l => (match ae_nth l I with
                | some z => cond (and (Nat.ble 259 t) (Nat.ble (Nat.add (ae_catS cs) 60) M.2.2.2.2.2.2.2.2.1)) (K (Nat.add pc 3) 0 0 lv (ae_i z :: cs) h) none
                | none => none)
              | none => none) none = _
            rw [hB.1, hB.2, sx_rm0, Bool.and_self, Bool.and_self, cond_true, el]
            show (match ae_nth l I with
                | some z => cond (and (Nat.ble 259 t) (Nat.ble (Nat.add (ae_catS cs) 60) M.2.2.2.2.2.2.2.2.1)) (K (Nat.add pc 3) 0 0 lv (ae_i z :: cs) h) none
                | none => none) = _
            rw [ae_nth_eq, List.getElem?_eq_getElem I2]
            show cond (and (Nat.ble 259 t) (Nat.ble (Nat.add (ae_catS cs) 60) M.2.2.2.2.2.2.2.2.1)) (K (Nat.add pc 3) 0 0 lv (ae_i l[I] :: cs) h) none = _
            rw [hD.1, hl, Bool.and_self, cond_true]
        · cases hs
      · cases hs
  · cases hs
end
