/-! LOADS FROM ROWS -/
/-- a row with numbers of its own: all its places, one by one -/
noncomputable def sx_sp (a : sv_A) (i : sv_L) (K : sv_A → sv_L → Bool) (l : List Nat) : Nat → Bool := List.rec (motive := fun _ => Nat → Bool) (fun _ => true) (fun z _ ih j => and (sv_cd a .eq i (Int.ofNat j, []) fun a => K a (Int.ofNat z, [])) (sv_fn (Nat.succ j) ih)) l
theorem sx_sp_ok {ρ : Nat → Int} {a : sv_A} {i : sv_L} {K : sv_A → sv_L → Bool} (ha : sv_ak ρ a) (wi : sv_wf a.1 i) : ∀ (l : List Nat) (j I : Nat), sx_sp a i K l j = true → sv_ev ρ i = I → j ≤ I → I < j + l.length → ∃ z a2, l[I - j]? = some z ∧ K a2 ((z : Int), []) = true ∧ sv_ak ρ a2 ∧ a2.1 = a.1
  | [], j, I, _, _, h1, h2 => by simp at h2; omega
  | z :: l, j, I, h, hI, h1, h2 => by
    have h : and (sv_cd a .eq i (Int.ofNat j, []) fun a => K a (Int.ofNat z, [])) (sv_fn (Nat.succ j) (sx_sp a i K l)) = true := h
    rw [Bool.and_eq_true, sv_fn_eq] at h
    by_cases e : I = j
    · subst e
      obtain ⟨a2, k2, r2, e2⟩ := sv_cd_ok (c := .eq) ha wi (sv_wf0 _ _) (by rw [sv_ev0]; exact hI) h.1
      exact ⟨z, a2, by rw [Nat.sub_self]; rfl, k2, r2, e2⟩
    · obtain ⟨w, a2, q1, q2⟩ := sx_sp_ok ha wi l (j + 1) I h.2 hI (by omega) (by rw [List.length_cons] at h2; omega)
      refine ⟨w, a2, ?_, q2⟩
      have e1 : I - j = (I - (j + 1)) + 1 := by omega
      rw [e1]; exact q1
/-- is an index within -/
noncomputable def sx_ix (a : sv_A) (i : sv_L) (n : Nat) : Bool := and (Nat.blt n 2147483648) (and (sv_p 3 a i) (sv_ma (-1) i (Int.ofNat n - 1, []) fun e => sv_p 3 a e))
theorem sx_ix_ok {ρ : Nat → Int} {a : sv_A} {i : sv_L} {n : Nat} (ha : sv_ak ρ a) (hI : sv_I (sv_ev ρ i)) (h : sx_ix a i n = true) : ∃ I : Nat, sv_ev ρ i = I ∧ I < n ∧ sv_u (sv_ev ρ i) = I ∧ n < 2147483648 := by
  unfold sx_ix at h
  rw [Bool.and_eq_true, Bool.and_eq_true, sv_ma_f] at h
  have h0 : n < 2147483648 := Nat.le_of_ble_eq_true h.1
  have h1 := sv_p_ok ha h.2.1
  have h2 := sv_p_ok ha h.2.2
  rw [sv_mf_ev, sv_ev0] at h2
  have h2 : 0 ≤ -1 * sv_ev ρ i + ((n : Int) - 1) := h2
  have := (sv_upos hI h1).1
  exact ⟨(sv_ev ρ i).toNat, by omega, by omega, by omega, h0⟩
noncomputable def sx_ld (tt : List sv_T) (tag pc : Nat) (S : sv_S) (K : Nat → sv_S → Bool) : Bool := match S.2.2.1 with
  | (0, _, i) :: v :: rest => cond (Nat.beq v.1 6) (cond (and (Nat.beq tag 0) (and (Nat.ble 256 v.2.1) (Nat.blt v.2.1 259))) (match ae_nth ae_exs (Nat.sub v.2.1 256) with
      | some l => cond (and (sx_ix S.1 i l.length) (Nat.ble l.length 1000)) (sx_sp S.1 i (fun a e => and (sv_nn (2147483647 - e.1)) (K (Nat.add pc 1) (a, S.2.1, (0, 0, e) :: rest, S.2.2.2))) l 0) false
      | none => false) false)
    (sx_ob S.1 v fun s t => (match ae_nth tt t with
      | some T => cond (and (Nat.beq T.1 1) (and (ae_tq T.2.1 tag) (sx_ix S.1 i T.2.2.1))) (match sx_ml s i S.2.2.2.2.1 with
        | some x => K (Nat.add pc 1) (S.1, S.2.1, (0, 0, x) :: rest, S.2.2.2)
        | none => sv_nw S.1 T.2.2.2.1 T.2.2.2.2.1 fun a r => sx_fa s i r S.2.2.2.2.1 S.2.2.2.2.2 a fun a => K (Nat.add pc 1) (a, S.2.1, (0, 0, r) :: rest, S.2.2.2.1, (s, t, i, r) :: S.2.2.2.2.1, S.2.2.2.2.2)) false
      | none => false))
  | _ => false
section
variable {ty : Nat → Option Nat} {tt : List sv_T} {op : Nat → ae_H → Nat → Nat → Int → Int → Int → Int → Prop} {od : Nat → List (Nat × Nat)} {ρ0 : Nat → Int} {n0 : Nat} {mods : List (Nat × Nat)} {h0 : ae_H} {ρ : Nat → Int} {S : sv_S} {lv : ae_L} {st : List ae_V} {h : ae_H} {K : Nat → sv_S → Bool} {G : Nat → ae_L → List ae_V → ae_H → Prop} {M : ae_M} {pc : Nat}
theorem sv_hk_a {k t : Nat} {T : sv_T} (hh : sv_hk ty tt h) (hk : ty k = some t) (hT : tt[t]? = some T) (h0 : T.1 = 1) : ∃ A, ae_hg h k = some (.inl (T.2.1, T.2.2.1, .inl A)) ∧ ∀ i, i < T.2.2.1 → T.2.2.2.1 ≤ sv_g (ae_rd 32 A i) ∧ sv_g (ae_rd 32 A i) ≤ T.2.2.2.2.1 ∧ sv_mb T.2.2.2.2.2.1 (sv_g (ae_rd 32 A i)) := by
  obtain ⟨T2, e, ho⟩ := hh k t hk
  rw [hT] at e
  cases e
  unfold sv_ok at ho
  rw [h0] at ho
  exact ho
theorem sv_in_i {I n : Nat} (h1 : I < n) (h2 : n < 2147483648) : ae_in (.inl I) n = true := by
  show and (Nat.blt I n) (Nat.blt n 2147483648) = true
  rw [Bool.and_eq_true]
  exact ⟨Nat.ble_eq_true_of_le h1, Nat.ble_eq_true_of_le h2⟩
theorem sv_ald {tag t n A I q : Nat} {rest : List ae_V} (ht : tag ≤ 1) (hg : ae_hg h q = some (.inl (t, n, .inl A))) (hq : ae_tq t tag = true) (h1 : I < n) (h2 : n < 2147483648) (K : List ae_V → Option ae_R) : ae_ald tag (.inl (.inl I) :: .inr (.inr (some q)) :: rest) h K = K (ae_i (ae_rd 32 A I) :: rest) := by
  unfold ae_ald; dsimp only
  rw [hg]
  show cond (and (ae_tq t tag) (ae_in (.inl I) n)) (cond (Nat.beq tag 3) (ae_f (ae_rd 64 A I) fun z => K (ae_j z :: rest)) (ae_f (ae_rd 32 A I) fun z => K (ae_i z :: rest))) none = _
  have h3 : Nat.beq tag 3 = false := by
    match tag, ht with
    | 0, _ => rfl
    | 1, _ => rfl
  rw [hq, sv_in_i h1 h2, Bool.and_self, cond_true, h3, cond_false, ae_f_eq]
theorem sv_ldx {tv I z : Nat} {l : List Nat} {rest : List ae_V} (h1 : Nat.ble 256 tv = true) (h2 : Nat.blt tv 259 = true) (el : ae_nth ae_exs (Nat.sub tv 256) = some l) (hz : l[I]? = some z) (K : List ae_V → Option ae_R) : ae_ldx (.inl (.inl I) :: .inr (.inr (some tv)) :: rest) K = K (ae_i z :: rest) := by
  unfold ae_ldx; dsimp only
  rw [h1, h2, Bool.and_self, cond_true, el]; dsimp only
  rw [ae_nth_eq, hz]
theorem sv_rd_u (A I : Nat) : sv_u (sv_g (ae_rd 32 A I)) = ae_rd 32 A I := sv_u_g (ae_rd_lt 32 A I)
theorem sx_ld_ok {tag : Nat} {i : Instr} (hi : (tag = 0 ∧ i = .iaload) ∨ (tag = 1 ∧ i = .baload)) (hty : ∀ q t, ty q = some t → q < 256) (hR : sv_R ty tt op ρ0 n0 mods h0 ρ S lv st h) (hs : sx_ld tt tag pc S K = true)
    (hK : ∀ pc S ρ lv st h, K pc S = true → sv_R ty tt op ρ0 n0 mods h0 ρ S lv st h → G pc lv st h)
    (hG : ∀ pc' lv' st' h', (∀ K C, ae_step i M pc 0 0 lv st h K C = K pc' 0 0 lv' st' h') → G pc' lv' st' h' → G pc lv st h) : G pc lv st h := by
  have hk := hR.2.2.2.1
  unfold sx_ld at hs
  split at hs
  · next t1 ix v rest e =>
    rw [e] at hk
    obtain ⟨ci, cs1, rfl, hi1, hk2⟩ := sv_sk1 hk
    obtain ⟨c, cs, rfl, hv, hr⟩ := sv_sk1 hk2
    obtain ⟨wi, rfl, ii⟩ := sv_vk0 hi1
    cases h6 : Nat.beq v.1 6 with
    | true =>
      rw [h6, cond_true] at hs
      cases hc : and (Nat.beq tag 0) (and (Nat.ble 256 v.2.1) (Nat.blt v.2.1 259)) with
      | false => rw [hc, cond_false] at hs; cases hs
      | true =>
        rw [hc, cond_true] at hs
        rw [Bool.and_eq_true, Bool.and_eq_true] at hc
        split at hs
        · next l el =>
          cases hd : and (sx_ix S.1 ix l.length) (Nat.ble l.length 1000) with
          | false => rw [hd, cond_false] at hs; cases hs
          | true =>
            rw [hd, cond_true] at hs
            rw [Bool.and_eq_true] at hd
            obtain ⟨I, I1, I2, I3, -⟩ := sx_ix_ok hR.1 ii hd.1
            obtain ⟨z, a2, z1, k2, r2, e2⟩ := sx_sp_ok hR.1 wi l 0 I hs I1 (Nat.zero_le _) (by omega)
            rw [Nat.sub_zero] at z1
            rw [Bool.and_eq_true] at k2
            have hz : 0 ≤ 2147483647 - (z : Int) := sv_nn_iff.mp k2.1
            obtain ⟨kd, tv, ev⟩ := v
            have := Nat.eq_of_beq_eq_true h6
            have this : kd = 6 := this
            subst this
            have ec : c = .inr (.inr (some tv)) := hv.2
            subst ec
            have hc1 : Nat.ble 256 tv = true := hc.2.1
            have hc2 : Nat.blt tv 259 = true := hc.2.2
            have el : ae_nth ae_exs (Nat.sub tv 256) = some l := el
            rcases hi with ⟨ht, rfl⟩ | ⟨ht, rfl⟩
            · refine hG _ _ _ h (fun K C => ?_) (hK _ _ ρ lv (ae_i z :: cs) h k2.2 (sv_R_psh (S := (a2, S.2.1, rest, S.2.2.2)) (st := cs) (sv_R_ar hR hr r2 e2) ?_ ⟨sv_wf0 _ _, ?_, ?_⟩))
              · rw [I3]
                show cond (Nat.ble 256 tv) (ae_ldx (.inl (.inl I) :: .inr (.inr (some tv)) :: cs) fun st => K (Nat.add pc 1) 0 0 lv st h) _ = _
                rw [hc1, cond_true]
                exact sv_ldx hc1 hc2 el z1 (fun st => K (Nat.add pc 1) 0 0 lv st h)
              · show sv_sk ty ρ a2.1 rest cs
                rw [e2]; exact hr
              · show ae_i z = .inl (.inl (sv_u (sv_ev ρ ((z : Int), []))))
                rw [sv_ev0, sv_u_nat (by omega)]; rfl
              · show sv_I (sv_ev ρ ((z : Int), []))
                rw [sv_ev0]; unfold sv_I; omega
            · subst ht
              exact absurd hc.1 (by decide)
        · cases hs
    | false =>
      rw [h6, cond_false] at hs
      obtain ⟨s, q, hs, hlt, hq, rfl, htq⟩ := sx_ob_ok hR.1 hv hs
      split at hs
      · next T e2 =>
        rw [ae_nth_eq] at e2
        cases hc : and (Nat.beq T.1 1) (and (ae_tq T.2.1 tag) (sx_ix S.1 ix T.2.2.1)) with
        | false => rw [hc, cond_false] at hs; cases hs
        | true =>
          rw [hc, cond_true] at hs
          rw [Bool.and_eq_true, Bool.and_eq_true] at hc
          have c0 := Nat.eq_of_beq_eq_true hc.1
          obtain ⟨I, I1, I2, I3, I4⟩ := sx_ix_ok hR.1 ii hc.2.2
          obtain ⟨A, g1, g2⟩ := sv_hk_a hR.2.2.2.2.2.1 htq e2 c0
          have hq256 := hty q _ htq
          have stp : ∀ (K : ae_K) (C : Nat → List ae_V → ae_H → Option ae_R), ae_step i M pc 0 0 lv (.inl (.inl (sv_u (sv_ev ρ ix))) :: .inr (.inr (some q)) :: cs) h K C = K (Nat.add pc 1) 0 0 lv (ae_i (ae_rd 32 A I) :: cs) h := fun K C => by
            rw [I3]
            rcases hi with ⟨ht, rfl⟩ | ⟨ht, rfl⟩
            · subst ht
              show cond (Nat.ble 256 q) _ (ae_ald 0 (.inl (.inl I) :: .inr (.inr (some q)) :: cs) h fun st => K (Nat.add pc 1) 0 0 lv st h) = _
              rw [sv_ble_f (by omega), cond_false]
              exact sv_ald (by omega) g1 hc.2.1 I2 I4 (fun st => K (Nat.add pc 1) 0 0 lv st h)
            · subst ht
              exact sv_ald (by omega) g1 hc.2.1 I2 I4 (fun st => K (Nat.add pc 1) 0 0 lv st h)
          have hgI := sv_g_I (ae_rd_lt 32 A I)
          split at hs
          · next x ex =>
            obtain ⟨t2, hm⟩ := sx_ml_ok ex
            obtain ⟨m0, w1, w2, km, tm, lm, Am, im, m1, m2, m3, m4, m5, m6⟩ := hR.2.2.2.2.1.2.1 _ hm
            have m1 : ρ s = km := m1
            have m4 : sv_ev ρ ix = im := m4
            have m6 : sv_ev ρ x = sv_g (ae_rd 32 Am im) := m6
            have ek : km = q := by omega
            have ei : im = I := by omega
            subst ek ei
            rw [g1] at m3
            cases m3
            refine hG _ _ _ _ stp (hK _ _ _ _ _ _ hs (sv_R_psh hR hr ⟨w2, ?_, ?_⟩))
            · show ae_i _ = .inl (.inl (sv_u (sv_ev ρ x)))
              rw [m6, sv_rd_u]; rfl
            · show sv_I (sv_ev ρ x)
              rw [m6]; exact hgI
          · obtain ⟨b1, b2, -⟩ := g2 I I2
            obtain ⟨hl2, a2, k2, r2, e3, v2⟩ := sv_nw_ok hR.1 b1 b2 hs
            have hup := sv_up_lt (ρ := ρ) (v := sv_g (ae_rd 32 A I)) hl2
            obtain ⟨ha, ⟨hn, h00⟩, hl, -, hh, ht⟩ := hR
            have hle : S.1.1 ≤ a2.1 := by omega
            have hh2 := hh.up hup hle
            have hw : sv_wf a2.1 (0, [(S.1.1, 1)]) := by rw [e3]; exact sv_wf1 _
            have hI2 : sv_ev (sv_up ρ S.1.1 (sv_g (ae_rd 32 A I))) ix = I := (sv_ev_up hup wi).trans I1
            have hs2 : sv_up ρ S.1.1 (sv_g (ae_rd 32 A I)) s = q := (hup s hlt).trans hq
            obtain ⟨a3, k3, r3, e4⟩ := sx_fa_ok hh2.2.1 hs2 g1 (sv_wf_up hle wi) hI2 I2 v2 hw _ hh2.2.2 a2 _ r2 rfl k2
            have hle3 : S.1.1 ≤ a3.1 := by omega
            have hh3 := hh.up hup hle3
            have hw3 : sv_wf a3.1 (0, [(S.1.1, 1)]) := by rw [e4]; exact hw
            refine hG _ _ _ _ stp (hK _ _ _ lv (ae_i (ae_rd 32 A I) :: cs) h k3 ⟨r3, ⟨by show n0 ≤ a3.1; omega, fun x hx => (hup x (by omega)).trans (h00 x hx)⟩, hl.up hup hle3, ⟨_, cs, rfl, ⟨hw3, ?_, ?_⟩, hr.up hup hle3⟩, ⟨hh3.1, fun m hm => ?_, hh3.2.2⟩, ht⟩)
            · show ae_i _ = .inl (.inl (sv_u (sv_ev _ (0, [(S.1.1, 1)]))))
              rw [v2, sv_rd_u]; rfl
            · show sv_I (sv_ev _ (0, [(S.1.1, 1)]))
              rw [v2]; exact hgI
            · rcases List.mem_cons.mp hm with z | z
              · subst z
                exact ⟨by show s < a3.1; omega, sv_wf_up hle3 wi, hw3, q, T.2.1, T.2.2.1, A, I, hs2, htq, g1, hI2, I2, v2⟩
              · exact hh3.2.1 m z
      · cases hs
  · cases hs
/-- the length of a row; things and longs out of rows -/
noncomputable def sx_len (tt : List sv_T) (pc : Nat) (S : sv_S) (K : Nat → sv_S → Bool) : Bool := match S.2.2.1 with
  | v :: rest => sx_ob S.1 v fun _ t => (match ae_nth tt t with
    | some T => cond (and (Nat.beq T.1 1) (Nat.blt T.2.2.1 2147483648)) (K (Nat.add pc 1) (S.1, S.2.1, (0, 0, Int.ofNat T.2.2.1, []) :: rest, S.2.2.2)) false
    | none => false)
  | _ => false
theorem sx_len_ok (hR : sv_R ty tt op ρ0 n0 mods h0 ρ S lv st h) (hs : sx_len tt pc S K = true)
    (hK : ∀ pc S ρ lv st h, K pc S = true → sv_R ty tt op ρ0 n0 mods h0 ρ S lv st h → G pc lv st h)
    (hG : ∀ pc' lv' st' h', (∀ K C, ae_step .arraylength M pc 0 0 lv st h K C = K pc' 0 0 lv' st' h') → G pc' lv' st' h' → G pc lv st h) : G pc lv st h := by
  have hk := hR.2.2.2.1
  unfold sx_len at hs
  split at hs
  · next v rest e =>
    rw [e] at hk
    obtain ⟨c, cs, rfl, hv, hr⟩ := sv_sk1 hk
    obtain ⟨s, q, hs, hlt, hq, rfl, htq⟩ := sx_ob_ok hR.1 hv hs
    split at hs
    · next T e2 =>
      rw [ae_nth_eq] at e2
      cases hc : and (Nat.beq T.1 1) (Nat.blt T.2.2.1 2147483648) with
      | false => rw [hc, cond_false] at hs; cases hs
      | true =>
        rw [hc, cond_true] at hs
        rw [Bool.and_eq_true] at hc
        have hl2 : T.2.2.1 < 2147483648 := Nat.le_of_ble_eq_true hc.2
        obtain ⟨A, g1, g2⟩ := sv_hk_a hR.2.2.2.2.2.1 htq e2 (Nat.eq_of_beq_eq_true hc.1)
        refine hG _ _ _ h (fun K C => ?_) (hK _ _ _ _ _ _ hs (sv_R_psh (c := ae_i T.2.2.1) hR hr ⟨sv_wf0 _ _, ?_, ?_⟩))
        · unfold ae_step; dsimp only
          rw [g1]
          show cond (Nat.blt T.2.2.1 2147483648) (K (Nat.add pc 1) 0 0 lv (ae_i T.2.2.1 :: cs) h) none = _
          rw [hc.2, cond_true]
        · show ae_i _ = .inl (.inl (sv_u (sv_ev ρ ((T.2.2.1 : Int), []))))
          rw [sv_ev0, sv_u_nat (by omega)]; rfl
        · show sv_I (sv_ev ρ ((T.2.2.1 : Int), []))
          rw [sv_ev0]; unfold sv_I; omega
    · cases hs
  · cases hs
noncomputable def sx_lld (tt : List sv_T) (pc : Nat) (S : sv_S) (K : Nat → sv_S → Bool) : Bool := match S.2.2.1 with
  | (0, _, i) :: v :: rest => sx_ob S.1 v fun _ t => (match ae_nth tt t with
    | some T => cond (and (Nat.beq T.1 2) (sx_ix S.1 i T.2.2.1)) (sx_lng S rest (K (Nat.add pc 1))) false
    | none => false)
  | _ => false
theorem sx_lld_ok (hR : sv_R ty tt op ρ0 n0 mods h0 ρ S lv st h) (hs : sx_lld tt pc S K = true)
    (hK : ∀ pc S ρ lv st h, K pc S = true → sv_R ty tt op ρ0 n0 mods h0 ρ S lv st h → G pc lv st h)
    (hG : ∀ pc' lv' st' h', (∀ K C, ae_step .laload M pc 0 0 lv st h K C = K pc' 0 0 lv' st' h') → G pc' lv' st' h' → G pc lv st h) : G pc lv st h := by
  have hk := hR.2.2.2.1
  unfold sx_lld at hs
  split at hs
  · next t1 ix v rest e =>
    rw [e] at hk
    obtain ⟨ci, cs1, rfl, hi1, hk2⟩ := sv_sk1 hk
    obtain ⟨c, cs, rfl, hv, hr⟩ := sv_sk1 hk2
    obtain ⟨wi, rfl, ii⟩ := sv_vk0 hi1
    obtain ⟨s, q, hs, hlt, hq, rfl, htq⟩ := sx_ob_ok hR.1 hv hs
    split at hs
    · next T e2 =>
      rw [ae_nth_eq] at e2
      cases hc : and (Nat.beq T.1 2) (sx_ix S.1 ix T.2.2.1) with
      | false => rw [hc, cond_false] at hs; cases hs
      | true =>
        rw [hc, cond_true] at hs
        rw [Bool.and_eq_true] at hc
        obtain ⟨I, I1, I2, I3, I4⟩ := sx_ix_ok hR.1 ii hc.2
        have c0 := Nat.eq_of_beq_eq_true hc.1
        obtain ⟨T2, e3, ho⟩ := hR.2.2.2.2.2.1 q _ htq
        rw [e2] at e3
        cases e3
        unfold sv_ok at ho
        rw [c0] at ho
        obtain ⟨A, g1⟩ := ho
        obtain ⟨ρ2, S2, k2, r2⟩ := sv_R_lng (z := ae_rd 64 A I) hR hr (ae_rd_lt 64 A I) hs
        refine hG _ _ _ h (fun K C => ?_) (hK _ _ _ _ _ _ k2 r2)
        rw [I3]
        show ae_ald 3 (.inl (.inl I) :: .inr (.inr (some q)) :: cs) h (fun st => K (Nat.add pc 1) 0 0 lv st h) = _
        unfold ae_ald; dsimp only
        rw [g1]
        show cond (and (ae_tq 3 3) (ae_in (.inl I) T.2.2.1)) (cond (Nat.beq 3 3) (ae_f (ae_rd 64 A I) fun z => K (Nat.add pc 1) 0 0 lv (ae_j z :: cs) h) (ae_f (ae_rd 32 A I) fun z => K (Nat.add pc 1) 0 0 lv (ae_i z :: cs) h)) none = _
        rw [sv_in_i I2 I4, show ae_tq 3 3 = true from rfl, Bool.and_self, cond_true, show Nat.beq 3 3 = true from rfl, cond_true, ae_f_eq]
    · cases hs
  · cases hs
noncomputable def sx_rld (tt : List sv_T) (pc : Nat) (S : sv_S) (K : Nat → sv_S → Bool) : Bool := match S.2.2.1 with
  | (0, _, i) :: v :: rest => sx_ob S.1 v fun _ t => (match ae_nth tt t with
    | some T => cond (and (Nat.beq T.1 3) (sx_ix S.1 i T.2.2.1)) (sx_nf (1, 0, 0, T.2.2.2.2.2.1) S.1 fun a w => K (Nat.add pc 1) (a, S.2.1, w :: rest, S.2.2.2)) false
    | none => false)
  | _ => false
theorem sx_rld_ok (hty : ∀ q t, ty q = some t → q < 256) (hR : sv_R ty tt op ρ0 n0 mods h0 ρ S lv st h) (hs : sx_rld tt pc S K = true)
    (hK : ∀ pc S ρ lv st h, K pc S = true → sv_R ty tt op ρ0 n0 mods h0 ρ S lv st h → G pc lv st h)
    (hG : ∀ pc' lv' st' h', (∀ K C, ae_step .aaload M pc 0 0 lv st h K C = K pc' 0 0 lv' st' h') → G pc' lv' st' h' → G pc lv st h) : G pc lv st h := by
  have hk := hR.2.2.2.1
  unfold sx_rld at hs
  split at hs
  · next t1 ix v rest e =>
    rw [e] at hk
    obtain ⟨ci, cs1, rfl, hi1, hk2⟩ := sv_sk1 hk
    obtain ⟨c, cs, rfl, hv, hr⟩ := sv_sk1 hk2
    obtain ⟨wi, rfl, ii⟩ := sv_vk0 hi1
    obtain ⟨s, q, hs, hlt, hq, rfl, htq⟩ := sx_ob_ok hR.1 hv hs
    split at hs
    · next T e2 =>
      rw [ae_nth_eq] at e2
      cases hc : and (Nat.beq T.1 3) (sx_ix S.1 ix T.2.2.1) with
      | false => rw [hc, cond_false] at hs; cases hs
      | true =>
        rw [hc, cond_true] at hs
        rw [Bool.and_eq_true] at hc
        obtain ⟨I, I1, I2, I3, I4⟩ := sx_ix_ok hR.1 ii hc.2
        have c0 := Nat.eq_of_beq_eq_true hc.1
        obtain ⟨T2, e3, ho⟩ := hR.2.2.2.2.2.1 q _ htq
        rw [e2] at e3
        cases e3
        unfold sv_ok at ho
        rw [c0] at ho
        obtain ⟨l, g1, g2, g3⟩ := ho
        have hIl : I < l.length := by omega
        obtain ⟨k9, e9, ht9⟩ := g3 l[I] (List.getElem_mem hIl)
        have hget : l[I]? = some (some k9) := by rw [List.getElem?_eq_getElem hIl, e9]
        obtain ⟨ρ2, a2, w, k2, r2, n2, u2, hw⟩ := sx_nf_ok (t := (1, 0, 0, T.2.2.2.2.2.1)) (c := .inr (.inr (some k9))) hty hR.1 ⟨k9, rfl, ht9⟩ hs
        obtain ⟨ha, ⟨hn, h00⟩, hl, -, hh, ht⟩ := hR
        refine hG _ _ _ h (fun K C => ?_) (hK _ _ ρ2 lv (.inr (.inr (some k9)) :: cs) h k2 ⟨r2, ⟨by show n0 ≤ a2.1; omega, fun x hx => (u2 x (by omega)).trans (h00 x hx)⟩, hl.up u2 n2, ⟨_, cs, rfl, hw, hr.up u2 n2⟩, hh.up u2 n2, ht⟩)
        rw [I3]
        show ae_ald 4 (.inl (.inl I) :: .inr (.inr (some q)) :: cs) h (fun st => K (Nat.add pc 1) 0 0 lv st h) = _
        unfold ae_ald; dsimp only
        rw [g1]
        show cond (and (ae_tq 4 4) (ae_in (.inl I) T.2.2.1)) (match ae_nth l I with
          | some r => cond (Nat.beq 4 4) (K (Nat.add pc 1) 0 0 lv (.inr (.inr r) :: cs) h) none
          | none => none) none = _
        rw [sv_in_i I2 I4, show ae_tq 4 4 = true from rfl, Bool.and_self, cond_true, ae_nth_eq, hget]
        rfl
    · cases hs
  · cases hs
end
