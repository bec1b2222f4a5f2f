/-! STORES INTO ROWS -/
/-- a number's bounds lie within a mask -/
noncomputable def sx_mk (a : sv_A) (m : Nat) (x : sv_L) : Bool := cond (Nat.beq m 0) true (sv_lbl a.2.1 x.2 x.1 fun l => sv_ubl a.2.1 x.2 x.1 fun u => and (sv_nn l) (and (sv_nn (u - l)) (Nat.beq (Nat.mod (Nat.shiftRight m l.toNat) (Nat.pow 2 (Nat.succ (u - l).toNat))) (Nat.sub (Nat.pow 2 (Nat.succ (u - l).toNat)) 1))))
theorem sx_mk_ok {ρ : Nat → Int} {a : sv_A} {m : Nat} {x : sv_L} (ha : sv_ak ρ a) (h : sx_mk a m x = true) : sv_mb m (sv_ev ρ x) := by
  unfold sx_mk at h
  cases h0 : Nat.beq m 0 with
  | true => exact Or.inl (Nat.eq_of_beq_eq_true h0)
  | false =>
    rw [h0, cond_false] at h
    obtain ⟨l, l1, l2⟩ := sv_lbl_ok a.2.1 x.2 x.1
    rw [l2, sv_ubl_ok, Bool.and_eq_true, Bool.and_eq_true] at h
    have hl : l ≤ sv_ev ρ x := l1 ρ ha.1
    have hu := sv_le_ub ha x
    generalize x.1 + sv_ms a.2.1 x.2 = u at *
    obtain ⟨q1, q2, q3⟩ := h
    have q1 := sv_nn_iff.mp q1
    have q2 := sv_nn_iff.mp q2
    have q3 : (m >>> l.toNat) % 2 ^ ((u - l).toNat + 1) = 2 ^ ((u - l).toNat + 1) - 1 := Nat.eq_of_beq_eq_true q3
    refine Or.inr ⟨by omega, ?_⟩
    have hb : ((m >>> l.toNat) % 2 ^ ((u - l).toNat + 1)).testBit ((sv_ev ρ x).toNat - l.toNat) = true := by
      rw [q3, Nat.testBit_two_pow_sub_one]
      exact decide_eq_true (by omega)
    rw [Nat.testBit_mod_two_pow, Nat.testBit_shiftRight, Bool.and_eq_true] at hb
    have e : l.toNat + ((sv_ev ρ x).toNat - l.toNat) = (sv_ev ρ x).toNat := by omega
    rw [e] at hb
    exact hb.2
/-- x is at least y -/
noncomputable def sx_ge (a : sv_A) (x y : sv_L) : Bool := sv_ma (-1) y x fun e => sv_p 3 a e
theorem sx_ge_ok {ρ : Nat → Int} {a : sv_A} {x y : sv_L} (ha : sv_ak ρ a) (h : sx_ge a x y = true) : sv_ev ρ y ≤ sv_ev ρ x := by
  unfold sx_ge at h
  rw [sv_ma_f] at h
  have := sv_p_ok ha h
  rw [sv_mf_ev] at this
  omega
noncomputable def sx_gt (a : sv_A) (x y : sv_L) : Bool := sv_ma (-1) y x fun e => sv_ac (-1) e fun e => sv_p 3 a e
theorem sx_gt_ok {ρ : Nat → Int} {a : sv_A} {x y : sv_L} (ha : sv_ak ρ a) (h : sx_gt a x y = true) : sv_ev ρ y < sv_ev ρ x := by
  unfold sx_gt at h
  rw [sv_ma_f] at h
  obtain ⟨g, g1, -, g3⟩ := sv_ac_ok (-1) (sv_mf (-1) y x)
  rw [g3] at h
  have := sv_p_ok ha h
  rw [g1, sv_mf_ev] at this
  omega
/-- what is known of a place stays -/
noncomputable def sx_km (a : sv_A) (s t : Nat) (i : sv_L) (q : sv_M) : Bool := cond (Nat.beq q.2.1 t) (and (Nat.beq q.1 s) (or (sx_gt a i q.2.2.1) (sx_gt a q.2.2.1 i))) true
noncomputable def sx_kq (od : Nat → List (Nat × Nat)) (a : sv_A) (s t : Nat) (i x : sv_L) (q : sv_Q) : Bool := match q.1 with
  | 0 => or (not (Nat.beq q.2.1.2 t)) (or (and (sx_ge a x q.2.2.2.2.2.2.1) (sx_ge a q.2.2.2.2.2.2.2 x)) (and (Nat.beq q.2.1.1 s) (and (Nat.beq q.2.2.2.1 1) (or (sv_ma 1 q.2.2.2.2.1 q.2.2.2.2.2.1 fun e => sx_ge a i e) (sx_gt a q.2.2.2.2.1 i)))))
  | 1 => and (not (Nat.beq q.2.2.1.2 t)) (or (not (Nat.beq q.2.1.2 t)) (and (Nat.beq q.2.1.1 s) (sx_ge a i q.2.2.2.2.2.1)))
  | m => sv_dis (od m) [(t, 0)]
noncomputable def sx_cv (T : sv_T) : Bool := cond (Nat.beq T.2.1 0) true (cond (Nat.beq T.2.1 1) (and (sv_nn (T.2.2.2.1 + 128)) (sv_nn (127 - T.2.2.2.2.1))) (and (sv_nn T.2.2.2.1) (sv_nn (1 - T.2.2.2.2.1))))
noncomputable def sx_sc (mods : List (Nat × Nat)) (tag t : Nat) (a : sv_A) (T : sv_T) (i x : sv_L) : Bool := and (Nat.beq T.1 1) (and (ae_tq T.2.1 tag) (and (sx_ix a i T.2.2.1) (and (sv_in t 0 mods) (and (sx_ge a x (T.2.2.2.1, [])) (and (sx_ge a (T.2.2.2.2.1, []) x) (and (sx_mk a T.2.2.2.2.2.1 x) (sx_cv T)))))))
noncomputable def sx_sto2 (tt : List sv_T) (od : Nat → List (Nat × Nat)) (mods : List (Nat × Nat)) (tag pc : Nat) (S : sv_S) (K : Nat → sv_S → Bool) : Bool := match S.2.2.1 with
  | (0, _, x) :: (0, _, i) :: v :: rest => sx_ob S.1 v fun s t => (match ae_nth tt t with
    | some T => cond (sx_sc mods tag t S.1 T i x) (K (Nat.add pc 1) (S.1, S.2.1, rest, S.2.2.2.1, (s, t, i, x) :: sv_flt (sx_km S.1 s t i) S.2.2.2.2.1, sv_flt (sx_kq od S.1 s t i x) S.2.2.2.2.2)) false
    | none => false)
  | _ => false
section
variable {ty : Nat → Option Nat} {tt : List sv_T} {op : Nat → ae_H → Nat → Nat → Int → Int → Int → Int → Prop} {od : Nat → List (Nat × Nat)} {ρ0 : Nat → Int} {n0 : Nat} {mods : List (Nat × Nat)} {h0 : ae_H} {ρ : Nat → Int} {S : sv_S} {lv : ae_L} {st : List ae_V} {h : ae_H} {K : Nat → sv_S → Bool} {G : Nat → ae_L → List ae_V → ae_H → Prop} {M : ae_M} {pc : Nat}
/-- a row laid anew: the heap stays typed, and nothing else changes -/
theorem sv_row_ok {k t : Nat} {T : sv_T} {c c0 : Nat × Nat × ae_X} (hty : ∀ q t, ty q = some t → q < 256) (hh : sv_hk ty tt h) (hk : ty k = some t) (hT : tt[t]? = some T) (hg : ae_hg h k = some (.inl c0)) (hok : ∀ h', ae_hg h' k = some (.inl c) → sv_ok ty h' k T) :
    sv_hk ty tt (ae_hs h k (.inl c)) ∧ sv_fr ty [(t, 0)] h (ae_hs h k (.inl c)) ∧ ae_hg (ae_hs h k (.inl c)) k = some (.inl c) ∧ ∀ j t', ty j = some t' → j ≠ k → ae_hg (ae_hs h k (.inl c)) j = ae_hg h j := by
  have hk256 := hty k t hk
  have same : ae_hg (ae_hs h k (.inl c)) k = some (.inl c) := by rw [ae_hg_hs hk256 hk256, if_pos rfl]
  have other : ∀ j, j < 256 → j ≠ k → ae_hg (ae_hs h k (.inl c)) j = ae_hg h j := fun j hj hne => by rw [ae_hg_hs hk256 hj, if_neg hne]
  refine ⟨fun j t' hj => ?_, fun j t' hj cc hcc => ?_, same, fun j t' hj hne => other j (hty j t' hj) hne⟩
  · by_cases e : j = k
    · subst e
      rw [hk] at hj
      cases hj
      exact ⟨T, hT, hok _ same⟩
    · obtain ⟨T2, e2, ho⟩ := hh j t' hj
      refine ⟨T2, e2, ?_⟩
      unfold sv_ok at ho ⊢
      rw [other j (hty j t' hj) e]
      exact ho
  · by_cases e : j = k
    · subst e
      rw [hg] at hcc
      cases hcc
      rw [hk] at hj
      cases hj
      exact fun hm => absurd (List.mem_singleton.mpr rfl) hm
    · match cc, hcc with
      | .inl x, hcc => exact fun _ => by rw [other j (hty j t' hj) e]; exact hcc
      | .inr (ci, fs2), hcc => exact ⟨fs2, by rw [other j (hty j t' hj) e]; exact hcc, fun _ _ => rfl⟩
theorem sx_sto2_ok {tag : Nat} {ins : Instr} (hi : (tag = 0 ∧ ins = .iastore) ∨ (tag = 1 ∧ ins = .bastore)) (hty : ∀ q t, ty q = some t → q < 256) (ho : sv_opk ty op od) (hR : sv_R ty tt op ρ0 n0 mods h0 ρ S lv st h) (hs : sx_sto2 tt od mods tag pc S K = true)
    (hK : ∀ pc S ρ lv st h, K pc S = true → sv_R ty tt op ρ0 n0 mods h0 ρ S lv st h → G pc lv st h)
    (hG : ∀ pc' lv' st' h', (∀ K C, ae_step ins M pc 0 0 lv st h K C = K pc' 0 0 lv' st' h') → G pc' lv' st' h' → G pc lv st h) : G pc lv st h := by
  have hk := hR.2.2.2.1
  unfold sx_sto2 at hs
  split at hs
  · next t0 x t1 ix v rest e =>
    rw [e] at hk
    obtain ⟨cx, cs2, rfl, hx1, hk2⟩ := sv_sk1 hk
    obtain ⟨ci, cs1, rfl, hi1, hk3⟩ := sv_sk1 hk2
    obtain ⟨c, cs, rfl, hv, hr⟩ := sv_sk1 hk3
    obtain ⟨wx, rfl, ixx⟩ := sv_vk0 hx1
    obtain ⟨wi, rfl, ii⟩ := sv_vk0 hi1
    obtain ⟨s, q, hs, hlt, hq, rfl, htq⟩ := sx_ob_ok hR.1 hv hs
    split at hs
    · next T e2 =>
      rw [ae_nth_eq] at e2
      cases hc : sx_sc mods tag v.2.1 S.1 T ix x with
      | false => rw [hc, cond_false] at hs; cases hs
      | true =>
        rw [hc, cond_true] at hs
        have hs2 := hs
        clear hs
        obtain ⟨kT, gT, nT, loT, hiT, mT, fT⟩ := T
        have hc : and (Nat.beq kT 1) (and (ae_tq gT tag) (and (sx_ix S.1 ix nT) (and (sv_in v.2.1 0 mods) (and (sx_ge S.1 x (loT, [])) (and (sx_ge S.1 (hiT, []) x) (and (sx_mk S.1 mT x) (sx_cv (kT, gT, nT, loT, hiT, mT, fT)))))))) = true := hc
        simp only [Bool.and_eq_true] at hc
        obtain ⟨c0, c1, c2, c3, c4, c5, c6, c7⟩ := hc
        have c0 := Nat.eq_of_beq_eq_true c0
        have c0 : kT = 1 := c0
        subst c0
        obtain ⟨I, I1, I2, I3, I4⟩ := sx_ix_ok hR.1 ii c2
        have hm := sv_in_iff.mp c3
        have b1 := sx_ge_ok hR.1 c4
        have b2 := sx_ge_ok hR.1 c5
        rw [sv_ev0] at b1 b2
        have b3 := sx_mk_ok hR.1 c6
        obtain ⟨ha, hn, hl, -, hh, ht⟩ := hR
        obtain ⟨A, g1, g2⟩ := sv_hk_a ht.1 htq e2 rfl
        have g1 : ae_hg h q = some (.inl (gT, nT, .inl A)) := g1
        have g2 : ∀ i, i < nT → loT ≤ sv_g (ae_rd 32 A i) ∧ sv_g (ae_rd 32 A i) ≤ hiT ∧ sv_mb mT (sv_g (ae_rd 32 A i)) := g2
        have ux := sv_u_lt (sv_ev ρ x)
        have hrw : ∀ j, ae_rd 32 (ae_wr 32 A I (sv_u (sv_ev ρ x))) j = if j = I then sv_u (sv_ev ρ x) else ae_rd 32 A j := fun j => ae_rd_wr ux
        have hcell : ∀ h', ae_hg h' q = some (.inl (gT, nT, .inl (ae_wr 32 A I (sv_u (sv_ev ρ x))))) → sv_ok ty h' q (1, gT, nT, loT, hiT, mT, fT) := fun h' e' => ⟨_, e', fun j hj => by
          show loT ≤ sv_g (ae_rd 32 (ae_wr 32 A I (sv_u (sv_ev ρ x))) j) ∧ sv_g (ae_rd 32 (ae_wr 32 A I (sv_u (sv_ev ρ x))) j) ≤ hiT ∧ sv_mb mT (sv_g (ae_rd 32 (ae_wr 32 A I (sv_u (sv_ev ρ x))) j))
          rw [hrw]
          split
          · rw [sv_g_u ixx]; exact ⟨b1, b2, b3⟩
          · exact g2 j hj⟩
        obtain ⟨w1, w2, w3, w4⟩ := sv_row_ok hty ht.1 htq e2 g1 hcell
        have conv : cond (Nat.beq gT 0) (sv_u (sv_ev ρ x)) (cond (Nat.beq gT 1) (ae_b8 (sv_u (sv_ev ρ x))) (Nat.mod (sv_u (sv_ev ρ x)) 2)) = sv_u (sv_ev ρ x) := by
          have c7 : cond (Nat.beq gT 0) true (cond (Nat.beq gT 1) (and (sv_nn (loT + 128)) (sv_nn (127 - hiT))) (and (sv_nn loT) (sv_nn (1 - hiT)))) = true := c7
          cases z0 : Nat.beq gT 0 with
          | true => rfl
          | false =>
            rw [z0, cond_false] at c7
            cases z1 : Nat.beq gT 1 with
            | true =>
              rw [z1, cond_true, Bool.and_eq_true] at c7
              have d1 := sv_nn_iff.mp c7.1
              have d2 := sv_nn_iff.mp c7.2
              show ae_b8 (sv_u (sv_ev ρ x)) = sv_u (sv_ev ρ x)
              have hu := sv_uc (sv_ev ρ x)
              unfold ae_b8
              by_cases hn0 : 0 ≤ sv_ev ρ x
              · have := (sv_upos ixx hn0).1
                have e1 : Nat.mod (sv_u (sv_ev ρ x)) 256 = sv_u (sv_ev ρ x) := Nat.mod_eq_of_lt (by omega)
                rw [e1, sv_ble_f (by omega)]; rfl
              · have := (sv_uneg ixx (by omega)).1
                have e1 : Nat.mod (sv_u (sv_ev ρ x)) 256 = sv_u (sv_ev ρ x) - 4294967040 := by show sv_u (sv_ev ρ x) % 256 = _; omega
                rw [e1, Nat.ble_eq_true_of_le (by omega), cond_true]
                show sv_u (sv_ev ρ x) - 4294967040 + 4294967040 = _
                omega
            | false =>
              rw [z1, cond_false, Bool.and_eq_true] at c7
              have d1 := sv_nn_iff.mp c7.1
              have d2 := sv_nn_iff.mp c7.2
              show Nat.mod (sv_u (sv_ev ρ x)) 2 = sv_u (sv_ev ρ x)
              have := (sv_upos ixx (by omega)).1
              exact Nat.mod_eq_of_lt (by omega)
        have stp : ∀ (K : ae_K) (C : Nat → List ae_V → ae_H → Option ae_R), ae_step ins M pc 0 0 lv (.inl (.inl (sv_u (sv_ev ρ x))) :: .inl (.inl (sv_u (sv_ev ρ ix))) :: .inr (.inr (some q)) :: cs) h K C = K (Nat.add pc 1) 0 0 lv cs (ae_hs h q (.inl (gT, nT, .inl (ae_wr 32 A I (sv_u (sv_ev ρ x)))))) := fun K C => by
          rw [I3]
          have main : ae_ast tag (.inl (.inl (sv_u (sv_ev ρ x))) :: .inl (.inl I) :: .inr (.inr (some q)) :: cs) h (fun st h => K (Nat.add pc 1) 0 0 lv st h) = K (Nat.add pc 1) 0 0 lv cs (ae_hs h q (.inl (gT, nT, .inl (ae_wr 32 A I (sv_u (sv_ev ρ x)))))) := by
            unfold ae_ast; dsimp only
            rw [g1]
            show cond (and (ae_tq gT tag) (ae_in (.inl I) nT)) (ae_f (ae_wr 32 A I (cond (Nat.beq gT 0) (sv_u (sv_ev ρ x)) (cond (Nat.beq gT 1) (ae_b8 (sv_u (sv_ev ρ x))) (Nat.mod (sv_u (sv_ev ρ x)) 2)))) fun B => K (Nat.add pc 1) 0 0 lv cs (ae_hs h q (.inl (gT, nT, .inl B)))) none = _
            rw [c1, sv_in_i I2 I4, Bool.and_self, cond_true, conv, ae_f_eq]
          rcases hi with ⟨rfl, rfl⟩ | ⟨rfl, rfl⟩
          · exact main
          · exact main
        have hF : ∀ y ∈ S.2.2.2.1, sv_Fk ty ρ S.1.1 (ae_hs h q (.inl (gT, nT, .inl (ae_wr 32 A I (sv_u (sv_ev ρ x)))))) y := fun y hy => by
          obtain ⟨y0, k, ci, fs, c, y1, y2, y3, y4, y5⟩ := hh.1 y hy
          have hne : k ≠ q := fun z => by subst z; rw [g1] at y3; cases y3
          exact ⟨y0, k, ci, fs, c, y1, y2, by rw [w4 k _ y2 hne]; exact y3, y4, y5⟩
        refine hG _ _ _ _ stp (hK _ _ ρ lv cs _ hs2 ⟨ha, hn, hl, hr, ⟨hF, fun m hmm => ?_, fun m hmm => ?_⟩, w1, ht.2.tr (w2.wd (fun y hy => by cases List.mem_singleton.mp hy; exact hm))⟩)
        · rcases List.mem_cons.mp hmm with z | z
          · subst z
            refine ⟨hlt, wi, wx, q, gT, nT, _, I, hq, htq, w3, I1, I2, ?_⟩
            show sv_ev ρ x = sv_g (ae_rd 32 (ae_wr 32 A I (sv_u (sv_ev ρ x))) I)
            rw [hrw, if_pos rfl, sv_g_u ixx]
          · obtain ⟨z1, z2⟩ := sv_flt_mem z
            obtain ⟨m0, v1, v2, km, tm, lm, Am, im, m1, m2, m3, m4, m5, m6⟩ := hh.2.1 m z1
            unfold sx_km at z2
            cases ht9 : Nat.beq m.2.1 v.2.1 with
            | false =>
              have hne : km ≠ q := fun zz => by
                subst zz
                rw [htq] at m2
                rw [← Option.some.inj m2, Nat.beq_refl] at ht9; cases ht9
              exact ⟨m0, v1, v2, km, tm, lm, Am, im, m1, m2, by rw [w4 km _ m2 hne]; exact m3, m4, m5, m6⟩
            | true =>
              rw [ht9, cond_true, Bool.and_eq_true, Bool.or_eq_true] at z2
              have es := Nat.eq_of_beq_eq_true z2.1
              rw [es] at m1
              have ek : km = q := by omega
              subst ek
              rw [g1] at m3
              cases m3
              have hIne : im ≠ I := by
                rcases z2.2 with zz | zz
                · have := sx_gt_ok ha zz; omega
                · have := sx_gt_ok ha zz; omega
              refine ⟨m0, v1, v2, km, gT, nT, _, im, by rw [es]; exact m1, m2, w3, m4, m5, ?_⟩
              rw [hrw, if_neg hIne]; exact m6
        · obtain ⟨z1, z2⟩ := sv_flt_mem hmm
          have hq9 := hh.2.2 m z1
          obtain ⟨kd, r1, r2, sd, f1, f2, f3, f4⟩ := m
          match kd, z2, hq9 with
          | 0, z2, hq9 =>
            obtain ⟨ww, k1, k2, y1, y2, y3, y4, y5⟩ := hq9
            refine ⟨ww, k1, k2, y1, y2, y3, y4, ?_⟩
            have y1 : ρ r1.1 = k1 := y1
            have y2 : ty k1 = some r1.2 := y2
            have y5 : ∀ (tag len A : Nat), ae_hg h k1 = some (.inl (tag, len, .inl A)) → ∀ j i : Nat, (j : Int) < sv_ev ρ f2 → (i : Int) = sd * j + sv_ev ρ f1 → i < len → sv_ev ρ f3 ≤ sv_g (ae_rd 32 A i) ∧ sv_g (ae_rd 32 A i) ≤ sv_ev ρ f4 := y5
            show ∀ (tag len A9 : Nat), ae_hg (ae_hs h q (.inl (gT, nT, .inl (ae_wr 32 A I (sv_u (sv_ev ρ x)))))) k1 = some (.inl (tag, len, .inl A9)) → ∀ j i : Nat, (j : Int) < sv_ev ρ f2 → (i : Int) = sd * j + sv_ev ρ f1 → i < len → sv_ev ρ f3 ≤ sv_g (ae_rd 32 A9 i) ∧ sv_g (ae_rd 32 A9 i) ≤ sv_ev ρ f4
            intro tag9 len9 A9 hc9 j i hj hi9 hil
            by_cases hk1 : k1 = q
            · subst hk1
              rw [w3] at hc9
              cases hc9
              rw [hrw]
              have old := y5 gT nT A g1 j i hj hi9 hil
              split
              · next ei =>
                have z2 : or (not (Nat.beq r1.2 v.2.1)) (or (and (sx_ge S.1 x f3) (sx_ge S.1 f4 x)) (and (Nat.beq r1.1 s) (and (Nat.beq sd 1) (or (sv_ma 1 f1 f2 fun e => sx_ge S.1 ix e) (sx_gt S.1 f1 ix))))) = true := z2
                rw [Bool.or_eq_true, Bool.or_eq_true, Bool.and_eq_true, Bool.and_eq_true, Bool.and_eq_true, Bool.or_eq_true, sv_ma_f] at z2
                rcases z2 with zz | zz | zz
                · rw [htq] at y2
                  rw [← Option.some.inj y2, Nat.beq_refl] at zz; cases zz
                · rw [sv_g_u ixx]
                  exact ⟨sx_ge_ok ha zz.1, sx_ge_ok ha zz.2⟩
                · have esd : sd = 1 := Nat.eq_of_beq_eq_true zz.2.1
                  subst esd
                  exfalso
                  rcases zz.2.2 with yy | yy
                  · have := sx_ge_ok ha yy
                    rw [sv_mf_ev] at this
                    omega
                  · have := sx_gt_ok ha yy
                    omega
              · exact old
            · rw [w4 k1 _ y2 hk1] at hc9
              exact y5 tag9 len9 A9 hc9 j i hj hi9 hil
          | 1, z2, hq9 =>
            have z2 : and (not (Nat.beq r2.2 v.2.1)) (or (not (Nat.beq r1.2 v.2.1)) (and (Nat.beq r1.1 s) (sx_ge S.1 ix f2))) = true := z2
            rw [Bool.and_eq_true, Bool.or_eq_true, Bool.and_eq_true] at z2
            obtain ⟨ww, k1, k2, y1, y2, y3, y4, y5⟩ := hq9
            refine ⟨ww, k1, k2, y1, y2, y3, y4, ?_⟩
            have y1 : ρ r1.1 = k1 := y1
            have y2 : ty k1 = some r1.2 := y2
            have y4 : ty k2 = some r2.2 := y4
            have y5 : ∀ (tag len A tag2 len2 A2 : Nat), ae_hg h k1 = some (.inl (tag, len, .inl A)) → ae_hg h k2 = some (.inl (tag2, len2, .inl A2)) → ∀ j i : Nat, (j : Int) < sv_ev ρ f2 → j < len → (i : Int) = sv_g (ae_rd 32 A j) + sv_ev ρ f1 → i < len2 → sv_ev ρ f3 ≤ sv_g (ae_rd 32 A2 i) ∧ sv_g (ae_rd 32 A2 i) ≤ sv_ev ρ f4 := y5
            have hk2 : k2 ≠ q := fun zz => by
              subst zz
              rw [htq] at y4
              have := z2.1
              rw [← Option.some.inj y4, Nat.beq_refl] at this; cases this
            show ∀ (tag len A9 tag2 len2 A2 : Nat), ae_hg (ae_hs h q (.inl (gT, nT, .inl (ae_wr 32 A I (sv_u (sv_ev ρ x)))))) k1 = some (.inl (tag, len, .inl A9)) → ae_hg (ae_hs h q (.inl (gT, nT, .inl (ae_wr 32 A I (sv_u (sv_ev ρ x)))))) k2 = some (.inl (tag2, len2, .inl A2)) → ∀ j i : Nat, (j : Int) < sv_ev ρ f2 → j < len → (i : Int) = sv_g (ae_rd 32 A9 j) + sv_ev ρ f1 → i < len2 → sv_ev ρ f3 ≤ sv_g (ae_rd 32 A2 i) ∧ sv_g (ae_rd 32 A2 i) ≤ sv_ev ρ f4
            intro tag9 len9 A9 tag2 len2 A2 hc9 hc2 j i hj hjl hi9 hil
            rw [w4 k2 _ y4 hk2] at hc2
            by_cases hk1 : k1 = q
            · subst hk1
              rcases z2.2 with zz | zz
              · rw [htq] at y2
                rw [← Option.some.inj y2, Nat.beq_refl] at zz; cases zz
              · rw [w3] at hc9
                cases hc9
                have := sx_ge_ok ha zz.2
                rw [hrw, if_neg (by omega)] at hi9
                exact y5 gT nT A tag2 len2 A2 g1 hc2 j i hj hjl hi9 hil
            · rw [w4 k1 _ y2 hk1] at hc9
              exact y5 tag9 len9 A9 tag2 len2 A2 hc9 hc2 j i hj hjl hi9 hil
          | m + 2, z2, hq9 =>
            have z2 : sv_dis (od (m + 2)) [(v.2.1, 0)] = true := z2
            obtain ⟨ww, k1, k2, y1, y2, y3, y4, y5⟩ := hq9
            exact ⟨ww, k1, k2, y1, y2, y3, y4, ho (m + 2) _ _ _ _ _ _ _ _ _ w2 (sv_dis_ok z2) y5⟩
    · cases hs
  · cases hs
end
