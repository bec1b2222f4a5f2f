/-! FIELDS -/
noncomputable def sx_ob (a : sv_A) (v : sv_V) (K : Nat → Nat → Bool) : Bool := match v.2.2 with
  | (c, [(s, k)]) => cond (and (sv_iz c) (and (sv_ieq k 1) (or (Nat.beq v.1 1) (and (Nat.beq v.1 3) (sv_p 3 a v.2.2))))) (K s v.2.1) false
  | _ => false
noncomputable def sx_fl (s t f : Nat) (F : List sv_F) : Option sv_V := List.rec (motive := fun _ => Option sv_V) none (fun q _ ih => cond (and (Nat.beq q.1.1 s) (and (Nat.beq q.1.2.1 t) (Nat.beq q.1.2.2 f))) (some q.2) ih) F
theorem sx_fl_ok {s t f : Nat} {v : sv_V} : ∀ {F : List sv_F}, sx_fl s t f F = some v → ((s, t, f), v) ∈ F
  | [], h => by cases h
  | q :: F, h => by
    have g : cond (and (Nat.beq q.1.1 s) (and (Nat.beq q.1.2.1 t) (Nat.beq q.1.2.2 f))) (some q.2) (sx_fl s t f F) = some v := h
    clear h
    cases hc : and (Nat.beq q.1.1 s) (and (Nat.beq q.1.2.1 t) (Nat.beq q.1.2.2 f)) with
    | false => rw [hc, cond_false] at g; exact List.mem_cons_of_mem _ (sx_fl_ok g)
    | true =>
      rw [hc, cond_true] at g
      have g := Option.some.inj g
      rw [Bool.and_eq_true, Bool.and_eq_true] at hc
      obtain ⟨⟨s', t', f'⟩, w⟩ := q
      have e1 : s' = s := Nat.eq_of_beq_eq_true hc.1
      have e2 : t' = t := Nat.eq_of_beq_eq_true hc.2.1
      have e3 : f' = f := Nat.eq_of_beq_eq_true hc.2.2
      have e4 : w = v := g
      subst e1 e2 e3 e4
      exact List.mem_cons_self ..
/-- a new value of a field's type -/
noncomputable def sx_nf (t : sv_ft) (a : sv_A) (K : sv_A → sv_V → Bool) : Bool := match t.1 with
  | 0 => sv_nw a t.2.1 t.2.2.1 fun a e => K a (0, 0, e)
  | 1 => sv_nw a 0 255 fun a e => K a (1, t.2.2.2, e)
  | 3 => sv_nw a (-1) 255 fun a e => K a (3, t.2.2.2, e)
  | 4 => sv_nw a (-9223372036854775808) 9223372036854775807 fun a e => K a (4, 0, e)
  | _ => false
/-- may a field of this type hold the value; the runner's own kind of the field -/
noncomputable def sx_ft (a : sv_A) (t : sv_ft) (fk : Nat) (v : sv_V) : Bool := match t.1 with
  | 0 => and (Nat.beq v.1 0) (and (or (Nat.beq fk 0) (and (Nat.beq fk 1) (and (sv_nn t.2.1) (sv_nn (1 - t.2.2.1))))) (and (sv_ac (-t.2.1) v.2.2 fun e => sv_p 3 a e) (sv_ma (-1) v.2.2 (t.2.2.1, []) fun e => sv_p 3 a e)))
  | 1 => and (Nat.beq fk 4) (and (Nat.beq v.2.1 t.2.2.2) (or (Nat.beq v.1 1) (and (Nat.beq v.1 3) (sv_p 3 a v.2.2))))
  | 3 => and (Nat.beq fk 4) (or (Nat.beq v.1 2) (and (Nat.beq v.2.1 t.2.2.2) (or (Nat.beq v.1 1) (Nat.beq v.1 3))))
  | 4 => and (Nat.beq fk 3) (Nat.beq v.1 4)
  | _ => false
noncomputable def sx_get (tt : List sv_T) (idx : Nat) (M : ae_M) (pc : Nat) (S : sv_S) (K : Nat → sv_S → Bool) : Bool := match S.2.2.1 with
  | v :: rest => sx_ob S.1 v fun s t => (match ae_cp M.1 idx, ae_nth tt t with
    | some (0, ci, f), some T => cond (and (Nat.beq T.1 0) (Nat.beq T.2.1 ci)) (match sx_fl s t f S.2.2.2.1 with
      | some w => K (Nat.add pc 3) (S.1, S.2.1, w :: rest, S.2.2.2)
      | none => (match ae_nth T.2.2.2.2.2.2 f with
        | some ft => sx_nf ft S.1 fun a w => K (Nat.add pc 3) (a, S.2.1, w :: rest, ((s, t, f), w) :: S.2.2.2.1, S.2.2.2.2)
        | none => false)) false
    | _, _ => false)
  | _ => false
noncomputable def sx_put (tt : List sv_T) (od : Nat → List (Nat × Nat)) (mods : List (Nat × Nat)) (idx : Nat) (M : ae_M) (pc : Nat) (S : sv_S) (K : Nat → sv_S → Bool) : Bool := match S.2.2.1 with
  | x :: v :: rest => sx_ob S.1 v fun s t => (match ae_cp M.1 idx, ae_nth tt t with
    | some (0, ci, f), some T => cond (and (Nat.beq T.1 0) (and (Nat.beq T.2.1 ci) (sv_in t f mods))) (match ae_fk ci f, ae_nth T.2.2.2.2.2.2 f with
      | some fk, some ft => cond (and (Nat.blt fk 10) (sx_ft S.1 ft fk x)) (K (Nat.add pc 3) (S.1, S.2.1, rest, ((s, t, f), x) :: sv_kF [(t, f)] S.2.2.2.1, sv_kM [(t, f)] S.2.2.2.2.1, sv_kQ od [(t, f)] S.2.2.2.2.2)) false
      | _, _ => false) false
    | _, _ => false)
  | _ => false
section
variable {ty : Nat → Option Nat} {tt : List sv_T} {op : Nat → ae_H → Nat → Nat → Int → Int → Int → Int → Prop} {od : Nat → List (Nat × Nat)} {ρ0 : Nat → Int} {n0 : Nat} {mods : List (Nat × Nat)} {h0 : ae_H} {ρ : Nat → Int} {S : sv_S} {lv : ae_L} {st : List ae_V} {h : ae_H} {K : Nat → sv_S → Bool} {G : Nat → ae_L → List ae_V → ae_H → Prop} {M : ae_M} {pc : Nat}
theorem sx_ob_ok {a : sv_A} {v : sv_V} {c : ae_V} {k : Nat → Nat → Bool} (ha : sv_ak ρ a) (hv : sv_vk ty ρ a.1 v c) (hs : sx_ob a v k = true) : ∃ (s q : Nat), k s v.2.1 = true ∧ s < a.1 ∧ ρ s = q ∧ c = .inr (.inr (some q)) ∧ ty q = some v.2.1 := by
  obtain ⟨kd, t, e⟩ := v
  unfold sx_ob at hs
  split at hs
  · next c0 s k0 e0 =>
    have e0 : e = (c0, [(s, k0)]) := e0
    subst e0
    cases hc : and (sv_iz c0) (and (sv_ieq k0 1) (or (Nat.beq kd 1) (and (Nat.beq kd 3) (sv_p 3 a (c0, [(s, k0)]))))) with
    | false =>
      have hs : cond (and (sv_iz c0) (and (sv_ieq k0 1) (or (Nat.beq kd 1) (and (Nat.beq kd 3) (sv_p 3 a (c0, [(s, k0)])))))) (k s t) false = true := hs
      rw [hc, cond_false] at hs; cases hs
    | true =>
      have hs2 : cond (and (sv_iz c0) (and (sv_ieq k0 1) (or (Nat.beq kd 1) (and (Nat.beq kd 3) (sv_p 3 a (c0, [(s, k0)])))))) (k s t) false = true := hs
      clear hs
      rw [hc, cond_true] at hs2
      rw [Bool.and_eq_true, Bool.and_eq_true] at hc
      obtain ⟨q1, q2, q3⟩ := hc
      have q1 := sv_iz_iff.mp q1
      have q2 := sv_ieq_ok q2
      subst q1 q2
      have hev : sv_ev ρ ((0, [(s, 1)]) : sv_L) = ρ s := by show (0 : Int) + (1 * ρ s + 0) = ρ s; omega
      have hlt : s < a.1 := hv.1 (s, 1) (List.mem_singleton.mpr rfl)
      rw [Bool.or_eq_true, Bool.and_eq_true] at q3
      rcases q3 with q3 | ⟨q3, q4⟩
      · have := Nat.eq_of_beq_eq_true q3
        subst this
        obtain ⟨q, g1, g2, g3⟩ := hv.2
        exact ⟨s, q, hs2, hlt, hev ▸ g1, g2, g3⟩
      · have := Nat.eq_of_beq_eq_true q3
        subst this
        have hp := sv_p_ok ha q4
        rcases hv.2 with ⟨g1, -⟩ | ⟨q, g1, g2, g3⟩
        · have g1 : sv_ev ρ ((0, [(s, 1)]) : sv_L) = -1 := g1
          omega
        · exact ⟨s, q, hs2, hlt, hev ▸ g1, g2, g3⟩
  · cases hs
theorem sx_nf_ok {t : sv_ft} {a : sv_A} {c : ae_V} {k : sv_A → sv_V → Bool} (hty : ∀ q t, ty q = some t → q < 256) (ha : sv_ak ρ a) (hc : sv_fk ty t c) (hs : sx_nf t a k = true) : ∃ ρ2 a2 w, k a2 w = true ∧ sv_ak ρ2 a2 ∧ a.1 ≤ a2.1 ∧ (∀ s, s < a.1 → ρ2 s = ρ s) ∧ sv_vk ty ρ2 a2.1 w c := by
  have mk : ∀ {lo hi v : Int} {kd t2 : Nat}, lo ≤ v → v ≤ hi → sv_nw a lo hi (fun a e => k a (kd, t2, e)) = true → (∀ (ρ2 : Nat → Int) (n : Nat) (e : sv_L), sv_wf n e → sv_ev ρ2 e = v → sv_vk ty ρ2 n (kd, t2, e) c) → ∃ ρ2 a2 w, k a2 w = true ∧ sv_ak ρ2 a2 ∧ a.1 ≤ a2.1 ∧ (∀ s, s < a.1 → ρ2 s = ρ s) ∧ sv_vk ty ρ2 a2.1 w c := fun {lo hi v kd t2} h1 h2 hs hv => by
    obtain ⟨hlt, a2, k2, r2, e2, v2⟩ := sv_nw_ok ha h1 h2 hs
    exact ⟨_, a2, _, k2, r2, by omega, sv_up_lt hlt, hv _ _ _ (by rw [e2]; exact sv_wf1 _) v2⟩
  obtain ⟨kd, lo, hi, t2⟩ := t
  match kd, hc, hs with
  | 0, ⟨x, e, hI, h1, h2⟩, hs => exact mk h1 h2 hs (fun ρ2 n w hw hv => ⟨hw, by rw [hv]; exact e, by rw [hv]; exact hI⟩)
  | 1, ⟨q, e, hq⟩, hs =>
    have := hty q _ hq
    exact mk (v := (q : Int)) (by omega) (by omega) hs (fun ρ2 n w hw hv => ⟨hw, q, hv, e, hq⟩)
  | 3, hc, hs =>
    rcases hc with e | ⟨q, e, hq⟩
    · exact mk (v := -1) (by omega) (by omega) hs (fun ρ2 n w hw hv => ⟨hw, Or.inl ⟨hv, e⟩⟩)
    · have := hty q _ hq
      exact mk (v := (q : Int)) (by omega) (by omega) hs (fun ρ2 n w hw hv => ⟨hw, Or.inr ⟨q, hv, e, hq⟩⟩)
  | 4, ⟨x, e, hJ⟩, hs =>
    unfold sv_J at hJ
    exact mk (v := x) (by omega) (by omega) hs (fun ρ2 n w hw hv => ⟨hw, by rw [hv]; exact e, by rw [hv]; exact hJ⟩)
  | 2, hc, _ => exact hc.elim
  | m + 5, hc, _ => exact hc.elim
theorem sx_ft_ok {t : sv_ft} {fk : Nat} {a : sv_A} {v : sv_V} {c : ae_V} (ha : sv_ak ρ a) (hv : sv_vk ty ρ a.1 v c) (hs : sx_ft a t fk v = true) : sv_fk ty t c ∧ ae_fit fk c = true := by
  obtain ⟨kd, lo, hi, t2⟩ := t
  obtain ⟨vk, vt, e⟩ := v
  match kd, hs with
  | 0, hs =>
    have hs : and (Nat.beq vk 0) (and (or (Nat.beq fk 0) (and (Nat.beq fk 1) (and (sv_nn lo) (sv_nn (1 - hi))))) (and (sv_ac (-lo) e fun e => sv_p 3 a e) (sv_ma (-1) e (hi, []) fun e => sv_p 3 a e))) = true := hs
    obtain ⟨e1, p1, -, p3⟩ := sv_ac_ok (-lo) e
    rw [p3, sv_ma_f, Bool.and_eq_true, Bool.and_eq_true, Bool.and_eq_true] at hs
    obtain ⟨q1, q2, q3, q4⟩ := hs
    have := Nat.eq_of_beq_eq_true q1
    subst this
    obtain ⟨wx, rfl, ix⟩ := sv_vk0 hv
    have g1 := sv_p_ok ha q3
    have g2 := sv_p_ok ha q4
    rw [p1] at g1
    rw [sv_mf_ev, sv_ev0] at g2
    refine ⟨⟨sv_ev ρ e, rfl, ix, by show lo ≤ _; omega, by show _ ≤ hi; omega⟩, ?_⟩
    show or (Nat.beq fk 0) (and (Nat.beq fk 1) (Nat.ble (sv_u (sv_ev ρ e)) 1)) = true
    rw [Bool.or_eq_true] at q2 ⊢
    rcases q2 with q2 | q2
    · exact Or.inl q2
    · rw [Bool.and_eq_true, Bool.and_eq_true] at q2
      have b1 := sv_nn_iff.mp q2.2.1
      have b2 := sv_nn_iff.mp q2.2.2
      have := (sv_upos ix (by omega)).1
      right
      rw [Bool.and_eq_true]
      exact ⟨q2.1, Nat.ble_eq_true_of_le (by omega)⟩
  | 1, hs =>
    have hs : and (Nat.beq fk 4) (and (Nat.beq vt t2) (or (Nat.beq vk 1) (and (Nat.beq vk 3) (sv_p 3 a e)))) = true := hs
    rw [Bool.and_eq_true, Bool.and_eq_true, Bool.or_eq_true, Bool.and_eq_true] at hs
    obtain ⟨q1, q2, q3⟩ := hs
    have e2 := Nat.eq_of_beq_eq_true q2
    subst e2
    rcases q3 with q3 | ⟨q3, q4⟩
    · have := Nat.eq_of_beq_eq_true q3
      subst this
      obtain ⟨q, g1, g2, g3⟩ := hv.2
      subst g2
      exact ⟨⟨q, rfl, g3⟩, q1⟩
    · have := Nat.eq_of_beq_eq_true q3
      subst this
      have hp := sv_p_ok ha q4
      rcases hv.2 with ⟨g1, -⟩ | ⟨q, g1, g2, g3⟩
      · have g1 : sv_ev ρ e = -1 := g1
        omega
      · subst g2; exact ⟨⟨q, rfl, g3⟩, q1⟩
  | 3, hs =>
    have hs : and (Nat.beq fk 4) (or (Nat.beq vk 2) (and (Nat.beq vt t2) (or (Nat.beq vk 1) (Nat.beq vk 3)))) = true := hs
    rw [Bool.and_eq_true, Bool.or_eq_true, Bool.and_eq_true, Bool.or_eq_true] at hs
    obtain ⟨q1, q2⟩ := hs
    rcases q2 with q2 | ⟨q2, q3⟩
    · have := Nat.eq_of_beq_eq_true q2
      subst this
      have ec : c = .inr (.inr none) := hv.2
      subst ec
      exact ⟨Or.inl rfl, q1⟩
    · have e2 := Nat.eq_of_beq_eq_true q2
      subst e2
      rcases q3 with q3 | q3
      · have := Nat.eq_of_beq_eq_true q3
        subst this
        obtain ⟨q, g1, g2, g3⟩ := hv.2
        subst g2
        exact ⟨Or.inr ⟨q, rfl, g3⟩, q1⟩
      · have := Nat.eq_of_beq_eq_true q3
        subst this
        rcases hv.2 with ⟨g1, g2⟩ | ⟨q, g1, g2, g3⟩
        · subst g2; exact ⟨Or.inl rfl, q1⟩
        · subst g2; exact ⟨Or.inr ⟨q, rfl, g3⟩, q1⟩
  | 4, hs =>
    have hs : and (Nat.beq fk 3) (Nat.beq vk 4) = true := hs
    rw [Bool.and_eq_true] at hs
    have := Nat.eq_of_beq_eq_true hs.2
    subst this
    obtain ⟨wx, rfl, ix⟩ := sv_vk4 hv
    exact ⟨⟨_, rfl, ix⟩, hs.1⟩
  | 2, hs => cases hs
  | m + 5, hs => cases hs
theorem sv_hk_o {k t ci : Nat} {T : sv_T} (hh : sv_hk ty tt h) (hk : ty k = some t) (hT : tt[t]? = some T) (h0 : T.1 = 0) : ∃ fs, ae_hg h k = some (.inr (T.2.1, fs)) ∧ fs.length = T.2.2.2.2.2.2.length ∧ ∀ (j : Nat) (f : sv_ft) (c : ae_V), T.2.2.2.2.2.2[j]? = some f → fs[j]? = some c → sv_fk ty f c := by
  obtain ⟨T2, e, ho⟩ := hh k t hk
  rw [hT] at e
  cases e
  unfold sv_ok at ho
  rw [h0] at ho
  exact ho
theorem sx_get_ok {idx : Nat} (hty : ∀ q t, ty q = some t → q < 256) (hR : sv_R ty tt op ρ0 n0 mods h0 ρ S lv st h) (hs : sx_get tt idx M pc S K = true)
    (hK : ∀ pc S ρ lv st h, K pc S = true → sv_R ty tt op ρ0 n0 mods h0 ρ S lv st h → G pc lv st h)
    (hG : ∀ pc' lv' st' h', (∀ K C, ae_step (.getfield idx) M pc 0 0 lv st h K C = K pc' 0 0 lv' st' h') → G pc' lv' st' h' → G pc lv st h) : G pc lv st h := by
  have hk := hR.2.2.2.1
  unfold sx_get at hs
  split at hs
  · next v rest e =>
    rw [e] at hk
    obtain ⟨c, cs, rfl, hv, hr⟩ := sv_sk1 hk
    obtain ⟨s, q, hs, hlt, hq, rfl, htq⟩ := sx_ob_ok hR.1 hv hs
    split at hs
    · next ci f T e1 e2 =>
      rw [ae_nth_eq] at e2
      cases hc : and (Nat.beq T.1 0) (Nat.beq T.2.1 ci) with
      | false => rw [hc, cond_false] at hs; cases hs
      | true =>
        rw [hc, cond_true] at hs
        rw [Bool.and_eq_true] at hc
        have c0 := Nat.eq_of_beq_eq_true hc.1
        have c1 := Nat.eq_of_beq_eq_true hc.2
        obtain ⟨fs, g1, g2, g3⟩ := sv_hk_o (ci := ci) hR.2.2.2.2.2.1 htq e2 c0
        have stp : ∀ c, fs[f]? = some c → ∀ (K : ae_K) (C : Nat → List ae_V → ae_H → Option ae_R), ae_step (.getfield idx) M pc 0 0 lv (.inr (.inr (some q)) :: cs) h K C = K (Nat.add pc 3) 0 0 lv (c :: cs) h := fun c hc2 K C => by
          unfold ae_step; dsimp only
          rw [e1, g1, c1]
          show cond (Nat.beq ci ci) (match ae_nth fs f with | some v => K (Nat.add pc 3) 0 0 lv (v :: cs) h | none => none) none = _
          rw [Nat.beq_refl, cond_true, ae_nth_eq, hc2]
        split at hs
        · next w ew =>
          obtain ⟨h1, k2, ci2, fs2, c2, h2, h3, h4, h5, h6⟩ := hR.2.2.2.2.1.1 _ (sx_fl_ok ew)
          have h2 : ρ s = k2 := h2
          have hkq : k2 = q := by omega
          subst hkq
          rw [g1] at h4
          cases h4
          exact hG _ _ _ _ (stp c2 h5) (hK _ _ _ _ _ _ hs (sv_R_psh hR hr h6))
        · next ew =>
          split at hs
          · next ft eft =>
            rw [ae_nth_eq] at eft
            have hflt : f < fs.length := by
              rw [g2]
              exact (List.getElem?_eq_some_iff.mp eft).1
            obtain ⟨c2, hc2⟩ : ∃ c2, fs[f]? = some c2 := ⟨fs[f], List.getElem?_eq_getElem hflt⟩
            obtain ⟨ρ2, a2, w, k2, r2, n2, u2, hw⟩ := sx_nf_ok hty hR.1 (g3 f ft c2 eft hc2) hs
            obtain ⟨ha, ⟨hn, h00⟩, hl, -, hh, ht⟩ := hR
            refine hG _ _ _ _ (stp c2 hc2) (hK _ _ ρ2 lv (c2 :: cs) h k2 ⟨r2, ⟨by show n0 ≤ a2.1; omega, fun x hx => (u2 x (by omega)).trans (h00 x hx)⟩, hl.up u2 n2, ⟨c2, cs, rfl, hw, hr.up u2 n2⟩, ?_, ht⟩)
            have hh2 := hh.up u2 n2
            refine ⟨fun x hx => ?_, hh2.2.1, hh2.2.2⟩
            rcases List.mem_cons.mp hx with z | z
            · subst z
              exact ⟨by show s < a2.1; omega, q, T.2.1, fs, c2, (u2 s hlt).trans hq, htq, g1, hc2, hw⟩
            · exact hh2.1 x z
          · cases hs
    · cases hs
  · cases hs
/-- writing a field: the heap stays typed, and nothing else changes -/
theorem sv_put_ok {k t f : Nat} {T : sv_T} {fs : List ae_V} {ft : sv_ft} {c : ae_V} (hty : ∀ q t, ty q = some t → q < 256) (hh : sv_hk ty tt h) (hk : ty k = some t) (hT : tt[t]? = some T) (h0 : T.1 = 0) (hg : ae_hg h k = some (.inr (T.2.1, fs))) (hl : fs.length = T.2.2.2.2.2.2.length) (hfs : ∀ (j : Nat) (f : sv_ft) (c : ae_V), T.2.2.2.2.2.2[j]? = some f → fs[j]? = some c → sv_fk ty f c) (hft : T.2.2.2.2.2.2[f]? = some ft) (hc : sv_fk ty ft c) :
    sv_hk ty tt (ae_hs h k (.inr (T.2.1, fs.set f c))) ∧ sv_fr ty [(t, f)] h (ae_hs h k (.inr (T.2.1, fs.set f c))) ∧ ae_hg (ae_hs h k (.inr (T.2.1, fs.set f c))) k = some (.inr (T.2.1, fs.set f c)) := by
  have hk256 := hty k t hk
  have same : ae_hg (ae_hs h k (.inr (T.2.1, fs.set f c))) k = some (.inr (T.2.1, fs.set f c)) := by rw [ae_hg_hs hk256 hk256, if_pos rfl]
  have other : ∀ j, j < 256 → j ≠ k → ae_hg (ae_hs h k (.inr (T.2.1, fs.set f c))) j = ae_hg h j := fun j hj hne => by rw [ae_hg_hs hk256 hj, if_neg hne]
  refine ⟨fun j t' hj => ?_, fun j t' hj cc hcc => ?_, same⟩
  · by_cases e : j = k
    · subst e
      rw [hk] at hj
      cases hj
      refine ⟨T, hT, ?_⟩
      unfold sv_ok
      rw [h0]
      refine ⟨_, same, by rw [List.length_set]; exact hl, fun i f2 c2 hf2 hc2 => ?_⟩
      by_cases ei : f = i
      · subst ei
        have hlt : f < fs.length := by rw [hl]; exact (List.getElem?_eq_some_iff.mp hft).1
        rw [List.getElem?_set_self hlt] at hc2
        cases hc2
        rw [hft] at hf2
        cases hf2
        exact hc
      · rw [List.getElem?_set_ne ei] at hc2
        exact hfs i f2 c2 hf2 hc2
    · obtain ⟨T2, e2, ho⟩ := hh j t' hj
      refine ⟨T2, e2, ?_⟩
      unfold sv_ok at ho ⊢
      rw [other j (hty j t' hj) e]
      exact ho
  · by_cases e : j = k
    · subst e
      rw [hg] at hcc
      cases hcc
      refine ⟨_, same, fun i hi => ?_⟩
      have hne : f ≠ i := fun z => hi (by subst z; rw [hk] at hj; cases hj; exact List.mem_singleton.mpr rfl)
      exact List.getElem?_set_ne hne
    · match cc, hcc with
      | .inl x, hcc => exact fun _ => by rw [other j (hty j t' hj) e]; exact hcc
      | .inr (ci, fs2), hcc => exact ⟨fs2, by rw [other j (hty j t' hj) e]; exact hcc, fun _ _ => rfl⟩
theorem sx_put_ok {idx : Nat} (hty : ∀ q t, ty q = some t → q < 256) (ho : sv_opk ty op od) (hR : sv_R ty tt op ρ0 n0 mods h0 ρ S lv st h) (hs : sx_put tt od mods idx M pc S K = true)
    (hK : ∀ pc S ρ lv st h, K pc S = true → sv_R ty tt op ρ0 n0 mods h0 ρ S lv st h → G pc lv st h)
    (hG : ∀ pc' lv' st' h', (∀ K C, ae_step (.putfield idx) M pc 0 0 lv st h K C = K pc' 0 0 lv' st' h') → G pc' lv' st' h' → G pc lv st h) : G pc lv st h := by
  have hk := hR.2.2.2.1
  unfold sx_put at hs
  split at hs
  · next x v rest e =>
    rw [e] at hk
    obtain ⟨cx, cs1, rfl, hx, hk2⟩ := sv_sk1 hk
    obtain ⟨c, cs, rfl, hv, hr⟩ := sv_sk1 hk2
    obtain ⟨s, q, hs, hlt, hq, rfl, htq⟩ := sx_ob_ok hR.1 hv hs
    split at hs
    · next ci f T e1 e2 =>
      rw [ae_nth_eq] at e2
      cases hc : and (Nat.beq T.1 0) (and (Nat.beq T.2.1 ci) (sv_in v.2.1 f mods)) with
      | false => rw [hc, cond_false] at hs; cases hs
      | true =>
        rw [hc, cond_true] at hs
        rw [Bool.and_eq_true, Bool.and_eq_true] at hc
        have c0 := Nat.eq_of_beq_eq_true hc.1
        have c1 := Nat.eq_of_beq_eq_true hc.2.1
        have hm := sv_in_iff.mp hc.2.2
        split at hs
        · next fk ft ek eft =>
          rw [ae_nth_eq] at eft
          cases hd : and (Nat.blt fk 10) (sx_ft S.1 ft fk x) with
          | false => rw [hd, cond_false] at hs; cases hs
          | true =>
            rw [hd, cond_true] at hs
            rw [Bool.and_eq_true] at hd
            have f10 : fk < 10 := Nat.le_of_ble_eq_true hd.1
            obtain ⟨hfk, hfit⟩ := sx_ft_ok hR.1 hx hd.2
            obtain ⟨ha, hn, hl, -, hh, ht⟩ := hR
            obtain ⟨fs, g1, g2, g3⟩ := sv_hk_o (ci := ci) ht.1 htq e2 c0
            have hflt : f < fs.length := by rw [g2]; exact (List.getElem?_eq_some_iff.mp eft).1
            obtain ⟨w1, w2, w3⟩ := sv_put_ok hty ht.1 htq e2 c0 g1 g2 g3 eft hfk
            have hh2 := hh.fr ht.1 ho w2
            refine hG _ _ _ (ae_hs h q (.inr (T.2.1, fs.set f cx))) (fun K C => ?_) (hK _ _ ρ lv cs _ hs ⟨ha, hn, hl, hr, ⟨fun y hy => ?_, hh2.2.1, hh2.2.2⟩, w1, ht.2.tr (w2.wd (fun y hy => by cases List.mem_singleton.mp hy; exact hm))⟩)
            · unfold ae_step; dsimp only
              rw [e1, g1, c1]
              show cond (Nat.beq ci ci) (match ae_fk ci f, ae_nth fs f with
                | some fk, some _ => cond (and (cond (Nat.ble 10 fk) (and (Nat.beq M.2.2.2.2.2.1 2) (Nat.beq M.1 ci)) true) (cond (Nat.ble 10 fk) (ae_fit (Nat.sub fk 10) cx) (ae_fit fk cx))) (K (Nat.add pc 3) 0 0 lv cs (ae_hs h q (.inr (ci, ae_set fs cx f)))) none
                | _, _ => none) none = _
              rw [Nat.beq_refl, cond_true, ek, ae_nth_eq, List.getElem?_eq_getElem hflt]
              show cond (and (cond (Nat.ble 10 fk) (and (Nat.beq M.2.2.2.2.2.1 2) (Nat.beq M.1 ci)) true) (cond (Nat.ble 10 fk) (ae_fit (Nat.sub fk 10) cx) (ae_fit fk cx))) (K (Nat.add pc 3) 0 0 lv cs (ae_hs h q (.inr (ci, ae_set fs cx f)))) none = _
              rw [sv_ble_f (by omega : ¬ 10 ≤ fk), cond_false, cond_false, hfit, Bool.true_and, cond_true, ae_set_eq]
            · rcases List.mem_cons.mp hy with z | z
              · subst z
                exact ⟨hlt, q, T.2.1, fs.set f cx, cx, hq, htq, w3, List.getElem?_set_self hflt, hx⟩
              · exact hh2.1 y z
        · cases hs
    · cases hs
  · cases hs
end
