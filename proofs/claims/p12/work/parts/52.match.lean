/-! A STATE IS HELD AGAINST A PATTERN -/
noncomputable def sx_cq (tt : List sv_T) (mp : sv_mp) (S : sv_S) (q : sv_Q) : Bool := sx_sy mp q.2.1.1 fun x1 => sx_sy mp q.2.2.1.1 fun x2 => sv_sb mp q.2.2.2.2.1 fun o => sv_sb mp q.2.2.2.2.2.1 fun e => sv_sb mp q.2.2.2.2.2.2.1 fun l => sv_sb mp q.2.2.2.2.2.2.2 fun u => sx_en tt S (q.1, (x1, q.2.1.2), (x2, q.2.2.1.2), q.2.2.2.1, o, e, l, u)
noncomputable def sx_ck (tt : List sv_T) (mp : sv_mp) (P : sv_P) (S : sv_S) : Bool := and (sx_cb mp S.1 P.2.1 0) (and (sx_al (sx_cc mp S.1) P.2.2.1) (and (sx_al (sx_cl mp S) P.2.2.2.1) (and (sx_al (sx_cf mp S) P.2.2.2.2.1) (and (sx_al (sx_cm mp S) P.2.2.2.2.2.1) (sx_al (sx_cq tt mp S) P.2.2.2.2.2.2)))))
/-- a symbol of the pattern is bound, if it isn't yet -/
noncomputable def sx_b1 (N : Nat) (mp : sv_mp) (e f : sv_L) (K : sv_mp → Bool) : Bool := match e with
  | (_, [(s, _)]) => cond (Nat.blt s N) (match ae_lk mp s with
    | some _ => K mp
    | none => K ((s, f) :: mp)) false
  | _ => K mp
noncomputable def sx_bd (N : Nat) (mp : sv_mp) (V w : sv_V) (K : sv_mp → Bool) : Bool := cond (and (Nat.beq V.1 3) (Nat.beq w.1 2)) (sx_b1 N mp V.2.2 (-1, []) K) (sx_b1 N mp V.2.2 w.2.2 K)
noncomputable def sx_g1 (N : Nat) (loc : List (Nat × sv_V)) (l : List (Nat × sv_V)) : sv_mp → (sv_mp → Bool) → Bool := List.rec (motive := fun _ => sv_mp → (sv_mp → Bool) → Bool) (fun mp K => K mp) (fun q _ ih mp K => match ae_lk loc q.1 with
  | some w => sx_bd N mp q.2 w fun mp => ih mp K
  | none => false) l
/-- a symbol is a thing of a type: by a field or by a local -/
noncomputable def sx_ty (r t : Nat) (S : sv_S) : Bool := or (sx_ev r t S.2.2.2.1) (sx_an (fun q => match ae_lk S.2.1 q.1 with
  | some w => and (Nat.beq w.1 1) (and (Nat.beq w.2.1 t) (sv_same w.2.2 (0, [(r, 1)])))
  | none => false) S.2.1)
noncomputable def sx_g2 (tt : List sv_T) (N : Nat) (l : List sv_F) : sv_S → sv_mp → (sv_S → sv_mp → Bool) → Bool := List.rec (motive := fun _ => sv_S → sv_mp → (sv_S → sv_mp → Bool) → Bool) (fun S mp K => K S mp) (fun q _ ih S mp K => sx_sy mp q.1.1 fun x => (match sx_fl x q.1.2.1 q.1.2.2 S.2.2.2.1 with
  | some w => sx_bd N mp q.2 w fun mp => ih S mp K
  | none => cond (sx_ty x q.1.2.1 S) (match ae_nth tt q.1.2.1 with
    | some T => cond (Nat.beq T.1 0) (match ae_nth T.2.2.2.2.2.2 q.1.2.2 with
      | some ft => sx_nf ft S.1 fun a w => sx_bd N mp q.2 w fun mp => ih (a, S.2.1, S.2.2.1, ((x, q.1.2.1, q.1.2.2), w) :: S.2.2.2.1, S.2.2.2.2) mp K
      | none => false) false
    | none => false) false)) l
noncomputable def sx_g3 (tt : List sv_T) (N : Nat) (l : List sv_M) : sv_S → sv_mp → (sv_S → sv_mp → Bool) → Bool := List.rec (motive := fun _ => sv_S → sv_mp → (sv_S → sv_mp → Bool) → Bool) (fun S mp K => K S mp) (fun q _ ih S mp K => sx_sy mp q.1 fun x => sv_sb mp q.2.2.1 fun i => (match sx_ml x i S.2.2.2.2.1 with
  | some v => sx_b1 N mp q.2.2.2 v fun mp => ih S mp K
  | none => cond (sx_ty x q.2.1 S) (match ae_nth tt q.2.1 with
    | some T => cond (and (Nat.beq T.1 1) (sx_bl S.1 i (Int.ofNat T.2.2.1, []))) (sv_nw S.1 T.2.2.2.1 T.2.2.2.2.1 fun a r => sx_fa x i r S.2.2.2.2.1 S.2.2.2.2.2 a fun a => sx_b1 N mp q.2.2.2 r fun mp => ih (a, S.2.1, S.2.2.1, S.2.2.2.1, (x, q.2.1, i, r) :: S.2.2.2.2.1, S.2.2.2.2.2) mp K) false
    | none => false) false)) l
noncomputable def sx_mat (tt : List sv_T) (P : sv_P) (mp : sv_mp) (S : sv_S) (K : sv_S → sv_mp → Bool) : Bool := sx_g1 P.2.1.length S.2.1 P.2.2.2.1 mp fun mp => sx_g2 tt P.2.1.length P.2.2.2.2.1 S mp fun S mp => sx_g3 tt P.2.1.length P.2.2.2.2.2.1 S mp K
section
variable {ty : Nat → Option Nat} {tt : List sv_T} {op : Nat → ae_H → Nat → Nat → Int → Int → Int → Int → Prop} {ρ0 : Nat → Int} {n0 : Nat} {mods : List (Nat × Nat)} {h0 : ae_H} {ρ : Nat → Int} {S : sv_S} {lv : ae_L} {st : List ae_V} {h : ae_H}
theorem sx_ck_ok {mp : sv_mp} {P : sv_P} (hm : sv_mk S.1.1 P.2.1.length mp) (hR : sv_R ty tt op ρ0 n0 mods h0 ρ S lv st h) (hs : sx_ck tt mp P S = true) : sv_Pk ty op (sv_rm ρ mp) P lv h := by
  unfold sx_ck at hs
  simp only [Bool.and_eq_true] at hs
  obtain ⟨s1, s2, s3, s4, s5, s6⟩ := hs
  obtain ⟨ha, -, hl, -, hH, ht⟩ := hR
  refine ⟨fun k b hb => ?_, fun c hc => ?_, fun i v hv => ?_, fun q hq => ?_, fun q hq => ?_, fun q hq => ?_⟩
  · have := sx_cb_ok ha s1 k b hb
    rw [Nat.zero_add] at this; exact this
  · obtain ⟨r, k1, k2, k3, k4⟩ := sv_sb_ok hm ρ (sx_al_ok s2 c hc)
    exact ⟨by rw [← k2]; exact sv_p_ok ha k1, k4⟩
  · have h1 := sx_al_ok s3 (i, v) (ae_lk_mem hv)
    unfold sx_cl at h1
    split at h1
    · next w ew =>
      obtain ⟨c, g1, g2⟩ := hl i w ew
      exact ⟨c, g1, sx_mv_ok hm ha g2 h1⟩
    · cases h1
  · obtain ⟨x, h1, h2, h3, h4⟩ := sx_sy_ok hm ρ (sx_al_ok s4 q hq)
    split at h1
    · next w ew =>
      obtain ⟨-, k, ci, fs, c, y1, y2, y3, y4, y5⟩ := hH.1 _ (sx_fl_ok ew)
      exact ⟨h2, k, ci, fs, c, h4.trans y1, y2, y3, y4, sx_mv_ok hm ha y5 h1⟩
    · cases h1
  · obtain ⟨x, h1, h2, h3, h4⟩ := sx_sy_ok hm ρ (sx_al_ok s5 q hq)
    obtain ⟨i, h1, i2, i3, i4⟩ := sv_sb_ok hm ρ h1
    obtain ⟨v, h1, v2, v3, v4⟩ := sv_sb_ok hm ρ h1
    obtain ⟨-, -, -, k, tag, len, A, I, y1, y2, y3, y5, y6, y7⟩ := hH.2.1 _ (sx_mm_ok h1)
    exact ⟨h2, i4, v4, k, tag, len, A, I, h4.trans y1, y2, y3, i2.symm.trans y5, y6, v2.symm.trans y7⟩
  · obtain ⟨x1, h1, a2, a3, a4⟩ := sx_sy_ok hm ρ (sx_al_ok s6 q hq)
    obtain ⟨x2, h1, b2, b3, b4⟩ := sx_sy_ok hm ρ h1
    obtain ⟨o, h1, o2, o3, o4⟩ := sv_sb_ok hm ρ h1
    obtain ⟨e, h1, e2, e3, e4⟩ := sv_sb_ok hm ρ h1
    obtain ⟨l, h1, l2, l3, l4⟩ := sv_sb_ok hm ρ h1
    obtain ⟨u, h1, u2, u3, u4⟩ := sv_sb_ok hm ρ h1
    obtain ⟨-, k, k2, z1, z2, z3, z4, z5⟩ := sx_en_ok ha ht.1 hH ⟨o3, e3, l3, u3⟩ h1
    refine ⟨⟨a2, b2, o4, e4, l4, u4⟩, k, k2, a4.trans z1, z2, b4.trans z3, z4, ?_⟩
    rw [← o2, ← e2, ← l2, ← u2]
    exact z5
theorem sx_b1_ok {n N : Nat} {mp : sv_mp} {e f : sv_L} {K : sv_mp → Bool} (hm : sv_mk n N mp) (hf : sv_wf n f) (hs : sx_b1 N mp e f K = true) : ∃ mp2, K mp2 = true ∧ sv_mk n N mp2 ∧ ∀ s g, ae_lk mp s = some g → ae_lk mp2 s = some g := by
  unfold sx_b1 at hs
  split at hs
  · next c s k =>
    cases hb : Nat.blt s N with
    | false => rw [hb, cond_false] at hs; cases hs
    | true =>
      rw [hb, cond_true] at hs
      split at hs
      · exact ⟨mp, hs, hm, fun _ _ h => h⟩
      · next hnone =>
        refine ⟨_, hs, fun s' e' he => ?_, fun s' g hg => ?_⟩
        · have he : cond (Nat.beq s s') (some f) (ae_lk mp s') = some e' := he
          cases hq : Nat.beq s s' with
          | true =>
            rw [hq, cond_true] at he
            cases he
            rw [← Nat.eq_of_beq_eq_true hq]
            exact ⟨Nat.le_of_ble_eq_true hb, hf⟩
          | false => rw [hq, cond_false] at he; exact hm s' e' he
        · show cond (Nat.beq s s') (some f) (ae_lk mp s') = some g
          cases hq : Nat.beq s s' with
          | true => rw [← Nat.eq_of_beq_eq_true hq, hnone] at hg; cases hg
          | false => rw [cond_false]; exact hg
  · exact ⟨mp, hs, hm, fun _ _ h => h⟩
theorem sx_bd_ok {n N : Nat} {mp : sv_mp} {V w : sv_V} {K : sv_mp → Bool} (hm : sv_mk n N mp) (hf : sv_wf n w.2.2) (hs : sx_bd N mp V w K = true) : ∃ mp2, K mp2 = true ∧ sv_mk n N mp2 ∧ ∀ s g, ae_lk mp s = some g → ae_lk mp2 s = some g := by
  unfold sx_bd at hs
  cases hc : and (Nat.beq V.1 3) (Nat.beq w.1 2) with
  | true => rw [hc, cond_true] at hs; exact sx_b1_ok hm (sv_wf0 _ _) hs
  | false => rw [hc, cond_false] at hs; exact sx_b1_ok hm hf hs
theorem sv_mk.up {n n' N : Nat} {mp : sv_mp} (hn : n ≤ n') (hm : sv_mk n N mp) : sv_mk n' N mp := fun s e he => ⟨(hm s e he).1, sv_wf_up hn (hm s e he).2⟩
theorem sx_g1_ok {N : Nat} (hl : sv_lk ty ρ S.1.1 S.2.1 lv) : ∀ {l : List (Nat × sv_V)} {mp : sv_mp} {K : sv_mp → Bool}, sv_mk S.1.1 N mp → sx_g1 N S.2.1 l mp K = true → ∃ mp2, K mp2 = true ∧ sv_mk S.1.1 N mp2 ∧ ∀ s g, ae_lk mp s = some g → ae_lk mp2 s = some g
  | [], mp, K, hm, hs => ⟨mp, hs, hm, fun _ _ h => h⟩
  | q :: l, mp, K, hm, hs => by
    have hs : (match ae_lk S.2.1 q.1 with
      | some w => sx_bd N mp q.2 w fun mp => sx_g1 N S.2.1 l mp K
      | none => false) = true := hs
    split at hs
    · next w ew =>
      obtain ⟨c, -, hv⟩ := hl q.1 w ew
      obtain ⟨mp2, k2, m2, x2⟩ := sx_bd_ok hm hv.1 hs
      obtain ⟨mp3, k3, m3, x3⟩ := sx_g1_ok hl m2 k2
      exact ⟨mp3, k3, m3, fun s g hg => x3 s g (x2 s g hg)⟩
    · cases hs
theorem sx_ty_ok {r t : Nat} (hR : sv_R ty tt op ρ0 n0 mods h0 ρ S lv st h) (hs : sx_ty r t S = true) : r < S.1.1 ∧ ∃ k : Nat, ρ r = k ∧ ty k = some t := by
  unfold sx_ty at hs
  rw [Bool.or_eq_true] at hs
  rcases hs with hs | hs
  · exact sx_ev_ok hR.2.2.2.2.1.1 hs
  · obtain ⟨q, -, hc⟩ := sx_an_ok hs
    split at hc
    · next w ew =>
      rw [Bool.and_eq_true, Bool.and_eq_true] at hc
      obtain ⟨c, -, hv⟩ := hR.2.2.1 q.1 w ew
      obtain ⟨kd, t', e⟩ := w
      have e1 : kd = 1 := Nat.eq_of_beq_eq_true hc.1
      have e2 : t' = t := Nat.eq_of_beq_eq_true hc.2.1
      have e3 : e = (0, [(r, 1)]) := sv_same_ok hc.2.2
      subst e1 e2 e3
      obtain ⟨hw, k2, g1, -, g3⟩ := hv
      refine ⟨hw (r, 1) (List.mem_singleton.mpr rfl), k2, ?_, g3⟩
      have : sv_ev ρ ((0, [(r, 1)]) : sv_L) = ρ r := by show (0 : Int) + (1 * ρ r + 0) = ρ r; omega
      rw [← this]; exact g1
    · cases hc
/-- what comes of holding a state against a pattern -/
def sx_mres (ty : Nat → Option Nat) (tt : List sv_T) (op : Nat → ae_H → Nat → Nat → Int → Int → Int → Int → Prop) (ρ0 : Nat → Int) (n0 : Nat) (mods : List (Nat × Nat)) (h0 : ae_H) (ρ : Nat → Int) (S : sv_S) (mp : sv_mp) (N : Nat) (lv : ae_L) (st : List ae_V) (h : ae_H) (K : sv_S → sv_mp → Bool) : Prop := ∃ ρ2 S2 mp2, K S2 mp2 = true ∧ sv_R ty tt op ρ0 n0 mods h0 ρ2 S2 lv st h ∧ sv_mk S2.1.1 N mp2 ∧ S.1.1 ≤ S2.1.1 ∧ (∀ s, s < S.1.1 → ρ2 s = ρ s) ∧ (∀ s g, ae_lk mp s = some g → ae_lk mp2 s = some g) ∧ S2.2.2.1 = S.2.2.1 ∧ S2.2.1 = S.2.1
theorem sx_g2_ok {N : Nat} (hty : ∀ q t, ty q = some t → q < 256) : ∀ {l : List sv_F} {ρ : Nat → Int} {S : sv_S} {mp : sv_mp} {K : sv_S → sv_mp → Bool}, sv_R ty tt op ρ0 n0 mods h0 ρ S lv st h → sv_mk S.1.1 N mp → sx_g2 tt N l S mp K = true → sx_mres ty tt op ρ0 n0 mods h0 ρ S mp N lv st h K
  | [], ρ, S, mp, K, hR, hm, hs => ⟨ρ, S, mp, hs, hR, hm, Nat.le_refl _, fun _ _ => rfl, fun _ _ h => h, rfl, rfl⟩
  | q :: l, ρ, S, mp, K, hR, hm, hs => by
    have hs : (sx_sy mp q.1.1 fun x => (match sx_fl x q.1.2.1 q.1.2.2 S.2.2.2.1 with
      | some w => sx_bd N mp q.2 w fun mp => sx_g2 tt N l S mp K
      | none => cond (sx_ty x q.1.2.1 S) (match ae_nth tt q.1.2.1 with
        | some T => cond (Nat.beq T.1 0) (match ae_nth T.2.2.2.2.2.2 q.1.2.2 with
          | some ft => sx_nf ft S.1 fun a w => sx_bd N mp q.2 w fun mp => sx_g2 tt N l (a, S.2.1, S.2.2.1, ((x, q.1.2.1, q.1.2.2), w) :: S.2.2.2.1, S.2.2.2.2) mp K
          | none => false) false
        | none => false) false)) = true := hs
    obtain ⟨x, hs, -, -, -⟩ := sx_sy_ok hm ρ hs
    split at hs
    · next w ew =>
      obtain ⟨-, k, ci, fs, c, -, -, -, -, y5⟩ := hR.2.2.2.2.1.1 _ (sx_fl_ok ew)
      obtain ⟨mp2, k2, m2, x2⟩ := sx_bd_ok hm y5.1 hs
      obtain ⟨ρ3, S3, mp3, k3, r3, m3, n3, u3, x3, t3, l3⟩ := sx_g2_ok hty hR m2 k2
      exact ⟨ρ3, S3, mp3, k3, r3, m3, n3, u3, fun s g hg => x3 s g (x2 s g hg), t3, l3⟩
    · next enone =>
      cases hc : sx_ty x q.1.2.1 S with
      | false => rw [hc, cond_false] at hs; cases hs
      | true =>
        rw [hc, cond_true] at hs
        obtain ⟨hlt, k, hk, htk⟩ := sx_ty_ok hR hc
        split at hs
        · next T eT =>
          rw [ae_nth_eq] at eT
          cases h0' : Nat.beq T.1 0 with
          | false => rw [h0', cond_false] at hs; cases hs
          | true =>
            rw [h0', cond_true] at hs
            obtain ⟨fs, g1, g2, g3⟩ := sv_hk_o (ci := 0) hR.2.2.2.2.2.1 htk eT (Nat.eq_of_beq_eq_true h0')
            split at hs
            · next ft eft =>
              rw [ae_nth_eq] at eft
              have hflt : q.1.2.2 < fs.length := by rw [g2]; exact (List.getElem?_eq_some_iff.mp eft).1
              obtain ⟨c2, hc2⟩ : ∃ c2, fs[q.1.2.2]? = some c2 := ⟨fs[q.1.2.2], List.getElem?_eq_getElem hflt⟩
              obtain ⟨ρ2, a2, w, k2, r2, n2, u2, hw⟩ := sx_nf_ok hty hR.1 (g3 _ ft c2 eft hc2) hs
              obtain ⟨mp2, k3, m3, x3⟩ := sx_bd_ok (hm.up n2) hw.1 k2
              have hR2 : sv_R ty tt op ρ0 n0 mods h0 ρ2 (a2, S.2.1, S.2.2.1, ((x, q.1.2.1, q.1.2.2), w) :: S.2.2.2.1, S.2.2.2.2) lv st h := by
                obtain ⟨ha, ⟨hn, h00⟩, hl, hstk, hh, ht⟩ := hR
                have hh2 := hh.up u2 n2
                refine ⟨r2, ⟨by show n0 ≤ a2.1; omega, fun y hy => (u2 y (by omega)).trans (h00 y hy)⟩, hl.up u2 n2, hstk.up u2 n2, ⟨fun y hy => ?_, hh2.2.1, hh2.2.2⟩, ht⟩
                rcases List.mem_cons.mp hy with z | z
                · subst z
                  exact ⟨by show x < a2.1; omega, k, T.2.1, fs, c2, (u2 x hlt).trans hk, htk, g1, hc2, hw⟩
                · exact hh2.1 y z
              obtain ⟨ρ4, S4, mp4, k4, r4, m4, n4, u4, x4, t4, l4⟩ := sx_g2_ok hty hR2 m3 k3
              have n4 : a2.1 ≤ S4.1.1 := n4
              have u4 : ∀ s, s < a2.1 → ρ4 s = ρ2 s := u4
              exact ⟨ρ4, S4, mp4, k4, r4, m4, by omega, fun s hs => (u4 s (by omega)).trans (u2 s hs), fun s g hg => x4 s g (x3 s g hg), t4, l4⟩
            · cases hs
        · cases hs
theorem sx_g3_ok {N : Nat} : ∀ {l : List sv_M} {ρ : Nat → Int} {S : sv_S} {mp : sv_mp} {K : sv_S → sv_mp → Bool}, sv_R ty tt op ρ0 n0 mods h0 ρ S lv st h → sv_mk S.1.1 N mp → sx_g3 tt N l S mp K = true → sx_mres ty tt op ρ0 n0 mods h0 ρ S mp N lv st h K
  | [], ρ, S, mp, K, hR, hm, hs => ⟨ρ, S, mp, hs, hR, hm, Nat.le_refl _, fun _ _ => rfl, fun _ _ h => h, rfl, rfl⟩
  | q :: l, ρ, S, mp, K, hR, hm, hs => by
    have hs : (sx_sy mp q.1 fun x => sv_sb mp q.2.2.1 fun i => (match sx_ml x i S.2.2.2.2.1 with
      | some v => sx_b1 N mp q.2.2.2 v fun mp => sx_g3 tt N l S mp K
      | none => cond (sx_ty x q.2.1 S) (match ae_nth tt q.2.1 with
        | some T => cond (and (Nat.beq T.1 1) (sx_bl S.1 i (Int.ofNat T.2.2.1, []))) (sv_nw S.1 T.2.2.2.1 T.2.2.2.2.1 fun a r => sx_fa x i r S.2.2.2.2.1 S.2.2.2.2.2 a fun a => sx_b1 N mp q.2.2.2 r fun mp => sx_g3 tt N l (a, S.2.1, S.2.2.1, S.2.2.2.1, (x, q.2.1, i, r) :: S.2.2.2.2.1, S.2.2.2.2.2) mp K) false
        | none => false) false)) = true := hs
    obtain ⟨x, hs, -, -, -⟩ := sx_sy_ok hm ρ hs
    obtain ⟨i, hs, -, wi, -⟩ := sv_sb_ok hm ρ hs
    split at hs
    · next v ev =>
      obtain ⟨t2, hmem⟩ := sx_ml_ok ev
      obtain ⟨-, -, w2, -⟩ := hR.2.2.2.2.1.2.1 _ hmem
      obtain ⟨mp2, k2, m2, x2⟩ := sx_b1_ok hm w2 hs
      obtain ⟨ρ3, S3, mp3, k3, r3, m3, n3, u3, x3, t3, l3⟩ := sx_g3_ok hR m2 k2
      exact ⟨ρ3, S3, mp3, k3, r3, m3, n3, u3, fun s g hg => x3 s g (x2 s g hg), t3, l3⟩
    · next enone =>
      cases hc : sx_ty x q.2.1 S with
      | false => rw [hc, cond_false] at hs; cases hs
      | true =>
        rw [hc, cond_true] at hs
        obtain ⟨hlt, k, hk, htk⟩ := sx_ty_ok hR hc
        split at hs
        · next T eT =>
          rw [ae_nth_eq] at eT
          cases h0' : and (Nat.beq T.1 1) (sx_bl S.1 i (Int.ofNat T.2.2.1, [])) with
          | false => rw [h0', cond_false] at hs; cases hs
          | true =>
            rw [h0', cond_true] at hs
            rw [Bool.and_eq_true] at h0'
            obtain ⟨b1, b2⟩ := sx_bl_ok hR.1 h0'.2
            rw [sv_ev0] at b2
            have b2 : sv_ev ρ i < (T.2.2.1 : Int) := b2
            obtain ⟨I, hI⟩ : ∃ I : Nat, sv_ev ρ i = I := ⟨(sv_ev ρ i).toNat, by omega⟩
            have I2 : I < T.2.2.1 := by omega
            obtain ⟨A, g1, g2⟩ := sv_hk_a hR.2.2.2.2.2.1 htk eT (Nat.eq_of_beq_eq_true h0'.1)
            obtain ⟨v1, v2', -⟩ := g2 I I2
            obtain ⟨hl2, a2, k2, r2, e3, v2⟩ := sv_nw_ok hR.1 v1 v2' hs
            have hup := sv_up_lt (ρ := ρ) (v := sv_g (ae_rd 32 A I)) hl2
            obtain ⟨ha, ⟨hn, h00⟩, hl, hstk, hh, ht⟩ := hR
            have hle : S.1.1 ≤ a2.1 := by omega
            have hh2 := hh.up hup hle
            have hw : sv_wf a2.1 (0, [(S.1.1, 1)]) := by rw [e3]; exact sv_wf1 _
            have hI2 : sv_ev (sv_up ρ S.1.1 (sv_g (ae_rd 32 A I))) i = I := (sv_ev_up hup wi).trans hI
            have hs2 : sv_up ρ S.1.1 (sv_g (ae_rd 32 A I)) x = k := (hup x hlt).trans hk
            obtain ⟨a3, k3, r3, e4⟩ := sx_fa_ok hh2.2.1 hs2 g1 (sv_wf_up hle wi) hI2 I2 v2 hw _ hh2.2.2 a2 _ r2 rfl k2
            have hle3 : S.1.1 ≤ a3.1 := by omega
            have hh3 := hh.up hup hle3
            have hw3 : sv_wf a3.1 (0, [(S.1.1, 1)]) := by rw [e4]; exact hw
            obtain ⟨mp2, k4, m4, x4⟩ := sx_b1_ok (hm.up hle3) hw3 k3
            have hR2 : sv_R ty tt op ρ0 n0 mods h0 (sv_up ρ S.1.1 (sv_g (ae_rd 32 A I))) (a3, S.2.1, S.2.2.1, S.2.2.2.1, (x, q.2.1, i, (0, [(S.1.1, 1)])) :: S.2.2.2.2.1, S.2.2.2.2.2) lv st h := by
              refine ⟨r3, ⟨by show n0 ≤ a3.1; omega, fun y hy => (hup y (by omega)).trans (h00 y hy)⟩, hl.up hup hle3, hstk.up hup hle3, ⟨hh3.1, fun m hmm => ?_, hh3.2.2⟩, ht⟩
              rcases List.mem_cons.mp hmm with z | z
              · subst z
                exact ⟨by show x < a3.1; omega, sv_wf_up hle3 wi, hw3, k, T.2.1, T.2.2.1, A, I, hs2, htk, g1, hI2, I2, v2⟩
              · exact hh3.2.1 m z
            obtain ⟨ρ5, S5, mp5, k5, r5, m5, n5, u5, x5, t5, l5⟩ := sx_g3_ok hR2 m4 k4
            have n5 : a3.1 ≤ S5.1.1 := n5
            have u5 : ∀ s, s < a3.1 → ρ5 s = sv_up ρ S.1.1 (sv_g (ae_rd 32 A I)) s := u5
            exact ⟨ρ5, S5, mp5, k5, r5, m5, by omega, fun s hs => (u5 s (by omega)).trans (hup s hs), fun s g hg => x5 s g (x4 s g hg), t5, l5⟩
        · cases hs
theorem sx_mat_ok {P : sv_P} {mp : sv_mp} {K : sv_S → sv_mp → Bool} (hty : ∀ q t, ty q = some t → q < 256) (hR : sv_R ty tt op ρ0 n0 mods h0 ρ S lv st h) (hm : sv_mk S.1.1 P.2.1.length mp) (hs : sx_mat tt P mp S K = true) : sx_mres ty tt op ρ0 n0 mods h0 ρ S mp P.2.1.length lv st h K := by
  unfold sx_mat at hs
  obtain ⟨mp1, k1, m1, x1⟩ := sx_g1_ok hR.2.2.1 hm hs
  obtain ⟨ρ2, S2, mp2, k2, r2, m2, n2, u2, x2, t2, l2⟩ := sx_g2_ok hty hR m1 k1
  obtain ⟨ρ3, S3, mp3, k3, r3, m3, n3, u3, x3, t3, l3⟩ := sx_g3_ok r2 m2 k2
  exact ⟨ρ3, S3, mp3, k3, r3, m3, Nat.le_trans n2 n3, fun s hs => (u3 s (by omega)).trans (u2 s hs), fun s g hg => x3 s g (x2 s g (x1 s g hg)), t3.trans t2, l3.trans l2⟩
end
