/-! THE CLASS'S perform -/
theorem ci_59 {t : Int} {m : dc_M} {v : Int} {m' : dc_M} (h : D_59 t m v m') : m' = m := by
  obtain ⟨-, h⟩ := h
  rcases h with ⟨-, -, em⟩ | ⟨-, -, em⟩
  · exact em
  · exact em
theorem ci_48m : ∀ (c : Nat) (l1 l2 : Int) (m : dc_M) (v : Int) (m' : dc_M), LM_48 c 4 l1 l2 m v m' → m' = m := by
  intro c
  induction c with
  | zero => intro l1 l2 m v m' h; exact h.elim
  | succ c ih =>
    intro l1 l2 m v m' h
    replace h := lm_48_4.mp h
    rcases h with ⟨-, -, em⟩ | ⟨-, v2, m2, hd, h⟩
    · exact em
    · have e := ci_59 hd
      clear hd
      rcases h with ⟨-, h⟩ | ⟨-, h⟩
      · exact (ih _ _ _ _ _ h).trans e
      · exact (ih _ _ _ _ _ h).trans e
theorem ci_48 {T : Int → Int} {m : dc_M} (H : cd_T T m) {v : Int} {m' : dc_M} (h : D_48 m v m') : v = if 0 ≤ T 158 then 3 else if 0 ≤ T 157 then 2 else if 0 ≤ T 156 then 1 else 0 := by
  obtain ⟨c, h⟩ := h
  have step : ∀ {c : Nat} {l1 l2 : Int}, LM_48 c 4 l1 l2 m v m' → 1 ≤ l2 → l2 ≤ 3 → ∃ c, LM_48 c 4 (if 0 ≤ T (155 + l2) then l2 else l1) (l2 + 1) m v m' := by
    intro c l1 l2 h a0 a1
    cases c with
    | zero => exact h.elim
    | succ c =>
      replace h := lm_48_4.mp h
      rw [dw (z := 156 + l2) (by omega) (by omega), dw (z := 156 + l2 - 1) (by omega) (by omega), dw (z := l2 + 1) (by omega) (by omega), show 156 + l2 - 1 = 155 + l2 by omega] at h
      rcases h with ⟨c1, -⟩ | ⟨c1, v2, m2, hd, h⟩
      · exfalso; omega
      · obtain ⟨e2, q⟩ := cd_59 H (by clear h hd; omega) (by clear h hd; omega) hd
        clear hd
        rw [e2] at h
        rcases h with ⟨c2, h⟩ | ⟨c2, h⟩
        · rcases q with ⟨q, -⟩ | ⟨-, q⟩
          · exfalso; clear h; omega
          · rw [if_neg (by clear h; omega)]; exact ⟨c, h⟩
        · rcases q with ⟨-, q⟩ | ⟨q, -⟩
          · rw [if_pos q]; exact ⟨c, h⟩
          · exact absurd q c2
  obtain ⟨c, h⟩ := step h (by decide) (by decide)
  obtain ⟨c, h⟩ := step h (by decide) (by decide)
  obtain ⟨c, h⟩ := step h (by decide) (by decide)
  cases c with
  | zero => exact h.elim
  | succ c =>
    replace h := lm_48_4.mp h
    rcases h with ⟨-, ev, -⟩ | ⟨c1, -⟩
    · rw [ev]
      rfl
    · exact absurd (by decide) c1
/-- the answer of perform, by what stands at its end -/
def ci_X (o : Nat) (z : Int) (m : dc_M) (v : Int) (m' : dc_M) : Prop := m' = m ∧ ((z < 0 ∧ v = 1) ∨ (0 ≤ z ∧ m 16 14 ≠ 0 ∧ v = 0) ∨ (0 ≤ z ∧ m 16 14 = 0 ∧ m (o + 1) 1 ≠ m z.toNat 1 ∧ v = 0) ∨ (0 ≤ z ∧ m 16 14 = 0 ∧ m (o + 1) 1 = m z.toNat 1 ∧ v = 1))
theorem ci_ex {o : Nat} {z : Int} {m : dc_M} {v : Int} {m' : dc_M} (eo : (m 16 11).toNat = o) (h : ((((z : Int) < 0 ∧ (v = 1 ∧ m' = m)) ∨ (¬ ((z : Int) < 0) ∧ (((((m 16 14) : Int) ≠ 0 ∧ (v = 0 ∧ m' = m)) ∨ (¬ (((m 16 14) : Int) ≠ 0) ∧ (((((m ((m 16 11).toNat + 1) 1) : Int) ≠ (m (z).toNat 1) ∧ (v = 0 ∧ m' = m)) ∨ (¬ (((m ((m 16 11).toNat + 1) 1) : Int) ≠ (m (z).toNat 1)) ∧ (v = 1 ∧ m' = m))))))))))) : ci_X o z m v m' := by
  rw [eo] at h
  rcases h with ⟨c1, ev, em⟩ | ⟨c1, h⟩
  · exact ⟨em, Or.inl ⟨c1, ev⟩⟩
  · rcases h with ⟨c2, ev, em⟩ | ⟨c2, h⟩
    · exact ⟨em, Or.inr (Or.inl ⟨by omega, c2, ev⟩)⟩
    · rcases h with ⟨c3, ev, em⟩ | ⟨c3, ev, em⟩
      · exact ⟨em, Or.inr (Or.inr (Or.inl ⟨by omega, Classical.not_not.mp c2, c3, ev⟩))⟩
      · exact ⟨em, Or.inr (Or.inr (Or.inr ⟨by omega, Classical.not_not.mp c2, Classical.not_not.mp c3, ev⟩))⟩
theorem ci_stop {k1 : Nat} {x1 z : Int} {o : Nat} {c : Nat} {l5 : Int} {m : dc_M} {v : Int} {m' : dc_M} (eo : (m 16 11).toNat = o) (h : LM_47 k1 x1 z c 33 0 l5 0 0 0 m v m') : ci_X o z m v m' := by
  cases c with
  | zero => exact h.elim
  | succ c =>
    replace h := lm_47_33.mp h
    rcases h with ⟨-, h⟩ | ⟨-, h⟩
    · exact ci_ex eo h
    · rcases h with ⟨-, h⟩ | ⟨d, -⟩
      · exact ci_ex eo h
      · exact absurd rfl d
theorem ci_stop99 {k1 : Nat} {x1 z : Int} {o : Nat} {c : Nat} {l5 l6 l7 l8 : Int} {m : dc_M} {v : Int} {m' : dc_M} (eo : (m 16 11).toNat = o) (h : LM_47 k1 x1 z c 99 0 l5 l6 l7 l8 m v m') : ci_X o z m v m' := by
  cases c with
  | zero => exact h.elim
  | succ c =>
    replace h := lm_47_99.mp h
    have tail : ∀ (h : ((((l6 : Int) = 0 ∧ (LM_47 k1 x1 z c 33 0 (dc_w (l5 + 1)) 0 0 0 m v m')) ∨ (¬ ((l6 : Int) = 0) ∧ (((((0 : Int) : Int) = 0 ∧ (LM_47 k1 x1 z c 33 0 (dc_w (l5 + 1)) 0 0 0 m v m')) ∨ (¬ (((0 : Int) : Int) = 0) ∧ (∃ m_439, m_439 = dc_up m (m 16 11).toNat 4 1 ∧ (LM_47 k1 x1 z c 33 0 (dc_w (l5 + 1)) 0 0 0 m_439 v m'))))))))), ci_X o z m v m' := by
      intro h
      rcases h with ⟨-, h⟩ | ⟨-, h⟩
      · exact ci_stop eo h
      · rcases h with ⟨-, h⟩ | ⟨d, -⟩
        · exact ci_stop eo h
        · exact absurd rfl d
    rcases h with ⟨-, h⟩ | ⟨-, h⟩
    · exact tail h
    · rcases h with ⟨-, h⟩ | ⟨d, -⟩
      · exact tail h
      · exact absurd rfl d
/-- LINES told and those of F are the same -/
def ci_t (z : Int) (m F : dc_M) : Prop := F 0 1 = m z.toNat 1 ∧ ∀ i, 0 ≤ i → i < 12 * F 0 1 → F 1 i = m (z.toNat + 1) i
/-- how perform ends -/
def ci_R (W : List (Int × Int)) (w : Int) (o : Nat) (z C : Int) (m0 : dc_M) (v : Int) (m' F : dc_M) : Prop := ch_f o m0 m' ∧ ch_N W w C m' ∧ ((z < 0 ∧ v = 1 ∧ co_0 o m' F) ∨ (0 ≤ z ∧ v = 1 ∧ co_0 o m' F ∧ ci_t z m0 F) ∨ (0 ≤ z ∧ v = 0 ∧ ¬ ci_t z m0 F))
theorem ci_dn {z : Int} {m F : dc_M} (d : ct_d z m F) : ¬ ci_t z m F := by
  intro ⟨t1, t2⟩
  obtain ⟨-, n, n0, n1, d⟩ := d
  rcases d with d | ⟨i, i0, i1, d⟩
  · omega
  · exact d (t2 i (by omega) (by omega))
theorem ci_fin {W : List (Int × Int)} {w : Int} {o : Nat} {z C D : Int} (hz : ce_L o z) {m0 m S F : dc_M} {v : Int} {m' : dc_M} (hD : C ≤ D) (Z : ch_Z W w o z C m0 m S) (le : (m 16 14 = 0 → F = S) ∧ mp_le S F) (X : ci_X o z m v m') : ci_R W w o z D m0 v m' F := by
  obtain ⟨f, ⟨n1, n2, n3, n4⟩, Z⟩ := Z
  obtain ⟨em, X⟩ := X
  rw [em]
  refine ⟨f, ⟨n1, n2, ⟨n3.1, by omega⟩, n4⟩, ?_⟩
  have tm := ch_tm hz f
  rcases Z with ⟨O, e14, cs⟩ | ⟨e14, d⟩
  · have eF := le.1 e14
    rw [eF]
    rcases X with ⟨x1, x2⟩ | ⟨x1, x2, x3⟩ | ⟨x1, x2, x3, x4⟩ | ⟨x1, x2, x3, x4⟩
    · exact Or.inl ⟨x1, x2, O⟩
    · exact absurd e14 x2
    · refine Or.inr (Or.inr ⟨x1, x4, fun t => x3 ?_⟩)
      rw [O.1, t.1]
      exact (tm x1).1.symm
    · refine Or.inr (Or.inl ⟨x1, x4, O, ?_, (cs x1).2⟩)
      rw [← O.1, x3]
      exact (tm x1).1
  · rcases X with ⟨x1, x2⟩ | ⟨x1, x2, x3⟩ | ⟨x1, x2, -⟩ | ⟨x1, x2, -⟩
    · exfalso; have := d.1; omega
    · exact Or.inr (Or.inr ⟨x1, x3, ci_dn (d.le le.2)⟩)
    · rw [e14] at x2; exact absurd x2 (by decide)
    · rw [e14] at x2; exact absurd x2 (by decide)
theorem mp_le.u {S : dc_M} {i v : Int} (hi : i ≠ 1) : mp_le S (dc_up S 0 i v) := ⟨by rw [dc_up_i hi.symm]; exact Int.le_refl _, fun _ _ _ => dc_up_k (by decide)⟩
theorem mp_le.tts {W : List (Int × Int)} {w room : Int} : ∀ (f : Nat) (o : Int) (S : dc_M), mp_le S (mp_tts W w room f o S) := by
  intro f
  induction f with
  | zero => intro o S; exact mp_le.rf
  | succ f ih =>
    intro o S
    have es : mp_tts W w room (f + 1) o S = if mp_tot W w room o S 0 0 = 0 then mp_tts W w room f (o + 1) (dc_up (mp_tot W w room o S) 0 4 (mp_tot W w room o S 0 4 + 1)) else mp_tot W w room o S := rfl
    have q : mp_le S (mp_tot W w room o S) := mp_le.cyc
    rw [es]
    split
    · exact (q.tr (mp_le.u (by decide))).tr (ih _ _)
    · exact q
theorem mp_le.run {W : List (Int × Int)} {w : Int} {dk : Int → Int → Int} {n room : Int} : ∀ (f : Nat) (k : Int) (S : dc_M), mp_le S (mp_run W w dk n room f k S) := by
  intro f
  induction f with
  | zero => intro k S; exact mp_le.rf
  | succ f ih =>
    intro k S
    have es : mp_run W w dk n room (f + 1) k S = if mp_crd W w dk n room k S 0 0 = 0 then (if mp_nx W w dk n room k S 0 0 = 0 then (if 0 ≤ mp_T W w dk n k 180 then dc_up (mp_nx W w dk n room k S) 0 0 1 else mp_run W w dk n room f (k + 1) (mp_nx W w dk n room k S)) else mp_nx W w dk n room k S) else mp_crd W w dk n room k S := rfl
    have q : mp_le S (mp_crd W w dk n room k S) := mp_le.cyc
    have q2 : mp_le S (mp_nx W w dk n room k S) := (q.tr (mp_le.u (by decide))).tr (mp_le.tts _ _ _)
    rw [es]
    split
    · split
      · split
        · exact q2.tr (mp_le.u (by decide))
        · exact q2.tr (ih _ _)
      · exact q2
    · exact q
/-- TOTAL CYCLES -/
theorem ci_99 {W : List (Int × Int)} {w : Int} {o : Nat} {z : Int} {dk : Int → Int → Int} {n room : Int} {m0 : dc_M} (G : ch_G o z dk n room m0) {k1 : Nat} {x1 l5 l6 l7 : Int} (h7 : l7 ≤ 3) {v : Int} {m' : dc_M} : ∀ (f c : Nat) (l4 l8 : Int) (m S : dc_M) (B C : Int), LM_47 k1 x1 z c 99 l4 l5 l6 l7 l8 m v m' → l4 ≠ 0 → l7 - l8 + 1 = (f : Int) → 1 ≤ l8 → B + 4 * (f : Int) ≤ 1000 → C + 2 * (f : Int) ≤ 1800000000 → ch_C W w o z room B C m0 m S → (mp_tts W w room f l8 S 0 0 = 0 ∧ ∃ c l4 p8 m2, LM_47 k1 x1 z (c + 1) 99 l4 l5 l6 l7 p8 m2 v m' ∧ l4 ≠ 0 ∧ p8 > l7 ∧ ch_C W w o z room (B + 4 * (f : Int)) (C + 2 * (f : Int)) m0 m2 (mp_tts W w room f l8 S)) ∨ (∃ m2 R, ch_Z W w o z (C + 2 * (f : Int)) m0 m2 R ∧ mp_le R (mp_tts W w room f l8 S) ∧ (m2 16 14 = 0 → R = mp_tts W w room f l8 S ∧ R 0 0 ≠ 0) ∧ ci_X o z m2 v m') := by
  intro f
  induction f with
  | zero =>
    intro c l4 l8 m S B C h h4 hf h8 hB hC cc
    cases c with
    | zero => exact h.elim
    | succ c =>
      obtain ⟨c1, c2, c3, c4, c5⟩ := cc
      exact Or.inl ⟨c5.1, c, l4, l8, m, h, h4, by omega, c1, ⟨c2.1, c2.2.1, ⟨c2.2.2.1.1, by have := c2.2.2.1.2; omega⟩, c2.2.2.2⟩, c3, c4.mo (by omega), c5⟩
  | succ f ih =>
    intro c l4 l8 m S B C h h4 hf h8 hB hC cc
    cases c with
    | zero => exact h.elim
    | succ c =>
      have w1 : dc_w (l8 + 1) = l8 + 1 := dw (by omega) (by omega)
      replace h := lm_47_99.mp h
      rw [w1] at h
      rcases h with ⟨c1, -⟩ | ⟨c1, h⟩
      · exfalso; omega
      · rcases h with ⟨d, -⟩ | ⟨-, v2, m2, hd, h⟩
        · exact absurd d h4
        · have es : mp_tts W w room (f + 1) l8 S = if mp_tot W w room l8 S 0 0 = 0 then mp_tts W w room f (l8 + 1) (dc_up (mp_tot W w room l8 S) 0 4 (mp_tot W w room l8 S 0 4 + 1)) else mp_tot W w room l8 S := rfl
          rcases ch_52 G (by clear h hd; omega) (by clear h hd; omega) cc hd with ⟨a1, a2, a3⟩ | ⟨a1, a2, a3⟩
          · clear hd
            rw [es, if_pos a2]
            rcases ih c v2 (l8 + 1) m2 _ (B + 4) (C + 2) h (by rw [a1]; decide) (by clear h; omega) (by clear h; omega) (by clear h; omega) (by clear h; omega) a3 with ⟨b1, c9, p4, p8, m9, b2, b3, b4, b5, b6, b7, b8, b9⟩ | ⟨m9, R, b1, b2, b3, b4⟩
            · exact Or.inl ⟨b1, c9, p4, p8, m9, b2, b3, b4, b5, ⟨b6.1, b6.2.1, ⟨b6.2.2.1.1, by have := b6.2.2.1.2; clear h b2; omega⟩, b6.2.2.2⟩, b7, b8.mo (by clear h b2; omega), b9⟩
            · exact Or.inr ⟨m9, R, ⟨b1.1, ⟨b1.2.1.1, b1.2.1.2.1, ⟨b1.2.1.2.2.1.1, by have := b1.2.1.2.2.1.2; clear h; omega⟩, b1.2.1.2.2.2⟩, b1.2.2⟩, b2, b3, b4⟩
          · clear hd
            rw [a1] at h
            have o2 : (m2 16 11).toNat = o := (G.cg a2.1).2.1
            have X := ci_stop99 o2 h
            clear h
            have le : mp_le (mp_tot W w room l8 S) (mp_tts W w room (f + 1) l8 S) := by
              rw [es]
              split
              · exact (mp_le.u (by decide)).tr (mp_le.tts _ _ _)
              · exact mp_le.rf
            refine Or.inr ⟨m2, _, ⟨a2.1, ⟨a2.2.1.1, a2.2.1.2.1, ⟨a2.2.1.2.2.1.1, by have := a2.2.1.2.2.1.2; omega⟩, a2.2.1.2.2.2⟩, a2.2.2⟩, le, fun y => ⟨?_, a3 y⟩, X⟩
            rw [es, if_neg (a3 y)]
/-- the RUN -/
theorem ci_33 {W : List (Int × Int)} {w : Int} {o : Nat} {z : Int} {dk : Int → Int → Int} {n room : Int} {m0 : dc_M} (G : ch_G o z dk n room m0) {k1 : Nat} {x1 : Int} {v : Int} {m' : dc_M} {C0 : Int} (hC0 : C0 + 320 ≤ 1800000000) : ∀ (f c : Nat) (l4 l5 : Int) (m S : dc_M), LM_47 k1 x1 z c 33 l4 l5 0 0 0 m v m' → l4 ≠ 0 → n - l5 = (f : Int) → 0 ≤ l5 → ch_C W w o z room (16 * l5) (C0 + 8 * l5) m0 m S → ci_R W w o z (C0 + 320) m0 v m' (mp_run W w dk n room f l5 S) := by
  have hn := G.1.2.1
  have hz := G.2.2.2.2.2.1
  have ho := G.2.2.2.2.1
  intro f
  induction f with
  | zero =>
    intro c l4 l5 m S h h4 hf h5 cc
    cases c with
    | zero => exact h.elim
    | succ c =>
      have eo : (m 16 11).toNat = o := (G.cg cc.1).2.1
      have en : m 3 4 = n := (G.cg cc.1).1.1
      replace h := lm_47_33.mp h
      rw [en] at h
      rcases h with ⟨-, h⟩ | ⟨c1, -⟩
      · have X := ci_ex eo h
        clear h
        obtain ⟨c1, c2, c3, c4, c5, c6, c7⟩ := cc
        refine ci_fin hz (by omega) ⟨c1, c2, Or.inl ⟨c3, c6, c7⟩⟩ ⟨fun _ => rfl, mp_le.rf⟩ X
      · exfalso; omega
  | succ f ih =>
    intro c l4 l5 m S h h4 hf h5 cc
    cases c with
    | zero => exact h.elim
    | succ c =>
      have en : m 3 4 = n := (G.cg cc.1).1.1
      have w1 : dc_w (l5 + 1) = l5 + 1 := dw (by omega) (by omega)
      have es : mp_run W w dk n room (f + 1) l5 S = if mp_crd W w dk n room l5 S 0 0 = 0 then (if mp_nx W w dk n room l5 S 0 0 = 0 then (if 0 ≤ mp_T W w dk n l5 180 then dc_up (mp_nx W w dk n room l5 S) 0 0 1 else mp_run W w dk n room f (l5 + 1) (mp_nx W w dk n room l5 S)) else mp_nx W w dk n room l5 S) else mp_crd W w dk n room l5 S := rfl
      have enx : mp_nx W w dk n room l5 S = mp_tts W w room (mp_or (mp_T W w dk n l5) l5 n).toNat 1 (dc_up (mp_crd W w dk n room l5 S) 0 3 (mp_crd W w dk n room l5 S 0 3 + 1)) := rfl
      replace h := lm_47_33.mp h
      rw [en, w1] at h
      rcases h with ⟨c1, -⟩ | ⟨c1, h⟩
      · exfalso; omega
      · rcases h with ⟨d, -⟩ | ⟨-, v2, m2, hd, v3, m3, hd3, h⟩
        · exact absurd d h4
        · have e3 := ci_59 hd3
          rcases ch_49 G (by clear h hd hd3; omega) (by clear h hd hd3; omega) cc h5 (by clear h hd hd3; omega) hd with ⟨a1, a2, a3, a4⟩ | ⟨a1, a2, a3⟩
          · clear hd
            obtain ⟨-, q3⟩ := cd_59 a4 (by decide) (by decide) hd3
            clear hd3
            have en2 : m2 3 4 = n := (G.cg a3.1).1.1
            rw [e3, en2] at h
            rw [es, if_pos a2]
            obtain ⟨c9, l6, l7, h9, i6, i7⟩ : ∃ c9 l6 l7, LM_47 k1 x1 z c9 99 v2 l5 l6 l7 1 m2 v m' ∧ (l6 ≠ 0 ↔ 0 ≤ mp_T W w dk n l5 180) ∧ l7 = mp_or (mp_T W w dk n l5) l5 n := by
              rcases h with ⟨c2, h⟩ | ⟨c2, h⟩
              · rcases q3 with ⟨-, q⟩ | ⟨q, -⟩
                · exact ⟨c, _, _, h, ⟨fun _ => q, fun _ => c2⟩, (mp_or_3 (Or.inr q)).symm⟩
                · exact absurd q c2
              · rcases q3 with ⟨q, -⟩ | ⟨-, q⟩
                · exfalso; clear h; omega
                · rcases h with ⟨c3, v4, m4, hd, h⟩ | ⟨c3, h⟩
                  · have e4 : m4 = m2 := by
                      obtain ⟨cc, hcc⟩ := hd
                      exact ci_48m cc 0 1 m2 v4 m4 hcc
                    have q4 := ci_48 a4 hd
                    clear hd
                    rw [e4] at h
                    exact ⟨c, _, _, h, ⟨fun y => absurd (Classical.not_not.mp c2) y, fun y => by exfalso; clear h; omega⟩, by rw [mp_or_n c3 q]; exact q4⟩
                  · exact ⟨c, _, _, h, ⟨fun y => absurd (Classical.not_not.mp c2) y, fun y => by exfalso; clear h; omega⟩, (mp_or_3 (Or.inl (Classical.not_not.mp c3))).symm⟩
            clear h
            have or3 : 0 ≤ l7 ∧ l7 ≤ 3 := by
              rw [i7]
              unfold mp_or
              clear h9
              split
              · omega
              · split
                · omega
                · split
                  · omega
                  · split <;> omega
            rw [← i7] at enx
            rcases ci_99 G or3.2 l7.toNat c9 v2 1 m2 _ (16 * l5 + 4) (C0 + 8 * l5 + 2) h9 (by rw [a1]; decide) (by clear h9; omega) (by decide) (by clear h9; omega) (by clear h9; omega) a3 with ⟨b1, c10, p4, p8, m10, b2, b3, b4, b5⟩ | ⟨m10, R, b1, b2, b3, b4⟩
            · clear h9
              rw [← enx] at b1 b5
              rw [if_pos b1]
              replace b2 := lm_47_99.mp b2
              rw [w1] at b2
              have cc2 : ch_C W w o z room (16 * (l5 + 1)) (C0 + 8 * (l5 + 1)) m0 m10 (mp_nx W w dk n room l5 S) := by
                obtain ⟨u1, u2, u3, u4, u5⟩ := b5
                exact ⟨u1, ⟨u2.1, u2.2.1, ⟨u2.2.2.1.1, by have := u2.2.2.1.2; clear b2; omega⟩, u2.2.2.2⟩, u3, u4.mo (by clear b2; omega), u5⟩
              have o10 : (m10 16 11).toNat = o := (G.cg cc2.1).2.1
              rcases b2 with ⟨-, b2⟩ | ⟨d, -⟩
              · rcases b2 with ⟨d1, b2⟩ | ⟨d1, b2⟩
                · rw [if_neg (fun y => (i6.mpr y) d1)]
                  exact ih c10 p4 (l5 + 1) m10 _ b2 b3 (by clear b2; omega) (by clear b2; omega) cc2
                · rw [if_pos (i6.mp d1)]
                  rcases b2 with ⟨d, -⟩ | ⟨-, m11, e11, b2⟩
                  · exact absurd d b3
                  · rw [o10] at e11
                    have o11 : (m11 16 11).toNat = o := by rw [e11, dc_up_k (by clear b2; omega)]; exact o10
                    have X := ci_stop o11 b2
                    clear b2
                    obtain ⟨u1, ⟨n1, n2, n3, n4⟩, u3, u4, u5, u6, u7⟩ := cc2
                    have g : ∀ (k : Nat) (i : Int), k ≠ o → m11 k i = m10 k i := fun k i hk => by rw [e11, dc_up_k hk]
                    refine ci_fin hz (C := C0 + 8 * (l5 + 1)) (S := dc_up (mp_nx W w dk n room l5 S) 0 0 1) (by omega) ⟨fun k i y => ?_, ⟨n1.cg (fun k i hk => g k i (by omega)), n2.cg (fun k i hk => g k i (by omega)), by rw [g 16 7 (by omega)]; exact n3, fun i i0 i1 => by rw [g 16 7 (by omega), g 26 i (by omega)]; exact n4 i i0 i1⟩, Or.inl ⟨?_, by rw [g 16 14 (by omega)]; exact u6, u7.eq (dc_up_i (by decide)) (fun i _ _ => dc_up_k (by decide))⟩⟩ ⟨fun _ => rfl, mp_le.rf⟩ X
                    · rw [g k i (fun q => y (by unfold ch_t; omega))]; exact u1 k i y
                    · obtain ⟨N1, N2, N3, N4, N5, N6, N7, N8, N9, N10, N11⟩ := u3
                      refine ⟨?_, ?_, ?_, ?_, ?_, ?_, ?_, fun i i0 i1 => ?_, fun w u0 u1 => ?_, fun i i0 i1 => ?_, ?_⟩
                      · rw [g _ _ (by omega), dc_up_i (by decide)]; exact N1
                      · rw [e11, dc_up_i (by decide), dc_up_i (by decide)]; exact N2
                      · rw [e11, dc_up_i (by decide), dc_up_i (by decide)]; exact N3
                      · rw [e11, dc_up_i (by decide), dc_up_i (by decide)]; exact N4
                      · rw [e11, dc_up_i (by decide), dc_up_i (by decide)]; exact N5
                      · rw [e11, dc_up_i (by decide), dc_up_i (by decide)]; exact N6
                      · rw [e11, dc_up_i (by decide), dc_up_i (by decide)]; exact N7
                      · rw [g _ _ (by omega), dc_up_k (by decide)]; exact N8 i i0 i1
                      · rw [g _ _ (by omega), dc_up_k (by decide)]; exact N9 w u0 u1
                      · rw [g _ _ (by omega), dc_up_k (by decide)]; exact N10 i i0 i1
                      · rw [e11, dc_up_s, dc_up_s]
              · exact absurd b4 d
            · clear h9
              rw [← enx] at b2 b3
              have le : mp_le (mp_nx W w dk n room l5 S) (if mp_nx W w dk n room l5 S 0 0 = 0 then (if 0 ≤ mp_T W w dk n l5 180 then dc_up (mp_nx W w dk n room l5 S) 0 0 1 else mp_run W w dk n room f (l5 + 1) (mp_nx W w dk n room l5 S)) else mp_nx W w dk n room l5 S) := by
                split
                · split
                  · exact mp_le.u (by decide)
                  · exact mp_le.run _ _ _
                · exact mp_le.rf
              refine ci_fin hz (by omega) b1 ⟨fun y => ?_, b2.tr le⟩ b4
              obtain ⟨y1, y2⟩ := b3 y
              rw [y1] at y2
              rw [if_neg y2, y1]
          · clear hd
            rw [e3, a1] at h
            have o2 : (m2 16 11).toNat = o := (G.cg a2.1).2.1
            have X : ci_X o z m2 v m' := by
              clear hd3
              rcases h with ⟨-, h⟩ | ⟨-, h⟩
              · exact ci_stop99 o2 h
              · rcases h with ⟨-, v4, m4, hd, h⟩ | ⟨-, h⟩
                · have e4 : m4 = m2 := by
                    obtain ⟨cc, hcc⟩ := hd
                    exact ci_48m cc 0 1 m2 v4 m4 hcc
                  rw [e4] at h
                  exact ci_stop99 o2 h
                · exact ci_stop99 o2 h
            clear h hd3
            have le : mp_le (mp_crd W w dk n room l5 S) (mp_run W w dk n room (f + 1) l5 S) := by
              rw [es]
              split
              · have q2 : mp_le (mp_crd W w dk n room l5 S) (mp_nx W w dk n room l5 S) := (mp_le.u (by decide)).tr (mp_le.tts _ _ _)
                split
                · split
                  · exact q2.tr (mp_le.u (by decide))
                  · exact q2.tr (mp_le.run _ _ _)
                · exact q2
              · exact mp_le.rf
            refine ci_fin hz (by omega) a2 ⟨fun y => ?_, le⟩ X
            rw [es, if_neg (a3 y)]
/-- perform(outcome, room, told) -/
theorem ci_perf {W : List (Int × Int)} {w : Int} {o : Nat} {z : Int} {dk : Int → Int → Int} {n room : Int} {m : dc_M} (ho : o = 11 ∨ o = 30 ∨ o = 35) (hz : ce_L o z) (hr : 0 ≤ room ∧ room ≤ 40) (D : cg_D dk n m) (hl : 0 ≤ z → 0 ≤ m z.toNat 1) {C : Int} (hC : C + 320 ≤ 1800000000) (N : ch_N W w C m) {v : Int} {m' : dc_M} (h : D_47 o room z m v m') : (∀ (k : Nat) (i : Int), ¬ ch_t o k i → ¬ (k = 16 ∧ 11 ≤ i ∧ i ≤ 13) → m' k i = m k i) ∧ ch_N W w (C + 320) m' ∧ ((z < 0 ∧ v = 1 ∧ co_0 o m' (mp_play W w dk n room)) ∨ (0 ≤ z ∧ v = 1 ∧ co_0 o m' (mp_play W w dk n room) ∧ ci_t z m (mp_play W w dk n room)) ∨ (0 ≤ z ∧ v = 0 ∧ ¬ ci_t z m (mp_play W w dk n room))) := by
  obtain ⟨m1, e1, v2, m2, hc, m3, e3, m4, e4, m5, e5, c, h⟩ := h
  have o1 : (m1 16 11).toNat = o := by rw [e1, dc_up_s, Int.toNat_natCast]
  rw [o1] at hc
  obtain ⟨a1, d1, a2, d2, a3, d3, a4, d4, a5, d5, a6, d6, a7, d7, a8, d8, a9, d9, -, d10⟩ := hc
  have F2 : ∀ (k : Nat) (i : Int), ¬ (o ≤ k ∧ k ≤ o + 4) → m2 k i = m1 k i := fun k i y => by
    rw [d10, d9, dc_up_k (by omega), d8, dc_up_k (by omega), d7, dc_up_k (by omega), d6, dc_up_k (by omega), d5, dc_up_k (by omega), d4, dc_up_k (by omega), d3, dc_up_k (by omega), d2]
    refine (if_neg (fun q => y (by omega))).trans ?_
    rw [d1, dc_up_k (by omega)]
  have p9 : m2 o 9 = -1 := by rw [d10, d9, dc_up_s]
  have p8 : m2 o 8 = -1 := by rw [d10, d9, dc_up_i (by decide), d8, dc_up_s]
  have p7 : m2 o 7 = 0 := by rw [d10, d9, dc_up_i (by decide), d8, dc_up_i (by decide), d7, dc_up_s]
  have p6 : m2 o 6 = 0 := by rw [d10, d9, dc_up_i (by decide), d8, dc_up_i (by decide), d7, dc_up_i (by decide), d6, dc_up_s]
  have p5 : m2 o 5 = 0 := by rw [d10, d9, dc_up_i (by decide), d8, dc_up_i (by decide), d7, dc_up_i (by decide), d6, dc_up_i (by decide), d5, dc_up_s]
  have p4 : m2 o 4 = 0 := by rw [d10, d9, dc_up_i (by decide), d8, dc_up_i (by decide), d7, dc_up_i (by decide), d6, dc_up_i (by decide), d5, dc_up_i (by decide), d4, dc_up_s]
  have p3 : m2 o 3 = 0 := by rw [d10, d9, dc_up_i (by decide), d8, dc_up_i (by decide), d7, dc_up_i (by decide), d6, dc_up_i (by decide), d5, dc_up_i (by decide), d4, dc_up_i (by decide), d3, dc_up_s]
  have pk : ∀ (k : Nat) (i : Int), k ≠ o → m2 k i = a2 k i := fun k i hk => by
    rw [d10, d9, dc_up_k hk, d8, dc_up_k hk, d7, dc_up_k hk, d6, dc_up_k hk, d5, dc_up_k hk, d4, dc_up_k hk, d3, dc_up_k hk]
  have pw : ∀ i, 0 ≤ i → i < 4 → m2 (o + 3) i = 0 := fun i i0 i1 => by
    rw [pk (o + 3) i (by omega), d2]
    exact if_pos ⟨rfl, i0, i1⟩
  have pl : m2 (o + 1) 1 = 0 := by
    rw [pk (o + 1) 1 (by omega), d2]
    refine (if_neg (fun q => by have := q.1; omega)).trans ?_
    rw [d1, dc_up_s]
  clear d1 d2 d3 d4 d5 d6 d7 d8 d9 d10
  have F5 : ∀ (k : Nat) (i : Int), ¬ (o ≤ k ∧ k ≤ o + 4) → ¬ (k = 16 ∧ 11 ≤ i ∧ i ≤ 14) → m5 k i = m k i := fun k i y1 y2 => by
    rw [e5]
    refine (if_neg (by clear h; omega)).trans ?_
    rw [e4]
    refine (if_neg (by clear h; omega)).trans ?_
    rw [e3]
    refine (if_neg (by clear h; omega)).trans ?_
    rw [F2 k i y1, e1]
    exact if_neg (by clear h; omega)
  have G5 : ∀ (k : Nat) (i : Int), k ≠ 16 → m5 k i = m2 k i := fun k i hk => by rw [e5, dc_up_k hk, e4, dc_up_k hk, e3, dc_up_k hk]
  have G : ch_G o z dk n room m5 := by
    refine ⟨D.cg (fun k i hk => F5 k i (by clear h; omega) (by clear h; omega)), ?_, ?_, ?_, ho, hz, hr.2⟩
    · rw [e5, dc_up_i (by decide), e4, dc_up_i (by decide), e3, dc_up_i (by decide), F2 16 11 (by clear h; omega)]; exact o1
    · rw [e5, dc_up_i (by decide), e4, dc_up_i (by decide), e3, dc_up_s]
    · rw [e5, dc_up_i (by decide), e4, dc_up_s]
  have O : co_0 o m5 mp_S0 := ⟨(G5 _ _ (by clear h; omega)).trans pl, (G5 _ _ (by clear h; omega)).trans p3, (G5 _ _ (by clear h; omega)).trans p5, (G5 _ _ (by clear h; omega)).trans p6, (G5 _ _ (by clear h; omega)).trans p7, (G5 _ _ (by clear h; omega)).trans p8, (G5 _ _ (by clear h; omega)).trans p9, fun i i0 i1 => by exfalso; have i1 : i < 12 * 0 := i1; clear h; omega, fun i i0 i1 => (G5 _ _ (by clear h; omega)).trans (pw i i0 i1), fun i i0 i1 => by exfalso; have i1 : i < 20 * 0 := i1; clear h; omega, (G5 _ _ (by clear h; omega)).trans p4⟩
  have K0 : mp_K2 room (16 * 0) mp_S0 := by
    refine ⟨⟨⟨Int.le_refl 0, by decide⟩, ⟨Int.le_refl 0, hr.1⟩, fun w w0 w1 => ?_, ⟨Int.le_refl 0, by decide⟩, fun i i0 i1 => ?_, fun i i0 i1 => ?_⟩, ⟨Int.le_refl 0, by decide⟩, ⟨Int.le_refl 0, by decide⟩⟩
    · show (-999999 : Int) ≤ 0 ∧ (0 : Int) ≤ 999999
      decide
    · exfalso
      have i1 : i < 12 * 0 := i1
      clear h
      omega
    · exfalso
      have i1 : i < 20 * 0 := i1
      clear h
      omega
  obtain ⟨n1, n2, n3, n4⟩ := N
  have tm : 0 ≤ z → m5 z.toNat 1 = m z.toNat 1 ∧ ∀ i, m5 (z.toNat + 1) i = m (z.toNat + 1) i := fun z0 => by
    rcases hz with y | ⟨y1, y⟩
    · exfalso; clear h; omega
    · exact ⟨F5 _ _ (by clear h; omega) (by clear h; omega), fun i => F5 _ _ (by clear h; omega) (by clear h; omega)⟩
  have cc : ch_C W w o z room (16 * 0) (C + 8 * 0) m5 m5 mp_S0 := ⟨fun _ _ _ => rfl, ⟨n1.cg (fun k i hk => F5 k i (by clear h; omega) (by clear h; omega)), n2.cg (fun k i hk => F5 k i (by clear h; omega) (by clear h; omega)), by rw [F5 16 7 (by clear h; omega) (by clear h; omega)]; clear h; omega, fun i i0 i1 => by rw [F5 16 7 (by clear h; omega) (by clear h; omega), F5 26 i (by clear h; omega) (by clear h; omega)]; exact n4 i i0 i1⟩, O, K0, rfl, by rw [e5, dc_up_s], fun z0 => ⟨by show (0 : Int) ≤ _; rw [(tm z0).1]; exact hl z0, fun i i0 i1 => by exfalso; have i1 : i < 12 * 0 := i1; clear h; omega⟩⟩
  obtain ⟨r1, r2, r3⟩ := ci_33 G hC n.toNat c 1 0 m5 mp_S0 h (by decide) (by have := D.2.1; clear h; omega) (by decide) cc
  clear h
  have tt : ∀ F, 0 ≤ z → (ci_t z m5 F ↔ ci_t z m F) := fun F z0 => by
    unfold ci_t
    rw [(tm z0).1, show m5 (z.toNat + 1) = m (z.toNat + 1) from funext (tm z0).2]
  refine ⟨fun k i y1 y2 => ?_, r2, ?_⟩
  · rw [r1 k i y1]
    exact F5 k i (fun q => y1 (by unfold ch_t; omega)) (fun q => by
      by_cases q2 : i = 14
      · exact y1 (by unfold ch_t; omega)
      · exact y2 (by omega))
  · have ep : mp_play W w dk n room = mp_run W w dk n room n.toNat 0 mp_S0 := rfl
    rw [ep]
    rcases r3 with q | ⟨q1, q2, q3, q4⟩ | ⟨q1, q2, q3⟩
    · exact Or.inl q
    · exact Or.inr (Or.inl ⟨q1, q2, q3, (tt _ q1).mp q4⟩)
    · exact Or.inr (Or.inr ⟨q1, q2, fun y => q3 ((tt _ q1).mpr y)⟩)
