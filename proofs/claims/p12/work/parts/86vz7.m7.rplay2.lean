/-! THE REFERENCE'S play(), whole -/
theorem mp_or_3 {T : Int → Int} {k n : Int} (h : k + 1 = n ∨ 0 ≤ T 180) : mp_or T k n = 3 := if_pos h
theorem mp_or_n {T : Int → Int} {k n : Int} (h : k + 1 ≠ n) (h2 : T 180 < 0) : mp_or T k n = if 0 ≤ T 158 then 3 else if 0 ≤ T 157 then 2 else if 0 ≤ T 156 then 1 else 0 := if_neg (by omega)
/-- one CARD -/
theorem r7_card {W : List (Int × Int)} {w : Int} {dk : Int → Int → Int} {n room : Int} {m0 : dc_M} (F : r6_F W w dk n room m0) (h40 : room ≤ 40) {x0 l3 : Int} (l30 : 0 ≤ l3) (l3n : l3 < n) {v : Int} {m' S : dc_M} {B : Int} (hB : B + 16 ≤ 1000) {c : Nat} {m : dc_M} (h : LM_217 x0 c 117 0 l3 0 0 m v m') (C : r6_C W w dk n room B m0 m S) : (mp_crd W w dk n room l3 S 0 0 ≠ 0 ∧ r6_E room m0 m' (mp_crd W w dk n room l3 S)) ∨ (mp_crd W w dk n room l3 S 0 0 = 0 ∧ ((mp_nx W w dk n room l3 S 0 0 ≠ 0 ∧ r6_E room m0 m' (mp_nx W w dk n room l3 S)) ∨ (mp_nx W w dk n room l3 S 0 0 = 0 ∧ ∃ l2 c m2, (l2 = if 0 ≤ mp_T W w dk n l3 180 then 1 else 0) ∧ LM_217 x0 c 102 l2 (l3 + 1) 0 0 m2 v m' ∧ r6_C W w dk n room (B + 16) m0 m2 (mp_nx W w dk n room l3 S)))) := by
  have hn := F.2.2.2.1.2.1
  obtain ⟨c, m1, h, C, g1⟩ := r6_117 h40 96 c 0 m h rfl (by decide) C (fun x y0 y1 => by exfalso; clear h; omega)
  obtain ⟨c, m1, h, C, g1, g2⟩ := r6_141 F h40 l30 l3n 20 c 0 m1 h rfl (by decide) C (fun x y0 y1 => by exfalso; clear h; omega) (fun x y0 y1 => g1 x (by clear h; omega) y1)
  replace h := lm_217_141.mp h
  rcases h with ⟨-, -, m2, e2, v3, m3, hd, -, m4, e4, -, h⟩ | ⟨d, -⟩
  · obtain ⟨C1, C2, C3, C4⟩ := C
    have f2 : ∀ (k : Nat) (i : Int), k ≠ 124 → m2 k i = m1 k i := fun k i hk => by rw [e2, dc_up_k hk]
    have C' : r6_C W w dk n room B m0 m2 S := ⟨fun k i z => (f2 k i (fun y => z (by unfold mr_u; omega))).trans (C1 k i z), C2.cg C3.1.1.2 (Int.le_trans C3.1.2.1.2 h40) (fun k i z => f2 k i (by unfold mr_k at z; omega)), C3, C4⟩
    have hall : ∀ x, 0 ≤ x → x < 96 → m2 124 x = mp_gc dk n l3 x := fun x y0 y1 => by
      rw [e2]
      by_cases z : x = 60
      · rw [z, dc_up_s]; rfl
      · rw [dc_up_i z]
        by_cases y : x < 60
        · exact g1 x y0 y
        · rw [g2 x (by clear h hd; omega) y1]
          unfold mp_gc
          rw [if_neg (by clear h hd; omega), if_neg (by clear h hd; omega), if_neg y, if_neg z]
    have hu : ∀ x, 61 ≤ x → x ≤ 64 → mp_gc dk n l3 x = -1 := fun x y0 y1 => by
      unfold mp_gc
      rw [if_neg (by clear h hd; omega), if_neg (by clear h hd; omega), if_neg (by clear h hd; omega), if_neg (by clear h hd; omega)]
    have hB2 : B ≤ 1000 := by clear h hd; omega
    obtain ⟨q1, q2, q3, q4, q5, hT⟩ := r6_cyc F h40 C' hB2 hd hall hu (fun x => mp_gc_r dk n l3 x) (g2 := mp_g1 W w dk n l3) (by rw [if_neg (by decide)]; rfl) e4
    clear hd
    have ec : mp_crd W w dk n room l3 S = mp_cyc (mp_E1 W w (mp_gc dk n l3)) (mp_g1 W w dk n l3) room S := rfl
    have eT : mp_T W w dk n l3 = mp_tk (mp_E1 W w (mp_gc dk n l3)) (mp_g1 W w dk n l3) := rfl
    have en : mp_nx W w dk n room l3 S = mp_tts W w room (mp_or (mp_T W w dk n l3) l3 n).toNat 1 (dc_up (mp_crd W w dk n room l3 S) 0 3 (mp_crd W w dk n room l3 S 0 3 + 1)) := rfl
    rw [← ec] at q1 q3 q4
    rw [← eT] at hT
    have C3c := C3.c3 (E := mp_E1 W w (mp_gc dk n l3)) (g := mp_g1 W w dk n l3) (by rw [← eT]; exact hT)
    rw [← ec] at C3c
    rcases h with ⟨c2, -, -, m5, e5, h⟩ | ⟨c2, ev, em⟩
    · rw [q1] at c2
      refine Or.inr ⟨c2, ?_⟩
      have g3 : m4 136 0 = mp_crd W w dk n room l3 S 0 3 := q3.2.2.1
      have k3 := q4.2.1
      rw [g3, dw (by clear h; omega) (by clear h; omega)] at e5
      have C5 : r6_C W w dk n room (B + 4) m0 m5 (dc_up (mp_crd W w dk n room l3 S) 0 3 (mp_crd W w dk n room l3 S 0 3 + 1)) := by
        refine ⟨fun k i z => ?_, q3.u3 e5, C3c, by rw [dc_up_i (by decide)]; exact c2⟩
        rw [e5]
        exact (if_neg (fun y => z (by unfold mr_u mr_k; omega))).trans (q2 k i z)
      have S5 : r3_S (mp_E1 W w (mp_gc dk n l3)) (mp_g1 W w dk n l3) m5 := q5.fr (fun k i hk => by rw [e5, dc_up_k (by omega)])
      have n41 : m5 114 41 = n := (F.cg C5.1).2.2.2.1.1
      have wn : dc_w (m5 114 41 - 1) = n - 1 := by rw [n41]; exact dw (by clear h; omega) (by clear h; omega)
      have go : ∀ (c : Nat) (l2 o : Int), (l2 = if 0 ≤ mp_T W w dk n l3 180 then 1 else 0) → o = mp_or (mp_T W w dk n l3) l3 n → LM_217 x0 c 341 l2 l3 o 1 m5 v m' → (mp_nx W w dk n room l3 S 0 0 ≠ 0 ∧ r6_E room m0 m' (mp_nx W w dk n room l3 S)) ∨ (mp_nx W w dk n room l3 S 0 0 = 0 ∧ ∃ l2 c m2, (l2 = if 0 ≤ mp_T W w dk n l3 180 then 1 else 0) ∧ LM_217 x0 c 102 l2 (l3 + 1) 0 0 m2 v m' ∧ r6_C W w dk n room (B + 16) m0 m2 (mp_nx W w dk n room l3 S)) := by
        intro c l2 o e1 e2 h
        have or3 : 0 ≤ o ∧ o ≤ 3 := by
          rw [e2]
          unfold mp_or
          clear h
          split
          · omega
          · split
            · omega
            · split
              · omega
              · split <;> omega
        rw [en, ← e2]
        rcases r6_341 F h40 ⟨l30, by clear h; omega⟩ or3.2 o.toNat c 1 m5 _ (B + 4) h (by clear h; omega) (by decide) (by clear h; omega) C5 with ⟨a1, c9, m9, a2, a3⟩ | ⟨a1, a2⟩
        · exact Or.inr ⟨a1, l2, c9, m9, e1, a2, a3.1, a3.2.1, a3.2.2.1.mo (by clear h a2; omega), a3.2.2.2⟩
        · exact Or.inl ⟨a1, a2⟩
      obtain ⟨v6, m6, hd6, h⟩ := h
      obtain ⟨e6, t6⟩ := r2_have S5.1 hd6
      clear hd6
      rw [← eT] at t6
      rw [e6] at h
      rcases h with ⟨d6, v7, m7, hd7, h⟩ | ⟨d6, v7, m7, hd7, h⟩
      · have z180 : mp_T W w dk n l3 180 < 0 := by rw [← t6]; exact d6
        have i180 : (0 : Int) = if 0 ≤ mp_T W w dk n l3 180 then 1 else 0 := by rw [if_neg (by clear h hd7; omega)]
        obtain ⟨e7, t7⟩ := r2_have S5.1 hd7
        clear hd7
        rw [← eT] at t7
        rw [e7] at h
        have last : ∀ {o : Int}, ¬ (l3 ≠ n - 1) → (3 : Int) = mp_or (mp_T W w dk n l3) l3 n := fun {o} z => (mp_or_3 (Or.inl (by omega))).symm
        rcases h with ⟨d7, v8, m8, hd8, h⟩ | ⟨d7, h⟩
        · obtain ⟨e8, t8⟩ := r2_have S5.1 hd8
          clear hd8
          rw [← eT] at t8
          rw [e8] at h
          rcases h with ⟨d8, v9, m9, hd9, h⟩ | ⟨d8, h⟩
          · obtain ⟨e9, t9⟩ := r2_have S5.1 hd9
            clear hd9
            rw [← eT] at t9
            rw [e9] at h
            rcases h with ⟨d9, h⟩ | ⟨d9, h⟩
            · rw [wn] at h
              rcases h with ⟨d10, h⟩ | ⟨d10, h⟩
              · exact go c _ _ i180 (by rw [mp_or_n (by clear h; omega) z180, if_neg (by clear h; omega), if_neg (by clear h; omega), if_neg (by clear h; omega)]) h
              · exact go c _ _ i180 (last (o := 0) d10) h
            · rw [wn] at h
              rcases h with ⟨d10, h⟩ | ⟨d10, h⟩
              · exact go c _ _ i180 (by rw [mp_or_n (by clear h; omega) z180, if_neg (by clear h; omega), if_neg (by clear h; omega), if_pos (by clear h; omega)]) h
              · exact go c _ _ i180 (last (o := 0) d10) h
          · rw [wn] at h
            rcases h with ⟨d10, h⟩ | ⟨d10, h⟩
            · exact go c _ _ i180 (by rw [mp_or_n (by clear h; omega) z180, if_neg (by clear h; omega), if_pos (by clear h; omega)]) h
            · exact go c _ _ i180 (last (o := 0) d10) h
        · rw [wn] at h
          rcases h with ⟨d10, h⟩ | ⟨d10, h⟩
          · exact go c _ _ i180 (by rw [mp_or_n (by clear h; omega) z180, if_pos (by clear h; omega)]) h
          · exact go c _ _ i180 (last (o := 0) d10) h
      · have z180 : 0 ≤ mp_T W w dk n l3 180 := by rw [← t6]; clear h hd7; omega
        have i180 : (1 : Int) = if 0 ≤ mp_T W w dk n l3 180 then 1 else 0 := by rw [if_pos z180]
        have o3 : (3 : Int) = mp_or (mp_T W w dk n l3) l3 n := (mp_or_3 (Or.inr z180)).symm
        obtain ⟨e7, t7⟩ := r2_have S5.1 hd7
        clear hd7
        rw [e7] at h
        rcases h with ⟨d7, v8, m8, hd8, h⟩ | ⟨d7, h⟩
        · obtain ⟨e8, t8⟩ := r2_have S5.1 hd8
          clear hd8
          rw [e8] at h
          rcases h with ⟨d8, v9, m9, hd9, h⟩ | ⟨d8, h⟩
          · obtain ⟨e9, t9⟩ := r2_have S5.1 hd9
            clear hd9
            rw [e9] at h
            rcases h with ⟨d9, h⟩ | ⟨d9, h⟩
            · exact go c _ _ i180 o3 h
            · exact go c _ _ i180 o3 h
          · exact go c _ _ i180 o3 h
        · exact go c _ _ i180 o3 h
    · rw [q1] at c2
      rw [em]
      exact Or.inl ⟨c2, q2, q3, q4.mo (by omega), q1⟩
  · exact absurd (by decide) d
theorem mr_0.eu {m S : dc_M} (h : mr_0 m S) {e : Int} : mr_0 (dc_up m 130 0 e) S := by
  obtain ⟨O1, O2, O3, O4, O5, O6, O7, O8, O9, O10⟩ := h
  refine ⟨by rw [dc_up_k (by decide)]; exact O1, by rw [dc_up_k (by decide)]; exact O2, by rw [dc_up_k (by decide)]; exact O3, by rw [dc_up_k (by decide)]; exact O4, by rw [dc_up_k (by decide)]; exact O5, by rw [dc_up_k (by decide)]; exact O6, by rw [dc_up_k (by decide)]; exact O7, fun i i0 i1 => by rw [dc_up_k (by decide)]; exact O8 i i0 i1, fun i i0 i1 => by rw [dc_up_k (by decide)]; exact O9 i i0 i1, fun i i0 i1 => by rw [dc_up_k (by decide)]; exact O10 i i0 i1⟩
theorem mp_K2.e {room B : Int} {S : dc_M} (K : mp_K2 room B S) (e : Int) : mp_K2 room B (dc_up S 0 0 e) := ⟨K.1.e e, by rw [dc_up_i (by decide)]; exact K.2.1, by rw [dc_up_i (by decide)]; exact K.2.2⟩
theorem r7_102 {W : List (Int × Int)} {w : Int} {dk : Int → Int → Int} {n room : Int} {m0 : dc_M} (F : r6_F W w dk n room m0) (h40 : room ≤ 40) {x0 : Int} {v : Int} {m' : dc_M} : ∀ (f c : Nat) (l3 : Int) (m S : dc_M), LM_217 x0 c 102 0 l3 0 0 m v m' → n - l3 = (f : Int) → 0 ≤ l3 → r6_C W w dk n room (16 * l3) m0 m S → r6_E room m0 m' (mp_run W w dk n room f l3 S) := by
  have hn := F.2.2.2.1.2.1
  have stop : ∀ {m m' S : dc_M} {e B : Int}, r6_C W w dk n room B m0 m S → B ≤ 1000 → m' = dc_up m 130 0 e → r6_E room m0 m' (dc_up S 0 0 e) := by
    intro m m' S e B C hB em
    obtain ⟨C1, C2, C3, C4⟩ := C
    rw [em]
    exact ⟨fun k i z => (if_neg (fun y => z (by unfold mr_u; omega))).trans (C1 k i z), (C2.e e).eu, (C3.e e).mo hB, by rw [dc_up_s, dc_up_s]⟩
  intro f
  induction f with
  | zero =>
    intro c l3 m S h hf l0 C
    have e41 := (F.cg C.1).2.2.2.1.1
    cases c with
    | zero => exact h.elim
    | succ c =>
      replace h := lm_217_102.mp h
      rw [e41] at h
      rcases h with ⟨c1, h⟩ | ⟨c1, -⟩
      · rcases h with ⟨-, -, m1, e1, ev, em⟩ | ⟨d, -⟩
        · rw [em]
          have q := stop C (by clear c1; omega) e1
          have e0 : dc_up S 0 0 0 = S := by
            funext k i
            by_cases z : k = 0 ∧ i = 0
            · rw [z.1, z.2, dc_up_s, C.2.2.2]
            · exact if_neg z
          rw [e0] at q
          exact q
        · exact absurd rfl d
      · exfalso; omega
  | succ f ih =>
    intro c l3 m S h hf l0 C
    have e41 := (F.cg C.1).2.2.2.1.1
    cases c with
    | zero => exact h.elim
    | succ c =>
      replace h := lm_217_102.mp h
      rw [e41] at h
      rcases h with ⟨c1, -⟩ | ⟨c1, h⟩
      · exfalso; omega
      · rcases h with ⟨d, -⟩ | ⟨-, h⟩
        · exact absurd rfl d
        · have es : mp_run W w dk n room (f + 1) l3 S = if mp_crd W w dk n room l3 S 0 0 = 0 then (if mp_nx W w dk n room l3 S 0 0 = 0 then (if 0 ≤ mp_T W w dk n l3 180 then dc_up (mp_nx W w dk n room l3 S) 0 0 1 else mp_run W w dk n room f (l3 + 1) (mp_nx W w dk n room l3 S)) else mp_nx W w dk n room l3 S) else mp_crd W w dk n room l3 S := rfl
          rw [es]
          rcases r7_card F h40 l0 (by clear h; omega) (by clear h; omega) h C with ⟨a1, a2⟩ | ⟨a1, ⟨b1, b2⟩ | ⟨b1, l2, c9, m9, b2, b3, b4⟩⟩
          · rw [if_neg a1]; exact a2
          · rw [if_pos a1, if_neg b1]; exact b2
          · rw [if_pos a1, if_pos b1]
            have ew : r6_C W w dk n room (16 * (l3 + 1)) m0 m9 (mp_nx W w dk n room l3 S) := ⟨b4.1, b4.2.1, b4.2.2.1.mo (by clear h b3; omega), b4.2.2.2⟩
            by_cases z : 0 ≤ mp_T W w dk n l3 180
            · rw [if_pos z] at b2 ⊢
              rw [b2] at b3
              cases c9 with
              | zero => exact b3.elim
              | succ c9 =>
                replace b3 := lm_217_102.mp b3
                rcases b3 with ⟨-, h3⟩ | ⟨-, h3⟩
                · rcases h3 with ⟨d, -⟩ | ⟨-, -, m5, e5, ev, em⟩
                  · exact absurd d (by decide)
                  · rw [em]; exact stop ew (by clear h; omega) e5
                · rcases h3 with ⟨-, h3⟩ | ⟨d, -⟩
                  · rcases h3 with ⟨d, -⟩ | ⟨-, -, m5, e5, ev, em⟩
                    · exact absurd d (by decide)
                    · rw [em]; exact stop ew (by clear h; omega) e5
                  · exact absurd (by decide) d
            · rw [if_neg z] at b2 ⊢
              rw [b2] at b3
              exact ih c9 (l3 + 1) m9 _ b3 (by clear h b3; omega) (by clear h b3; omega) ew
theorem mp_S0_0 : mp_S0 0 0 = 0 := rfl
theorem r7_63 {x0 : Int} {v : Int} {m' : dc_M} {m0 : dc_M} : ∀ (f c : Nat) (l2 : Int) (m : dc_M), LM_217 x0 c 63 l2 0 0 0 m v m' → 4 - l2 = (f : Int) → 0 ≤ l2 → (∀ (k : Nat) (i : Int), ¬ (k = 134 ∧ 0 ≤ i ∧ i < 4) → m k i = m0 k i) → (∀ i, 0 ≤ i → i < l2 → m 134 i = 0) → ∃ c m2, LM_217 x0 (c + 1) 63 4 0 0 0 m2 v m' ∧ (∀ (k : Nat) (i : Int), ¬ (k = 134 ∧ 0 ≤ i ∧ i < 4) → m2 k i = m0 k i) ∧ (∀ i, 0 ≤ i → i < 4 → m2 134 i = 0) := by
  intro f
  induction f with
  | zero =>
    intro c l2 m h hf l0 f1 f2
    have e : l2 = 4 := by omega
    rw [e] at h f2
    cases c with
    | zero => exact h.elim
    | succ c => exact ⟨c, m, h, f1, f2⟩
  | succ f ih =>
    intro c l2 m h hf l0 f1 f2
    cases c with
    | zero => exact h.elim
    | succ c =>
      have w1 : dc_w (l2 + 1) = l2 + 1 := dw (by omega) (by omega)
      replace h := lm_217_63.mp h
      rw [w1] at h
      rcases h with ⟨c1, -⟩ | ⟨c1, -, m2, e2, h⟩
      · exfalso; omega
      · refine ih c (l2 + 1) m2 h (by clear h; omega) (by clear h; omega) (fun k i z => ?_) (fun i i0 i1 => ?_)
        · rw [e2]
          exact (if_neg (fun y => z (by omega))).trans (f1 k i z)
        · rw [e2]
          by_cases z : i = l2
          · rw [z, dc_up_s]
          · rw [dc_up_i z]; exact f2 i i0 (by clear h; omega)
/-- play(room) -/
theorem r7_play {W : List (Int × Int)} {w : Int} {dk : Int → Int → Int} {n room : Int} {m : dc_M} {v : Int} {m' : dc_M} (h : D_217 room m v m') (hV : rz_V m 0 W) (hw : m 114 42 = w) (hD : r5_D dk n m) (hr : 0 ≤ room ∧ room ≤ 40) : mr_0 m' (mp_play W w dk n room) ∧ m' 130 0 = mp_play W w dk n room 0 0 ∧ mp_K2 room 1000 (mp_play W w dk n room) ∧ ∀ (k : Nat) (i : Int), ¬ mr_t k i → m' k i = m k i := by
  obtain ⟨m1, e1, -, m2, e2, -, m3, e3, -, m4, e4, -, m5, e5, -, m6, e6, -, m7, e7, -, m8, e8, -, m9, e9, c, h⟩ := h
  have f9 : ∀ (k : Nat) (i : Int), ¬ mr_t k i → m9 k i = m k i := fun k i z => by
    unfold mr_t mr_k at z
    rw [e9, show dc_up m8 140 0 (-1) k i = m8 k i from if_neg (by omega), e8, show dc_up m7 139 0 (-1) k i = m7 k i from if_neg (by omega), e7, show dc_up m6 138 0 0 k i = m6 k i from if_neg (by omega), e6, show dc_up m5 137 0 0 k i = m5 k i from if_neg (by omega), e5, show dc_up m4 136 0 0 k i = m4 k i from if_neg (by omega), e4, show dc_up m3 132 0 0 k i = m3 k i from if_neg (by omega), e3, show dc_up m2 131 0 0 k i = m2 k i from if_neg (by omega), e2, show dc_up m1 130 0 0 k i = m1 k i from if_neg (by omega), e1]
    exact if_neg (by omega)
  have a140 : m9 140 0 = -1 := by rw [e9, dc_up_s]
  have a139 : m9 139 0 = -1 := by rw [e9, dc_up_k (by decide), e8, dc_up_s]
  have a138 : m9 138 0 = 0 := by rw [e9, dc_up_k (by decide), e8, dc_up_k (by decide), e7, dc_up_s]
  have a137 : m9 137 0 = 0 := by rw [e9, dc_up_k (by decide), e8, dc_up_k (by decide), e7, dc_up_k (by decide), e6, dc_up_s]
  have a136 : m9 136 0 = 0 := by rw [e9, dc_up_k (by decide), e8, dc_up_k (by decide), e7, dc_up_k (by decide), e6, dc_up_k (by decide), e5, dc_up_s]
  have a132 : m9 132 0 = 0 := by rw [e9, dc_up_k (by decide), e8, dc_up_k (by decide), e7, dc_up_k (by decide), e6, dc_up_k (by decide), e5, dc_up_k (by decide), e4, dc_up_s]
  have a131 : m9 131 0 = 0 := by rw [e9, dc_up_k (by decide), e8, dc_up_k (by decide), e7, dc_up_k (by decide), e6, dc_up_k (by decide), e5, dc_up_k (by decide), e4, dc_up_k (by decide), e3, dc_up_s]
  have a130 : m9 130 0 = 0 := by rw [e9, dc_up_k (by decide), e8, dc_up_k (by decide), e7, dc_up_k (by decide), e6, dc_up_k (by decide), e5, dc_up_k (by decide), e4, dc_up_k (by decide), e3, dc_up_k (by decide), e2, dc_up_s]
  have a43 : m9 114 43 = room := by rw [e9, dc_up_k (by decide), e8, dc_up_k (by decide), e7, dc_up_k (by decide), e6, dc_up_k (by decide), e5, dc_up_k (by decide), e4, dc_up_k (by decide), e3, dc_up_k (by decide), e2, dc_up_k (by decide), e1, dc_up_s]
  clear e1 e2 e3 e4 e5 e6 e7 e8 e9
  obtain ⟨c, m10, h, f10, z10⟩ := r7_63 4 c 0 m9 h rfl (by decide) (fun _ _ _ => rfl) (fun i i0 i1 => by exfalso; clear h; omega)
  have g10 : ∀ (k : Nat) (i : Int), ¬ mr_t k i → m10 k i = m k i := fun k i z => (f10 k i (fun y => z (by unfold mr_t mr_k; omega))).trans (f9 k i z)
  have O10 : mr_0 m10 mp_S0 := ⟨(f10 _ _ (by omega)).trans a131, (f10 _ _ (by omega)).trans a132, (f10 _ _ (by omega)).trans a136, (f10 _ _ (by omega)).trans a137, (f10 _ _ (by omega)).trans a138, (f10 _ _ (by omega)).trans a139, (f10 _ _ (by omega)).trans a140, fun i i0 i1 => by exfalso; clear h; have i1 : i < 12 * 0 := i1; omega, fun i i0 i1 => z10 i i0 i1, fun i i0 i1 => by exfalso; clear h; have i1 : i < 20 * 0 := i1; omega⟩
  have K0 : ∀ {B : Int}, 0 ≤ B → mp_K2 room B mp_S0 := fun {B} hB => by
    refine ⟨⟨⟨Int.le_refl 0, by decide⟩, ⟨Int.le_refl 0, hr.1⟩, fun w w0 w1 => ?_, ⟨Int.le_refl 0, hB⟩, fun i i0 i1 => ?_, fun i i0 i1 => ?_⟩, ⟨Int.le_refl 0, hB⟩, ⟨Int.le_refl 0, hB⟩⟩
    · show (-999999 : Int) ≤ 0 ∧ (0 : Int) ≤ 999999
      decide
    · exfalso
      have i1 : i < 12 * 0 := i1
      omega
    · exfalso
      have i1 : i < 20 * 0 := i1
      omega
  have n41 : m10 114 41 = n := (g10 114 41 (by unfold mr_t mr_k; omega)).trans hD.1
  have hn := hD.2.1
  replace h := lm_217_63.mp h
  rw [n41] at h
  rcases h with ⟨-, h⟩ | ⟨d, -⟩
  · rcases h with ⟨c2, v11, m11, hd, h⟩ | ⟨c2, ev, em⟩
    · have V10 : rz_V m10 0 W := ⟨(g10 _ _ (by unfold mr_t mr_k; omega)).trans hV.1, hV.2.1, fun i hi => by rw [g10 118 _ (by unfold mr_t mr_k; omega), g10 119 _ (by unfold mr_t mr_k; omega)]; exact hV.2.2 i hi⟩
      have w10 : m10 114 42 = w := (g10 114 42 (by unfold mr_t mr_k; omega)).trans hw
      have q := r2_nets (k := 125) (Or.inl rfl) V10 w10 (pk := fun _ => False) (fun r r0 r1 => ⟨fun y => y.elim, fun y => y.1 rfl⟩) hd
      clear hd
      have g11 : ∀ (k : Nat) (i : Int), k ≠ 125 → m11 k i = m10 k i := fun k i hk => q.1 k i hk
      have F : r6_F W w dk n room m11 := by
        refine ⟨⟨(g11 _ _ (by decide)).trans V10.1, V10.2.1, fun i hi => by rw [g11 118 _ (by decide), g11 119 _ (by decide)]; exact V10.2.2 i hi⟩, (g11 _ _ (by decide)).trans w10, ⟨fun a a0 a1 => ⟨(q.2.1 a a0 a1).1, (q.2.1 a a0 a1).2.1⟩, fun a b a0 a1 b0 b1 => q.iff a0 a1 b0 b1⟩, hD.cg ?_ (fun i => ?_), (g11 _ _ (by decide)).trans ((f10 _ _ (by omega)).trans a43)⟩
        · exact (g11 _ _ (by decide)).trans (g10 _ _ (by unfold mr_t mr_k; omega))
        · exact (g11 _ _ (by decide)).trans (g10 _ _ (by unfold mr_t mr_k; omega))
      have C : r6_C W w dk n room (16 * 0) m11 m11 mp_S0 := ⟨fun _ _ _ => rfl, O10.cg (by decide) (by decide) (fun k i z => g11 k i (by unfold mr_k at z; omega)), K0 (by decide), rfl⟩
      obtain ⟨R1, R2, R3, R4⟩ := r7_102 F hr.2 n.toNat c 0 m11 mp_S0 h (by clear h; omega) (by decide) C
      clear h
      refine ⟨R2, R4, R3, fun k i z => ?_⟩
      rw [R1 k i (fun y => z ?_), g11 k i (fun y => z (by unfold mr_t; omega)), g10 k i z]
      unfold mr_u at y
      unfold mr_t
      rcases y with y | y | y | y
      · exact Or.inr (Or.inl (by omega))
      · exact Or.inr (Or.inl (by omega))
      · exact Or.inr (Or.inr (Or.inl y))
      · exact Or.inr (Or.inr (Or.inr y))
    · have e0 : n = 0 := Classical.not_not.mp c2
      have ep : mp_play W w dk n room = mp_S0 := by
        unfold mp_play
        rw [e0]
        rfl
      rw [ep, em]
      exact ⟨O10, (f10 _ _ (by omega)).trans a130, K0 (by decide), g10⟩
  · exact absurd (by decide) d
