/-! THE REFERENCE'S play() -/
def mr_t (k : Nat) (i : Int) : Prop := (k = 114 ∧ i = 43) ∨ (124 ≤ k ∧ k ≤ 129) ∨ (k = 130 ∧ i = 0) ∨ mr_k k i
def mr_u (k : Nat) (i : Int) : Prop := k = 124 ∨ (126 ≤ k ∧ k ≤ 129) ∨ (k = 130 ∧ i = 0) ∨ mr_k k i
def mp_K2 (room B : Int) (S : dc_M) : Prop := mp_K room B S ∧ (0 ≤ S 0 3 ∧ S 0 3 ≤ B) ∧ (0 ≤ S 0 4 ∧ S 0 4 ≤ B)
theorem mp_act_o {T : Int → Int} {room : Int} {S : dc_M} {i : Int} (hi : i = 3 ∨ i = 4) : mp_act T room S 0 i = S 0 i := by
  have a : mp_a1 T S 0 i = S 0 i := by
    unfold mp_a1
    split
    · exact mp_ln_o (by omega) (by omega)
    · rfl
  have b : mp_wh T (mp_a1 T S) 0 i = S 0 i := (mp_wh_o (by omega) (by omega)).trans a
  unfold mp_act
  split
  · exact dc_up_i (by omega)
  · unfold mp_a2
    split
    · split
      · rw [dc_up_i (by omega)]; exact b
      · rw [mp_pn_o (by omega) (by omega)]; exact b
    · exact b
theorem mp_cyc_o {E : Int → Int → Prop} {g : Int → Int} {room : Int} {S : dc_M} {i : Int} (hi : i = 3 ∨ i = 4) : mp_cyc E g room S 0 i = S 0 i := by
  cases e : mp_jm E g with
  | none =>
    have q : mp_cyc E g room S = mp_act (mp_tk E g) room S := by
      unfold mp_cyc
      rw [e]
    rw [q]
    exact mp_act_o hi
  | some p =>
    obtain ⟨a, b⟩ := p
    rw [mp_cyc_j e, dc_up_i (by omega), dc_up_i (by omega), dc_up_i (by omega)]
theorem mp_K.u {room B : Int} {S : dc_M} (K : mp_K room B S) {i v : Int} (hi : i = 3 ∨ i = 4) : mp_K room B (dc_up S 0 i v) := by
  have a1 : dc_up S 0 i v 0 1 = S 0 1 := dc_up_i (by omega)
  have a2 : dc_up S 0 i v 0 2 = S 0 2 := dc_up_i (by omega)
  have a5 : dc_up S 0 i v 0 5 = S 0 5 := dc_up_i (by omega)
  obtain ⟨k1, k2, k3, k4, k5, k6⟩ := K
  unfold mp_K
  rw [a1, a2, a5]
  exact ⟨k1, k2, fun w w0 w1 => by rw [dc_up_k (by decide)]; exact k3 w w0 w1, k4, fun j j0 j1 => by rw [dc_up_k (by decide)]; exact k5 j j0 j1, fun j j0 j1 => by rw [dc_up_k (by decide)]; exact k6 j j0 j1⟩
theorem mp_K2.cyc {room B : Int} {S : dc_M} (K : mp_K2 room B S) {E : Int → Int → Prop} {g : Int → Int} (hT : ∀ t, -1 ≤ mp_tk E g t ∧ mp_tk E g t ≤ 15) : mp_K2 room (B + 4) (mp_cyc E g room S) := by
  obtain ⟨k, k3, k4⟩ := K
  refine ⟨k.cyc hT, ?_, ?_⟩
  · rw [mp_cyc_o (Or.inl rfl)]; omega
  · rw [mp_cyc_o (Or.inr rfl)]; omega
theorem mp_K2.c3 {room B : Int} {S : dc_M} (K : mp_K2 room B S) {E : Int → Int → Prop} {g : Int → Int} (hT : ∀ t, -1 ≤ mp_tk E g t ∧ mp_tk E g t ≤ 15) : mp_K2 room (B + 4) (dc_up (mp_cyc E g room S) 0 3 (mp_cyc E g room S 0 3 + 1)) := by
  obtain ⟨k, k3, k4⟩ := K
  refine ⟨(k.cyc hT).u (Or.inl rfl), ?_, ?_⟩
  · rw [dc_up_s, mp_cyc_o (Or.inl rfl)]; omega
  · rw [dc_up_i (by decide), mp_cyc_o (Or.inr rfl)]; omega
theorem mp_K2.c4 {room B : Int} {S : dc_M} (K : mp_K2 room B S) {E : Int → Int → Prop} {g : Int → Int} (hT : ∀ t, -1 ≤ mp_tk E g t ∧ mp_tk E g t ≤ 15) : mp_K2 room (B + 4) (dc_up (mp_cyc E g room S) 0 4 (mp_cyc E g room S 0 4 + 1)) := by
  obtain ⟨k, k3, k4⟩ := K
  refine ⟨(k.cyc hT).u (Or.inr rfl), ?_, ?_⟩
  · rw [dc_up_i (by decide), mp_cyc_o (Or.inl rfl)]; omega
  · rw [dc_up_s, mp_cyc_o (Or.inr rfl)]; omega
theorem mp_K2.mo {room B C : Int} {S : dc_M} (K : mp_K2 room B S) (h : B ≤ C) : mp_K2 room C S := ⟨K.1.mo h, ⟨K.2.1.1, by have := K.2.1.2; omega⟩, ⟨K.2.2.1, by have := K.2.2.2; omega⟩⟩
theorem mr_0.u3 {m S : dc_M} (h : mr_0 m S) {v : Int} {m2 : dc_M} (e : m2 = dc_up m 136 0 v) : mr_0 m2 (dc_up S 0 3 v) := by
  obtain ⟨O1, O2, O3, O4, O5, O6, O7, O8, O9, O10⟩ := h
  subst e
  have a1 : dc_up S 0 3 v 0 1 = S 0 1 := dc_up_i (by decide)
  have a2 : dc_up S 0 3 v 0 2 = S 0 2 := dc_up_i (by decide)
  unfold mr_0
  rw [a1, a2]
  refine ⟨by rw [dc_up_k (by decide)]; exact O1, by rw [dc_up_k (by decide)]; exact O2, by rw [dc_up_s, dc_up_s], by rw [dc_up_k (by decide), dc_up_i (by decide)]; exact O4, by rw [dc_up_k (by decide), dc_up_i (by decide)]; exact O5, by rw [dc_up_k (by decide), dc_up_i (by decide)]; exact O6, by rw [dc_up_k (by decide), dc_up_i (by decide)]; exact O7, fun i i0 i1 => by rw [dc_up_k (by decide), dc_up_k (by decide)]; exact O8 i i0 i1, fun i i0 i1 => by rw [dc_up_k (by decide), dc_up_k (by decide)]; exact O9 i i0 i1, fun i i0 i1 => by rw [dc_up_k (by decide), dc_up_k (by decide)]; exact O10 i i0 i1⟩
theorem mr_0.u4 {m S : dc_M} (h : mr_0 m S) {v : Int} {m2 : dc_M} (e : m2 = dc_up m 137 0 v) : mr_0 m2 (dc_up S 0 4 v) := by
  obtain ⟨O1, O2, O3, O4, O5, O6, O7, O8, O9, O10⟩ := h
  subst e
  have a1 : dc_up S 0 4 v 0 1 = S 0 1 := dc_up_i (by decide)
  have a2 : dc_up S 0 4 v 0 2 = S 0 2 := dc_up_i (by decide)
  unfold mr_0
  rw [a1, a2]
  refine ⟨by rw [dc_up_k (by decide)]; exact O1, by rw [dc_up_k (by decide)]; exact O2, by rw [dc_up_k (by decide), dc_up_i (by decide)]; exact O3, by rw [dc_up_s, dc_up_s], by rw [dc_up_k (by decide), dc_up_i (by decide)]; exact O5, by rw [dc_up_k (by decide), dc_up_i (by decide)]; exact O6, by rw [dc_up_k (by decide), dc_up_i (by decide)]; exact O7, fun i i0 i1 => by rw [dc_up_k (by decide), dc_up_k (by decide)]; exact O8 i i0 i1, fun i i0 i1 => by rw [dc_up_k (by decide), dc_up_k (by decide)]; exact O9 i i0 i1, fun i i0 i1 => by rw [dc_up_k (by decide), dc_up_k (by decide)]; exact O10 i i0 i1⟩
/-- what holds all the RUN long -/
def r6_F (W : List (Int × Int)) (w : Int) (dk : Int → Int → Int) (n room : Int) (m : dc_M) : Prop := rz_V m 0 W ∧ m 114 42 = w ∧ r5_P W w m ∧ r5_D dk n m ∧ m 114 43 = room
def r6_f (m0 m : dc_M) : Prop := ∀ (k : Nat) (i : Int), ¬ mr_u k i → m k i = m0 k i
theorem r6_F.cg {W : List (Int × Int)} {w : Int} {dk : Int → Int → Int} {n room : Int} {m m2 : dc_M} (F : r6_F W w dk n room m) (f : r6_f m m2) : r6_F W w dk n room m2 := by
  obtain ⟨⟨V1, V2, V3⟩, f2, f3, f4, f5⟩ := F
  have g : ∀ (k : Nat) (i : Int), k = 114 ∨ k = 118 ∨ k = 119 ∨ k = 120 ∨ k = 123 ∨ k = 125 → m2 k i = m k i := fun k i h => f k i (by unfold mr_u mr_k; omega)
  refine ⟨⟨(g _ _ (by omega)).trans V1, V2, fun i hi => by rw [g _ _ (by omega), g _ _ (by omega)]; exact V3 i hi⟩, (g _ _ (by omega)).trans f2, ?_, f4.cg (g _ _ (by omega)) (fun i => g _ _ (by omega)), (g _ _ (by omega)).trans f5⟩
  have e : m2 125 = m 125 := funext fun i => g _ _ (by omega)
  unfold r5_P
  rw [e]
  exact f3
/-- the RUN under way -/
def r6_C (W : List (Int × Int)) (w : Int) (dk : Int → Int → Int) (n room B : Int) (m0 m S : dc_M) : Prop := r6_f m0 m ∧ mr_0 m S ∧ mp_K2 room B S ∧ S 0 0 = 0
def r6_E (room : Int) (m0 m S : dc_M) : Prop := r6_f m0 m ∧ mr_0 m S ∧ mp_K2 room 1000 S ∧ m 130 0 = S 0 0
theorem r6_cyc {W : List (Int × Int)} {w : Int} {dk : Int → Int → Int} {n room B : Int} {m0 m S : dc_M} (F : r6_F W w dk n room m0) (h40 : room ≤ 40) (C : r6_C W w dk n room B m0 m S) (hB : B ≤ 1000) {x0 : Int} {v : Int} {m1 : dc_M} (h : D_219 x0 m v m1) {g : Int → Int} (hall : ∀ h, 0 ≤ h → h < 96 → m 124 h = g h) (hu : ∀ h, 61 ≤ h → h ≤ 64 → g h = -1) (hg : ∀ h, -1 ≤ g h ∧ g h ≤ 15) {g2 : Int → Int} (hg2 : g2 = if x0 = 0 then g else mp_gu (mp_E1 W w g) g) {m2 : dc_M} (e2 : m2 = dc_up m1 130 0 v) : m2 130 0 = mp_cyc (mp_E1 W w g) g2 room S 0 0 ∧ r6_f m0 m2 ∧ mr_0 m2 (mp_cyc (mp_E1 W w g) g2 room S) ∧ mp_K2 room (B + 4) (mp_cyc (mp_E1 W w g) g2 room S) ∧ r3_S (mp_E1 W w g) g2 m2 ∧ ∀ t, -1 ≤ mp_tk (mp_E1 W w g) g2 t ∧ mp_tk (mp_E1 W w g) g2 t ≤ 15 := by
  obtain ⟨c1, c2, c3, c4⟩ := C
  obtain ⟨f1, f2, f3, f4, f5⟩ := F.cg c1
  have hg2r : ∀ h, -1 ≤ g2 h ∧ g2 h ≤ 15 := fun h => by
    rw [hg2]
    split
    · exact hg h
    · exact mp_gu_r hg h
  have hT : ∀ t, -1 ≤ mp_tk (mp_E1 W w g) g2 t ∧ mp_tk (mp_E1 W w g) g2 t ≤ 15 := fun t => mp_tk_r (fun a _ _ => (hg2r a).2)
  obtain ⟨q1, q2, q3, q4⟩ := r5_cyc h f1 f2 f3 hall hu hg c2 f5 h40 c3.1 (by omega) c4 hg2
  clear h
  have K := c3.cyc (E := mp_E1 W w g) (g := g2) hT
  refine ⟨by rw [e2, dc_up_s]; exact q1, fun k i z => ?_, q2.cg K.1.1.2 (by have := K.1.2.1.2; omega) (fun k i z => ?_), K, q3.fr (fun k i z => ?_), hT⟩
  · rw [e2]
    refine (if_neg (fun y => z (by unfold mr_u; omega))).trans ((q4 k i ?_ ?_ ?_ ?_ ?_ ?_).trans (c1 k i z))
    · exact fun y => z (by unfold mr_u; omega)
    · exact fun y => z (by unfold mr_u; omega)
    · exact fun y => z (by unfold mr_u; omega)
    · exact fun y => z (by unfold mr_u; omega)
    · exact fun y => z (by unfold mr_u; omega)
    · exact fun y => z (Or.inr (Or.inr (Or.inr y)))
  · rw [e2]
    unfold mr_k at z
    exact if_neg (by omega)
  · rw [e2]
    exact if_neg (by omega)
/-- TOTAL CYCLES -/
theorem r6_341 {W : List (Int × Int)} {w : Int} {dk : Int → Int → Int} {n room : Int} {m0 : dc_M} (F : r6_F W w dk n room m0) (h40 : room ≤ 40) {x0 l2 l3 l4 : Int} (l30 : 0 ≤ l3 ∧ l3 ≤ 40) (h43 : l4 ≤ 3) {v : Int} {m' : dc_M} : ∀ (f c : Nat) (l5 : Int) (m S : dc_M) (B : Int), LM_217 x0 c 341 l2 l3 l4 l5 m v m' → l4 - l5 + 1 = (f : Int) → 1 ≤ l5 → B + 4 * (f : Int) ≤ 1000 → r6_C W w dk n room B m0 m S → (mp_tts W w room f l5 S 0 0 = 0 ∧ ∃ c m2, LM_217 x0 c 102 l2 (l3 + 1) 0 0 m2 v m' ∧ r6_C W w dk n room (B + 4 * (f : Int)) m0 m2 (mp_tts W w room f l5 S)) ∨ (mp_tts W w room f l5 S 0 0 ≠ 0 ∧ r6_E room m0 m' (mp_tts W w room f l5 S)) := by
  have w1 : dc_w (l3 + 1) = l3 + 1 := dw (by omega) (by omega)
  intro f
  induction f with
  | zero =>
    intro c l5 m S B h hf h1 hB C
    cases c with
    | zero => exact h.elim
    | succ c =>
      replace h := lm_217_341.mp h
      rw [w1] at h
      rcases h with ⟨c1, h⟩ | ⟨c1, -⟩
      · exact Or.inl ⟨C.2.2.2, c, m, h, C.1, C.2.1, C.2.2.1.mo (by clear h; omega), C.2.2.2⟩
      · exfalso; omega
  | succ f ih =>
    intro c l5 m S B h hf h1 hB C
    cases c with
    | zero => exact h.elim
    | succ c =>
      have w2 : dc_w (l5 + 1) = l5 + 1 := dw (by omega) (by omega)
      replace h := lm_217_341.mp h
      rw [w2] at h
      rcases h with ⟨c1, -⟩ | ⟨c1, v2, m2, hd, v3, m3, hd3, -, m4, e4, -, h⟩
      · exfalso; omega
      · obtain ⟨C1, C2, C3, C4⟩ := C
        have O9 := C2.2.2.2.2.2.2.2.2.1
        obtain ⟨t1, t2⟩ := r5_total (S := S) h1 (by clear h hd hd3; omega) O9 C3.1.2.2.1 hd
        clear hd
        have C' : r6_C W w dk n room B m0 m2 S := ⟨fun k i z => (t1 k i (fun y => z (by unfold mr_u; omega))).trans (C1 k i z), C2.cg C3.1.1.2 (by have := C3.1.2.1.2; omega) (fun k i z => t1 k i (by unfold mr_k at z; omega)), C3, C4⟩
        have hB2 : B ≤ 1000 := by clear h hd3; omega
        obtain ⟨q1, q2, q3, q4, q5, hT⟩ := r6_cyc F h40 C' hB2 hd3 (g := mp_gt S l5) t2 (fun x y0 y1 => if_pos (by omega)) (fun x => mp_gt_r S l5 x) (g2 := mp_gt S l5) (if_pos rfl).symm e4
        clear hd3
        show (mp_tts W w room (f + 1) l5 S 0 0 = 0 ∧ _) ∨ _
        have es : mp_tts W w room (f + 1) l5 S = if mp_tot W w room l5 S 0 0 = 0 then mp_tts W w room f (l5 + 1) (dc_up (mp_tot W w room l5 S) 0 4 (mp_tot W w room l5 S 0 4 + 1)) else mp_tot W w room l5 S := rfl
        have et : mp_tot W w room l5 S = mp_cyc (mp_E1 W w (mp_gt S l5)) (mp_gt S l5) room S := rfl
        rw [es, et]
        rcases h with ⟨c2, -, -, m5, e5, h⟩ | ⟨c2, ev, em⟩
        · rw [q1] at c2
          rw [if_pos c2]
          have g4 : m4 137 0 = mp_cyc (mp_E1 W w (mp_gt S l5)) (mp_gt S l5) room S 0 4 := q3.2.2.2.1
          have k4 := q4.2.2
          rw [g4, dw (by clear h; omega) (by clear h; omega)] at e5
          have C5 : r6_C W w dk n room (B + 4) m0 m5 (dc_up (mp_cyc (mp_E1 W w (mp_gt S l5)) (mp_gt S l5) room S) 0 4 (mp_cyc (mp_E1 W w (mp_gt S l5)) (mp_gt S l5) room S 0 4 + 1)) := by
            refine ⟨fun k i z => ?_, q3.u4 e5, C3.c4 hT, by rw [dc_up_i (by decide)]; exact c2⟩
            rw [e5]
            exact (if_neg (fun y => z (by unfold mr_u mr_k; omega))).trans (q2 k i z)
          rcases ih c (l5 + 1) m5 _ (B + 4) h (by clear h; omega) (by clear h; omega) (by clear h; omega) C5 with ⟨a1, c9, m9, a2, a3⟩ | ⟨a1, a2⟩
          · exact Or.inl ⟨a1, c9, m9, a2, a3.1, a3.2.1, a3.2.2.1.mo (by clear h a2; omega), a3.2.2.2⟩
          · exact Or.inr ⟨a1, a2⟩
        · rw [q1] at c2
          rw [if_neg c2, em]
          exact Or.inr ⟨c2, q2, q3, q4.mo (by omega), q1⟩
/-- what a CARD gives -/
theorem r6_141 {W : List (Int × Int)} {w : Int} {dk : Int → Int → Int} {n room : Int} {m0 : dc_M} (F : r6_F W w dk n room m0) (h40 : room ≤ 40) {x0 l3 : Int} (l30 : 0 ≤ l3) (l3n : l3 < n) {v : Int} {m' S : dc_M} {B : Int} : ∀ (f c : Nat) (l4 : Int) (m : dc_M), LM_217 x0 c 141 0 l3 l4 0 m v m' → 20 - l4 = (f : Int) → 0 ≤ l4 → r6_C W w dk n room B m0 m S → (∀ i, 0 ≤ i → i < l4 → m 124 i = mp_gc dk n l3 i ∧ m 124 (20 + i) = mp_gc dk n l3 (20 + i) ∧ m 124 (40 + i) = mp_gc dk n l3 (40 + i)) → (∀ h, 60 ≤ h → h < 96 → m 124 h = -1) → ∃ c m2, LM_217 x0 (c + 1) 141 0 l3 20 0 m2 v m' ∧ r6_C W w dk n room B m0 m2 S ∧ (∀ h, 0 ≤ h → h < 60 → m2 124 h = mp_gc dk n l3 h) ∧ (∀ h, 60 ≤ h → h < 96 → m2 124 h = -1) := by
  have hn := F.2.2.2.1.2.1
  have w1 : dc_w (l3 + 1) = l3 + 1 := dw (by omega) (by omega)
  have w5 : dc_w (20 * l3) = 20 * l3 := dw (by omega) (by omega)
  intro f
  induction f with
  | zero =>
    intro c l4 m h hf l0 C h1 h2
    have e : l4 = 20 := by omega
    rw [e] at h h1
    cases c with
    | zero => exact h.elim
    | succ c =>
      refine ⟨c, m, h, C, fun x x0 x1 => ?_, h2⟩
      by_cases z : x < 20
      · exact (h1 x x0 z).1
      · by_cases y : x < 40
        · have q := (h1 (x - 20) (by clear h; omega) (by clear h; omega)).2.1
          rw [show 20 + (x - 20) = x by clear h; omega] at q
          exact q
        · have q := (h1 (x - 40) (by clear h; omega) (by clear h; omega)).2.2
          rw [show 40 + (x - 40) = x by clear h; omega] at q
          exact q
  | succ f ih =>
    intro c l4 m h hf l0 C h1 h2
    cases c with
    | zero => exact h.elim
    | succ c =>
      have w0 : dc_w (0 + l4) = l4 := (dw (by omega) (by omega)).trans (Int.zero_add l4)
      have w2 : dc_w (20 + l4) = 20 + l4 := dw (by omega) (by omega)
      have w3 : dc_w (40 + l4) = 40 + l4 := dw (by omega) (by omega)
      have w4 : dc_w (l4 + 1) = l4 + 1 := dw (by omega) (by omega)
      have w6 : dc_w (20 * l3 + l4) = 20 * l3 + l4 := dw (by omega) (by omega)
      replace h := lm_217_141.mp h
      rw [w0, w1, w2, w3, w4, w5, w6] at h
      rcases h with ⟨c1, -⟩ | ⟨c1, v2, m2, hd, -, m3, e3, v4, m4, hd4, -, m5, e5, -, h⟩
      · exfalso; omega
      · have D := (F.cg C.1).2.2.2.1
        obtain ⟨a1, a2⟩ := r5_dig D l30 (by clear h hd hd4; omega) l0 (by clear h hd hd4; omega) hd
        clear hd
        rw [a1] at e3
        have D3 : r5_D dk n m3 := D.cg (by rw [e3, dc_up_k (by decide)]) (fun i => by rw [e3, dc_up_k (by decide)])
        obtain ⟨b1, b2⟩ := r5_dig D3 (k := l3 + 1) (by clear h hd4; omega) (by clear h hd4; omega) l0 (by clear h hd4; omega) hd4
        clear hd4
        rw [b1] at e5
        have ec : v2 = mp_gc dk n l3 l4 := by
          rw [a2, if_pos l3n]
          unfold mp_gc
          rw [if_pos (by clear h; omega)]
        have ea : v4 = mp_gc dk n l3 (20 + l4) := by
          have q : mp_gc dk n l3 (20 + l4) = if l3 + 1 < n then mp_dg (dk (l3 + 1) (20 + l4 - 20)) else -1 := (if_neg (by clear h; omega)).trans (if_pos (by clear h; omega))
          rw [q, b2, show 20 + l4 - 20 = l4 by clear h; omega]
        have ed : m5 123 (20 * l3 + l4) = dk l3 l4 := by
          rw [e5, dc_up_k (by decide), e3, dc_up_k (by decide)]
          exact D.2.2.2 l3 l4 l30 l3n l0 (by clear h; omega)
        have ex : mp_gc dk n l3 (40 + l4) = if dk l3 l4 > 15 then 1 else -1 := by
          unfold mp_gc
          rw [if_neg (by clear h; omega), if_neg (by clear h; omega), if_pos (by clear h; omega), show 40 + l4 - 40 = l4 by clear h; omega]
        rw [ed] at h
        have step : ∀ m6, m6 = dc_up m5 124 (40 + l4) (mp_gc dk n l3 (40 + l4)) → LM_217 x0 c 141 0 l3 (l4 + 1) 0 m6 v m' → ∃ c m2, LM_217 x0 (c + 1) 141 0 l3 20 0 m2 v m' ∧ r6_C W w dk n room B m0 m2 S ∧ (∀ h, 0 ≤ h → h < 60 → m2 124 h = mp_gc dk n l3 h) ∧ (∀ h, 60 ≤ h → h < 96 → m2 124 h = -1) := by
          intro m6 e6 h
          have f6 : ∀ (k : Nat) (i : Int), k ≠ 124 → m6 k i = m k i := fun k i hk => by rw [e6, dc_up_k hk, e5, dc_up_k hk, e3, dc_up_k hk]
          have g6 : ∀ i : Int, i ≠ l4 → i ≠ 20 + l4 → i ≠ 40 + l4 → m6 124 i = m 124 i := fun i z1 z2 z3 => by rw [e6, dc_up_i z3, e5, dc_up_i z2, e3, dc_up_i z1]
          obtain ⟨C1, C2, C3, C4⟩ := C
          refine ih c (l4 + 1) m6 h (by clear h; omega) (by clear h; omega) ⟨fun k i z => (f6 k i (fun y => z (by unfold mr_u; omega))).trans (C1 k i z), C2.cg C3.1.1.2 (Int.le_trans C3.1.2.1.2 h40) (fun k i z => f6 k i (by unfold mr_k at z; omega)), C3, C4⟩ (fun i i0 i1 => ?_) (fun x y0 y1 => ?_)
          · by_cases z : i = l4
            · rw [z]
              refine ⟨?_, ?_, ?_⟩
              · rw [e6, dc_up_i (by clear h; omega), e5, dc_up_i (by clear h; omega), e3, dc_up_s]; exact ec
              · rw [e6, dc_up_i (by clear h; omega), e5, dc_up_s]; exact ea
              · rw [e6, dc_up_s]
            · obtain ⟨y1, y2, y3⟩ := h1 i i0 (by clear h; omega)
              rw [g6 _ (by clear h; omega) (by clear h; omega) (by clear h; omega), g6 _ (by clear h; omega) (by clear h; omega) (by clear h; omega), g6 _ (by clear h; omega) (by clear h; omega) (by clear h; omega)]
              exact ⟨y1, y2, y3⟩
          · rw [g6 _ (by clear h; omega) (by clear h; omega) (by clear h; omega)]
            exact h2 x y0 y1
        rcases h with ⟨c2, -, m6, e6, h⟩ | ⟨c2, -, m6, e6, h⟩
        · exact step m6 (by rw [e6, ex, if_neg (by clear h; omega)]) h
        · exact step m6 (by rw [e6, ex, if_pos (by clear h; omega)]) h
theorem r6_117 {W : List (Int × Int)} {w : Int} {dk : Int → Int → Int} {n room : Int} {m0 : dc_M} {x0 l3 : Int} {v : Int} {m' S : dc_M} {B : Int} (h40 : room ≤ 40) : ∀ (f c : Nat) (l4 : Int) (m : dc_M), LM_217 x0 c 117 0 l3 l4 0 m v m' → 96 - l4 = (f : Int) → 0 ≤ l4 → r6_C W w dk n room B m0 m S → (∀ h, 0 ≤ h → h < l4 → m 124 h = -1) → ∃ c m2, LM_217 x0 c 141 0 l3 0 0 m2 v m' ∧ r6_C W w dk n room B m0 m2 S ∧ ∀ h, 0 ≤ h → h < 96 → m2 124 h = -1 := by
  intro f
  induction f with
  | zero =>
    intro c l4 m h hf l0 C h1
    cases c with
    | zero => exact h.elim
    | succ c =>
      replace h := lm_217_117.mp h
      rcases h with ⟨c1, h⟩ | ⟨c1, -⟩
      · exact ⟨c, m, h, C, fun x y0 y1 => h1 x y0 (by clear h; omega)⟩
      · exfalso; omega
  | succ f ih =>
    intro c l4 m h hf l0 C h1
    cases c with
    | zero => exact h.elim
    | succ c =>
      have w1 : dc_w (l4 + 1) = l4 + 1 := dw (by omega) (by omega)
      replace h := lm_217_117.mp h
      rw [w1] at h
      rcases h with ⟨c1, -⟩ | ⟨c1, -, m2, e2, h⟩
      · exfalso; omega
      · obtain ⟨C1, C2, C3, C4⟩ := C
        refine ih c (l4 + 1) m2 h (by clear h; omega) (by clear h; omega) ⟨fun k i z => ?_, C2.cg C3.1.1.2 (Int.le_trans C3.1.2.1.2 h40) (fun k i z => ?_), C3, C4⟩ (fun x y0 y1 => ?_)
        · rw [e2, dc_up_k (fun y => z (by unfold mr_u; omega))]; exact C1 k i z
        · rw [e2, dc_up_k (by unfold mr_k at z; omega)]
        · rw [e2]
          by_cases z : x = l4
          · rw [z, dc_up_s]
          · rw [dc_up_i z]; exact h1 x y0 (by clear h; omega)
