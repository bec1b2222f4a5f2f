/-! BOXES, and the CARDS dealt -/
theorem mp_tts.K {W : List (Int × Int)} {w room : Int} : ∀ (f : Nat) (o : Int) (S : dc_M) (B : Int), mp_K2 room B S → mp_K2 room (B + 4 * (f : Int)) (mp_tts W w room f o S) := by
  intro f
  induction f with
  | zero => intro o S B K; exact K.mo (by omega)
  | succ f ih =>
    intro o S B K
    have hT : ∀ t, -1 ≤ mp_tk (mp_E1 W w (mp_gt S o)) (mp_gt S o) t ∧ mp_tk (mp_E1 W w (mp_gt S o)) (mp_gt S o) t ≤ 15 := fun t => mp_tk_r (fun a _ _ => (mp_gt_r S o a).2)
    have es : mp_tts W w room (f + 1) o S = if mp_tot W w room o S 0 0 = 0 then mp_tts W w room f (o + 1) (dc_up (mp_tot W w room o S) 0 4 (mp_tot W w room o S 0 4 + 1)) else mp_tot W w room o S := rfl
    have q : mp_K2 room (B + 4) (mp_tot W w room o S) := K.cyc hT
    have q2 : mp_K2 room (B + 4) (dc_up (mp_tot W w room o S) 0 4 (mp_tot W w room o S 0 4 + 1)) := K.c4 hT
    rw [es]
    split
    · exact (ih (o + 1) _ _ q2).mo (by omega)
    · exact q.mo (by omega)
theorem mp_or_r {T : Int → Int} {k n : Int} : 0 ≤ mp_or T k n ∧ mp_or T k n ≤ 3 := by
  unfold mp_or
  split
  · omega
  · split
    · omega
    · split
      · omega
      · split <;> omega
theorem mp_run.K {W : List (Int × Int)} {w : Int} {dk : Int → Int → Int} {n room : Int} : ∀ (f : Nat) (k : Int) (S : dc_M) (B : Int), mp_K2 room B S → mp_K2 room (B + 16 * (f : Int)) (mp_run W w dk n room f k S) := by
  intro f
  induction f with
  | zero => intro k S B K; exact K.mo (by omega)
  | succ f ih =>
    intro k S B K
    have hT : ∀ t, -1 ≤ mp_tk (mp_E1 W w (mp_gc dk n k)) (mp_g1 W w dk n k) t ∧ mp_tk (mp_E1 W w (mp_gc dk n k)) (mp_g1 W w dk n k) t ≤ 15 := fun t => mp_tk_r (fun a _ _ => (mp_gu_r (fun x => mp_gc_r dk n k x) a).2)
    have es : mp_run W w dk n room (f + 1) k S = if mp_crd W w dk n room k S 0 0 = 0 then (if mp_nx W w dk n room k S 0 0 = 0 then (if 0 ≤ mp_T W w dk n k 180 then dc_up (mp_nx W w dk n room k S) 0 0 1 else mp_run W w dk n room f (k + 1) (mp_nx W w dk n room k S)) else mp_nx W w dk n room k S) else mp_crd W w dk n room k S := rfl
    have q : mp_K2 room (B + 4) (mp_crd W w dk n room k S) := K.cyc hT
    have q2 : mp_K2 room (B + 4) (dc_up (mp_crd W w dk n room k S) 0 3 (mp_crd W w dk n room k S 0 3 + 1)) := K.c3 hT
    have r := mp_or_r (T := mp_T W w dk n k) (k := k) (n := n)
    have q3 : mp_K2 room (B + 16) (mp_nx W w dk n room k S) := (mp_tts.K _ 1 _ _ q2).mo (by omega)
    rw [es]
    split
    · split
      · split
        · exact (q3.e 1).mo (by omega)
        · exact (ih (k + 1) _ _ q3).mo (by omega)
      · exact q3.mo (by omega)
    · exact q.mo (by omega)
theorem mp_S0.K {room B : Int} (hr : 0 ≤ room) (hB : 0 ≤ B) : mp_K2 room B mp_S0 := by
  refine ⟨⟨⟨Int.le_refl 0, by decide⟩, ⟨Int.le_refl 0, hr⟩, fun w w0 w1 => ?_, ⟨Int.le_refl 0, hB⟩, fun i i0 i1 => ?_, fun i i0 i1 => ?_⟩, ⟨Int.le_refl 0, hB⟩, ⟨Int.le_refl 0, hB⟩⟩
  · show (-999999 : Int) ≤ 0 ∧ (0 : Int) ≤ 999999
    decide
  · exfalso
    have i1 : i < 12 * 0 := i1
    omega
  · exfalso
    have i1 : i < 20 * 0 := i1
    omega
theorem mp_play.K {W : List (Int × Int)} {w : Int} {dk : Int → Int → Int} {n room : Int} (hn : 0 ≤ n ∧ n ≤ 40) (hr : 0 ≤ room) : mp_K2 room 1000 (mp_play W w dk n room) := (mp_run.K n.toNat 0 mp_S0 0 (mp_S0.K hr (Int.le_refl 0))).mo (by omega)
/-- what is PUNCHED: digits and blanks -/
def mp_V (S : dc_M) : Prop := ∀ i, 0 ≤ i → i < 20 * S 0 2 → (0 ≤ S 3 i ∧ S 3 i ≤ 9) ∨ S 3 i = 15
theorem mp_V.cg {S R : dc_M} (V : mp_V S) (e1 : R 0 2 = S 0 2) (e2 : ∀ i, R 3 i = S 3 i) : mp_V R := fun i i0 i1 => by
  rw [e2]
  exact V i i0 (by rw [← e1]; exact i1)
theorem mp_V.cyc {E : Int → Int → Prop} {g : Int → Int} (hg : ∀ h, -1 ≤ g h ∧ g h ≤ 9) {room : Int} {S : dc_M} (V : mp_V S) (h0 : 0 ≤ S 0 2) : mp_V (mp_cyc E g room S) := by
  have hT : ∀ t, -1 ≤ mp_tk E g t ∧ mp_tk E g t ≤ 9 := fun t => by
    rcases mp_tk_c E g t with ⟨a, ⟨a0, a1, a2, -⟩, e⟩ | ⟨-, e⟩
    · have := hg a
      omega
    · omega
  cases e : mp_jm E g with
  | none =>
    have q : mp_cyc E g room S = mp_act (mp_tk E g) room S := by
      unfold mp_cyc
      rw [e]
    rw [q]
    unfold mp_act
    split
    · exact V.cg (dc_up_i (by decide)) (fun i => dc_up_k (by decide))
    · have a : mp_V (mp_wh (mp_tk E g) (mp_a1 (mp_tk E g) S)) ∧ mp_wh (mp_tk E g) (mp_a1 (mp_tk E g) S) 0 2 = S 0 2 := by
        have b : mp_a1 (mp_tk E g) S 0 2 = S 0 2 ∧ ∀ i, mp_a1 (mp_tk E g) S 3 i = S 3 i := by
          unfold mp_a1
          split
          · exact ⟨mp_ln_o (by omega) (by omega), fun i => mp_ln_o (by omega) (by omega)⟩
          · exact ⟨rfl, fun _ => rfl⟩
        have d : mp_wh (mp_tk E g) (mp_a1 (mp_tk E g) S) 0 2 = S 0 2 := (mp_wh_o (by omega) (by omega)).trans b.1
        exact ⟨V.cg d (fun i => (mp_wh_o (by omega) (by omega)).trans (b.2 i)), d⟩
      unfold mp_a2
      split
      · split
        · exact a.1.cg (dc_up_i (by decide)) (fun i => dc_up_k (by decide))
        · intro i i0 i1
          rw [mp_pn_2, a.2] at i1
          by_cases z : 20 * S 0 2 ≤ i
          · have y := mp_pn_y (T := mp_tk E g) (S := mp_wh (mp_tk E g) (mp_a1 (mp_tk E g) S)) (i := i - 20 * S 0 2) (by omega) (by omega)
            rw [a.2, show 20 * S 0 2 + (i - 20 * S 0 2) = i by omega] at y
            rw [y]
            have := hT (159 + (i - 20 * S 0 2))
            unfold r3_B
            split
            · right; rfl
            · left; omega
          · rw [mp_pn_o (by rw [a.2]; omega) (by omega)]
            exact a.1 i i0 (by rw [a.2]; omega)
      · exact a.1
  | some p =>
    obtain ⟨a, b⟩ := p
    rw [mp_cyc_j e]
    exact V.cg (by rw [dc_up_i (by decide), dc_up_i (by decide), dc_up_i (by decide)]) (fun i => by rw [dc_up_k (by decide), dc_up_k (by decide), dc_up_k (by decide)])
theorem mp_gt_9 (S : dc_M) (o h : Int) : -1 ≤ mp_gt S o h ∧ mp_gt S o h ≤ 9 := by
  unfold mp_gt
  split
  · omega
  · split
    · split <;> omega
    · split
      · have := Nat.mod_lt ((S 2 ((h - 68) / 6)).natAbs / 10 ^ ((h - 68) % 6).toNat) (show 0 < 10 by decide)
        omega
      · split <;> omega
/-- a byte of a CARD -/
def bx_v (x : Int) : Prop := (0 ≤ x ∧ x ≤ 31) ∧ (x % 16 ≤ 9 ∨ x % 16 = 15)
theorem mp_gc_9 {dk : Int → Int → Int} (hd : ∀ k c, bx_v (dk k c)) (n k h : Int) : -1 ≤ mp_gc dk n k h ∧ mp_gc dk n k h ≤ 9 := by
  have d : ∀ k c, -1 ≤ mp_dg (dk k c) ∧ mp_dg (dk k c) ≤ 9 := fun k c => by
    have := hd k c
    unfold bx_v at this
    unfold mp_dg
    split <;> omega
  unfold mp_gc
  have a := d k h
  have b := d (k + 1) (h - 20)
  split
  · exact a
  · split
    · split
      · exact b
      · omega
    · split
      · split <;> omega
      · split <;> omega
theorem mp_tts.V {W : List (Int × Int)} {w room : Int} : ∀ (f : Nat) (o : Int) (S : dc_M) (B : Int), mp_K2 room B S → mp_V S → mp_V (mp_tts W w room f o S) := by
  intro f
  induction f with
  | zero => intro o S B _ V; exact V
  | succ f ih =>
    intro o S B K V
    have hT : ∀ t, -1 ≤ mp_tk (mp_E1 W w (mp_gt S o)) (mp_gt S o) t ∧ mp_tk (mp_E1 W w (mp_gt S o)) (mp_gt S o) t ≤ 15 := fun t => mp_tk_r (fun a _ _ => (mp_gt_r S o a).2)
    have es : mp_tts W w room (f + 1) o S = if mp_tot W w room o S 0 0 = 0 then mp_tts W w room f (o + 1) (dc_up (mp_tot W w room o S) 0 4 (mp_tot W w room o S 0 4 + 1)) else mp_tot W w room o S := rfl
    have q : mp_V (mp_tot W w room o S) := V.cyc (fun h => mp_gt_9 S o h) K.1.2.1.1
    have q2 : mp_K2 room (B + 4) (dc_up (mp_tot W w room o S) 0 4 (mp_tot W w room o S 0 4 + 1)) := K.c4 hT
    rw [es]
    split
    · exact ih (o + 1) _ _ q2 (q.cg (dc_up_i (by decide)) (fun i => dc_up_k (by decide)))
    · exact q
theorem mp_run.V {W : List (Int × Int)} {w : Int} {dk : Int → Int → Int} (hd : ∀ k c, bx_v (dk k c)) {n room : Int} : ∀ (f : Nat) (k : Int) (S : dc_M) (B : Int), mp_K2 room B S → mp_V S → mp_V (mp_run W w dk n room f k S) := by
  intro f
  induction f with
  | zero => intro k S B _ V; exact V
  | succ f ih =>
    intro k S B K V
    have hT : ∀ t, -1 ≤ mp_tk (mp_E1 W w (mp_gc dk n k)) (mp_g1 W w dk n k) t ∧ mp_tk (mp_E1 W w (mp_gc dk n k)) (mp_g1 W w dk n k) t ≤ 15 := fun t => mp_tk_r (fun a _ _ => (mp_gu_r (fun x => mp_gc_r dk n k x) a).2)
    have g9 : ∀ h, -1 ≤ mp_g1 W w dk n k h ∧ mp_g1 W w dk n k h ≤ 9 := fun h => by
      unfold mp_g1 mp_gu
      split
      · split <;> omega
      · exact mp_gc_9 hd n k h
    have es : mp_run W w dk n room (f + 1) k S = if mp_crd W w dk n room k S 0 0 = 0 then (if mp_nx W w dk n room k S 0 0 = 0 then (if 0 ≤ mp_T W w dk n k 180 then dc_up (mp_nx W w dk n room k S) 0 0 1 else mp_run W w dk n room f (k + 1) (mp_nx W w dk n room k S)) else mp_nx W w dk n room k S) else mp_crd W w dk n room k S := rfl
    have q : mp_V (mp_crd W w dk n room k S) := V.cyc g9 K.1.2.1.1
    have q2 : mp_K2 room (B + 4) (dc_up (mp_crd W w dk n room k S) 0 3 (mp_crd W w dk n room k S 0 3 + 1)) := K.c3 hT
    have v2 : mp_V (dc_up (mp_crd W w dk n room k S) 0 3 (mp_crd W w dk n room k S 0 3 + 1)) := q.cg (dc_up_i (by decide)) (fun i => dc_up_k (by decide))
    have q3 : mp_K2 room (B + 4 + 4 * ((mp_or (mp_T W w dk n k) k n).toNat : Int)) (mp_nx W w dk n room k S) := mp_tts.K _ 1 _ _ q2
    have v3 : mp_V (mp_nx W w dk n room k S) := mp_tts.V _ 1 _ _ q2 v2
    rw [es]
    split
    · split
      · split
        · exact v3.cg (dc_up_i (by decide)) (fun i => dc_up_k (by decide))
        · exact ih (k + 1) _ _ q3 v3
      · exact v3
    · exact q
theorem mp_play.V {W : List (Int × Int)} {w : Int} {dk : Int → Int → Int} (hd : ∀ k c, bx_v (dk k c)) {n room : Int} (hr : 0 ≤ room) : mp_V (mp_play W w dk n room) := mp_run.V hd n.toNat 0 mp_S0 0 (mp_S0.K hr (Int.le_refl 0)) (fun i i0 i1 => by exfalso; have i1 : i < 20 * 0 := i1; omega)
/-- BOXES of the class: how many CARDS, and what they have -/
def bx_C (N : Int → Int) (B : Int → Int → Int → Int) (m : dc_M) : Prop := (∀ b, 0 ≤ b → b < 8 → m 6 b = N b ∧ 0 ≤ N b ∧ N b ≤ 40) ∧ (∀ b k, 0 ≤ b → b < 8 → 0 ≤ k → k < 40 → ∃ p, m 5 (40 * b + k) = 20 * p ∧ 40 * b ≤ p ∧ p < 40 * b + 40) ∧ (∀ b k j, 0 ≤ b → b < 8 → 0 ≤ k → k < j → j < 40 → m 5 (40 * b + k) ≠ m 5 (40 * b + j)) ∧ ∀ b k c, 0 ≤ b → b < 8 → 0 ≤ k → k < N b → 0 ≤ c → c < 20 → m 4 (m 5 (40 * b + k) + c) = B b k c
/-- of the reference -/
def bx_R (N : Int → Int) (B : Int → Int → Int → Int) (m : dc_M) : Prop := (∀ b, 0 ≤ b → b < 8 → m 117 b = N b ∧ 0 ≤ N b ∧ N b ≤ 40) ∧ ∀ b k c, 0 ≤ b → b < 8 → 0 ≤ k → k < N b → 0 ≤ c → c < 20 → m 116 (20 * (40 * b + k) + c) = B b k c
theorem bx_C.cg {N : Int → Int} {B : Int → Int → Int → Int} {m m2 : dc_M} (h : bx_C N B m) (f : ∀ (k : Nat) (i : Int), (k = 4 ∨ k = 5 ∨ k = 6) → m2 k i = m k i) : bx_C N B m2 := by
  have e4 : m2 4 = m 4 := funext fun i => f 4 i (by omega)
  have e5 : m2 5 = m 5 := funext fun i => f 5 i (by omega)
  have e6 : m2 6 = m 6 := funext fun i => f 6 i (by omega)
  unfold bx_C
  rw [e4, e5, e6]
  exact h
theorem bx_R.cg {N : Int → Int} {B : Int → Int → Int → Int} {m m2 : dc_M} (h : bx_R N B m) (f : ∀ (k : Nat) (i : Int), (k = 116 ∨ k = 117) → m2 k i = m k i) : bx_R N B m2 := by
  have e4 : m2 116 = m 116 := funext fun i => f 116 i (by omega)
  have e5 : m2 117 = m 117 := funext fun i => f 117 i (by omega)
  unfold bx_R
  rw [e4, e5]
  exact h
/-- a start lies right -/
theorem bx_C.st {N : Int → Int} {B : Int → Int → Int → Int} {m : dc_M} (h : bx_C N B m) {b k : Int} (b0 : 0 ≤ b) (b1 : b < 8) (k0 : 0 ≤ k) (k1 : k < 40) : 0 ≤ m 5 (40 * b + k) ∧ m 5 (40 * b + k) ≤ 6380 := by
  obtain ⟨p, e, p0, p1⟩ := h.2.1 b k b0 b1 k0 k1
  rw [e]
  omega
/-- dealt: dk j is the CARD that comes j-th -/
theorem bx_22 {N : Int → Int} {B : Int → Int → Int → Int} {m : dc_M} (h : bx_C N B m) (V : ∀ b k c, bx_v (B b k c)) {b most : Int} (b0 : 0 ≤ b) (b1 : b < 8) (hm : 0 ≤ most ∧ most ≤ 40) {v : Int} {m' : dc_M} (hd : D_22 b most m v m') : cg_D (B b) (if N b < most then N b else most) m' ∧ ∀ (k : Nat) (i : Int), ¬ (k = 3 ∧ i = 4) → k ≠ 7 → m' k i = m k i := by
  obtain ⟨h1, h2, h3, h4⟩ := h
  obtain ⟨e6, n0, n1⟩ := h1 b b0 b1
  obtain ⟨-, m1, e1, -, m2, e2, -, em⟩ := hd
  rw [e6] at e1
  have nn : 0 ≤ (if N b < most then N b else most) ∧ (if N b < most then N b else most) ≤ 40 ∧ (if N b < most then N b else most) ≤ N b := by split <;> omega
  have g : m1 3 4 = (if N b < most then N b else most) := by rw [e1, dc_up_s]
  rw [g, dw (z := b * 40) (by omega) (by omega), show b * 40 = 40 * b by omega] at e2
  have f : ∀ (k : Nat) (i : Int), ¬ (k = 3 ∧ i = 4) → k ≠ 7 → m' k i = m k i := fun k i y1 y2 => by
    rw [em, e2, dc_cpy_k y2, e1]
    exact if_neg y1
  have g7 : ∀ k, 0 ≤ k → k < (if N b < most then N b else most) → m' 7 k = m 5 (40 * b + k) := fun k k0 k1 => by
    rw [em, e2, dc_cpy_i k0 (by omega), e1, dc_up_k (by decide), show k - 0 = k by omega]
  refine ⟨⟨by rw [em, e2, dc_cpy_k (by decide)]; exact g, ⟨nn.1, nn.2.1⟩, fun k c => (V b k c).1, fun k k0 k1 => ?_⟩, f⟩
  rw [g7 k k0 k1]
  obtain ⟨p, e, p0, p1⟩ := h2 b k b0 b1 k0 (by omega)
  refine ⟨by rw [e]; omega, fun c c0 c1 => ?_⟩
  rw [f 4 _ (by omega) (by omega)]
  exact h4 b k c b0 b1 k0 (by omega) c0 c1
theorem bx_23 {N : Int → Int} {B : Int → Int → Int → Int} {m : dc_M} (h : bx_C N B m) (V : ∀ b k c, bx_v (B b k c)) {b : Int} (b0 : 0 ≤ b) (b1 : b < 8) {v : Int} {m' : dc_M} (hd : D_23 b m v m') : cg_D (B b) (N b) m' ∧ ∀ (k : Nat) (i : Int), ¬ (k = 3 ∧ i = 4) → k ≠ 7 → m' k i = m k i := by
  obtain ⟨v1, m1, hd, -, em⟩ := hd
  have n1 := h.1 b b0 b1
  obtain ⟨q1, q2⟩ := bx_22 h V b0 b1 ⟨by decide, by decide⟩ hd
  rw [em]
  have e : (if N b < 40 then N b else 40) = N b := by split <;> omega
  rw [e] at q1
  exact ⟨q1, q2⟩
theorem bx_18 {N : Int → Int} {B : Int → Int → Int → Int} {m : dc_M} (h : bx_C N B m) {b k : Int} (b0 : 0 ≤ b) (b1 : b < 8) (k0 : 0 ≤ k) (k1 : k < 40) {v : Int} {m' : dc_M} (hd : D_18 b k m v m') : m' = m ∧ v = m 5 (40 * b + k) := by
  obtain ⟨-, ev, em⟩ := hd
  rw [dw (z := b * 40) (by omega) (by omega), dw (z := b * 40 + k) (by omega) (by omega), show b * 40 = 40 * b by omega] at ev
  exact ⟨em, ev⟩
theorem bx_24 {N : Int → Int} {B : Int → Int → Int → Int} {m : dc_M} (h : bx_C N B m) (V : ∀ b k c, bx_v (B b k c)) {b k : Int} (b0 : 0 ≤ b) (b1 : b < 8) (k0 : 0 ≤ k) (k1 : k < N b) {v : Int} {m' : dc_M} (hd : D_24 b k m v m') : cg_D (fun j c => B b (k + j) c) 1 m' ∧ ∀ (k : Nat) (i : Int), ¬ (k = 3 ∧ i = 4) → k ≠ 7 → m' k i = m k i := by
  have n1 := h.1 b b0 b1
  obtain ⟨m1, e1, v2, m2, h2, -, m3, e3, -, em⟩ := hd
  have h1 : bx_C N B m1 := h.cg (fun j i hj => by rw [e1, dc_up_k (by omega)])
  obtain ⟨a1, a2⟩ := bx_18 h1 b0 b1 k0 (by omega) h2
  clear h2
  rw [a1, a2] at e3
  have e5 : ∀ i, m1 5 i = m 5 i := fun i => by rw [e1, dc_up_k (by decide)]
  rw [e5] at e3
  have f : ∀ (k : Nat) (i : Int), ¬ (k = 3 ∧ i = 4) → k ≠ 7 → m' k i = m k i := fun k i y1 y2 => by
    rw [em, e3, dc_up_k y2, e1]
    exact if_neg y1
  refine ⟨⟨by rw [em, e3, dc_up_k (by decide), e1, dc_up_s], by decide, fun j c => (V b (k + j) c).1, fun j j0 j1 => ?_⟩, f⟩
  have ej : j = 0 := by omega
  rw [ej]
  have g7 : m' 7 0 = m 5 (40 * b + k) := by rw [em, e3, dc_up_s]
  rw [g7]
  refine ⟨h.st b0 b1 k0 (by omega), fun c c0 c1 => ?_⟩
  show m' 4 (m 5 (40 * b + k) + c) = B b (k + 0) c
  rw [f 4 _ (by omega) (by omega), show k + 0 = k by omega]
  exact h.2.2.2 b k c b0 b1 k0 k1 c0 c1
/-- one left out -/
def bx_w (B : Int → Int → Int) (left j c : Int) : Int := B (if j < left then j else j + 1) c
theorem bx_25 {N : Int → Int} {B : Int → Int → Int → Int} {m : dc_M} (h : bx_C N B m) (V : ∀ b k c, bx_v (B b k c)) {b left : Int} (b0 : 0 ≤ b) (b1 : b < 8) (l0 : 0 ≤ left) (l1 : left < N b) {v : Int} {m' : dc_M} (hd : D_25 b left m v m') : cg_D (bx_w (B b) left) (N b - 1) m' ∧ ∀ (k : Nat) (i : Int), ¬ (k = 3 ∧ i = 4) → k ≠ 7 → m' k i = m k i := by
  have n1 := h.1 b b0 b1
  have key : ∀ (f c : Nat) (l : Int) (m1 : dc_M) (v : Int) (m' : dc_M), LM_25 b left c 7 l m1 v m' → N b - l = (f : Int) → 0 ≤ l → (∀ (k : Nat) (i : Int), ¬ (k = 3 ∧ i = 4) → k ≠ 7 → m1 k i = m k i) → m1 3 4 = (if l ≤ left then l else l - 1) → (∀ j, 0 ≤ j → j < (if l ≤ left then l else l - 1) → m1 7 j = m 5 (40 * b + (if j < left then j else j + 1))) → (∀ (k : Nat) (i : Int), ¬ (k = 3 ∧ i = 4) → k ≠ 7 → m' k i = m k i) ∧ m' 3 4 = N b - 1 ∧ ∀ j, 0 ≤ j → j < N b - 1 → m' 7 j = m 5 (40 * b + (if j < left then j else j + 1)) := by
    intro f
    induction f with
    | zero =>
      intro c l m1 v m' hh hf l0 fr e34 h7
      have el : l = N b := by omega
      cases c with
      | zero => exact hh.elim
      | succ c =>
        replace hh := lm_25_7.mp hh
        obtain ⟨-, hh⟩ := hh
        rw [show m1 6 b = N b from (fr 6 b (by omega) (by decide)).trans n1.1] at hh
        have ee : (if l ≤ left then l else l - 1) = N b - 1 := by rw [if_neg (by omega)]; omega
        rw [ee] at e34 h7
        rcases hh with ⟨-, -, em⟩ | ⟨c1, -⟩
        · rw [em]; exact ⟨fr, e34, h7⟩
        · exfalso; omega
    | succ f ih =>
      intro c l m1 v m' hh hf p0 fr e34 h7
      cases c with
      | zero => exact hh.elim
      | succ c =>
        replace hh := lm_25_7.mp hh
        obtain ⟨-, hh⟩ := hh
        rw [show m1 6 b = N b from (fr 6 b (by omega) (by decide)).trans n1.1, dw (z := l + 1) (by omega) (by omega)] at hh
        rcases hh with ⟨c1, -⟩ | ⟨c1, hh⟩
        · exfalso; omega
        · rcases hh with ⟨c2, hh⟩ | ⟨c2, v2, m2, h2, -, m3, e3, m4, e4, hh⟩
          · refine ih c (l + 1) m1 v m' hh (by clear hh; omega) (by clear hh; omega) fr ?_ ?_
            · rw [e34, if_pos (by clear hh; omega), if_neg (by clear hh; omega)]; clear hh; omega
            · rw [if_neg (by clear hh; omega)]
              rw [if_pos (by clear hh; omega)] at h7
              intro j j0 j1
              exact h7 j j0 (by clear hh; omega)
          · have hb1 : bx_C N B m1 := h.cg (fun k i hk => fr k i (by clear hh h2; omega) (by clear hh h2; omega))
            obtain ⟨a1, a2⟩ := bx_18 hb1 b0 b1 p0 (by clear hh h2; omega) h2
            clear h2
            rw [a1, a2, e34, fr 5 _ (by clear hh; omega) (by decide)] at e3
            have g34 : m3 3 4 = (if l ≤ left then l else l - 1) := by rw [e3, dc_up_k (by decide)]; exact e34
            have en : (if l + 1 ≤ left then l + 1 else l + 1 - 1) = (if l ≤ left then l else l - 1) + 1 := by
              by_cases z : l < left
              · rw [if_pos (by clear hh; omega), if_pos (by clear hh; omega)]
              · rw [if_neg (by clear hh; omega), if_neg (by clear hh; omega)]; clear hh; omega
            have br : 0 ≤ (if l ≤ left then l else l - 1) ∧ (if l ≤ left then l else l - 1) ≤ 40 := by clear hh; split <;> omega
            rw [g34, dw (by clear hh; omega) (by clear hh; omega)] at e4
            refine ih c (l + 1) m4 v m' hh (by clear hh; omega) (by clear hh; omega) (fun k i y1 y2 => ?_) (by rw [e4, dc_up_s, en]) (fun j j0 j1 => ?_)
            · rw [e4]
              refine (if_neg y1).trans ?_
              rw [e3, dc_up_k y2]
              exact fr k i y1 y2
            · rw [en] at j1
              rw [e4, dc_up_k (by decide), e3]
              by_cases z : j = (if l ≤ left then l else l - 1)
              · rw [z, dc_up_s]
                by_cases zz : l < left
                · rw [if_pos (show l ≤ left by clear hh; omega), if_pos zz]
                · rw [if_neg (show ¬ l ≤ left by clear hh; omega), if_neg (by clear hh; omega), show l - 1 + 1 = l by clear hh; omega]
              · rw [dc_up_i z]
                exact h7 j j0 (by clear hh; omega)
  obtain ⟨m1, e1, c, hd⟩ := hd
  obtain ⟨q1, q2, q3⟩ := key (N b).toNat c 0 m1 v m' hd (by clear hd; omega) (Int.le_refl 0) (fun k i y1 _ => by rw [e1]; exact if_neg y1) (by rw [e1, dc_up_s, if_pos l0]) (fun j j0 j1 => by rw [if_pos l0] at j1; exfalso; clear hd; omega)
  clear hd
  refine ⟨⟨q2, by omega, fun j c => (V b _ c).1, fun j j0 j1 => ?_⟩, q1⟩
  rw [q3 j j0 j1]
  have jr : 0 ≤ (if j < left then j else j + 1) ∧ (if j < left then j else j + 1) < N b := by split <;> omega
  refine ⟨h.st b0 b1 jr.1 (by omega), fun c c0 c1 => ?_⟩
  rw [q1 4 _ (by omega) (by omega)]
  exact h.2.2.2 b _ c b0 b1 jr.1 jr.2 c0 c1
/-- load(box, from, n, leftOut) -/
def rx_p (from0 left j : Int) : Int := if left < from0 ∨ from0 + j < left then from0 + j else from0 + j + 1
theorem rx_load {N : Int → Int} {B : Int → Int → Int → Int} {m : dc_M} (h : bx_R N B m) (V : ∀ b k c, bx_v (B b k c)) {b f0 n left : Int} (b0 : 0 ≤ b) (b1 : b < 8) (p0 : 0 ≤ f0) (pn : 0 ≤ n) (p1 : f0 + n ≤ N b) (hl : left < f0 + n) {v : Int} {m' : dc_M} (hd : D_210 b f0 n left m v m') : r5_D (fun j c => B b (rx_p f0 left j) c) (if left < f0 then n else n - 1) m' ∧ ∀ (k : Nat) (i : Int), ¬ (k = 114 ∧ i = 41) → k ≠ 123 → m' k i = m k i := by
  have n1 := h.1 b b0 b1
  obtain ⟨q, eq⟩ : ∃ q : Int → Int, ∀ l, q l = (if left < f0 ∨ l ≤ left then l - f0 else l - f0 - 1) := ⟨_, fun _ => rfl⟩
  have qr : ∀ l, f0 ≤ l → l ≤ f0 + n → 0 ≤ q l ∧ q l ≤ 40 := fun l l0 l1 => by
    rw [eq]
    split <;> omega
  have key : ∀ c : Nat, (∀ (l : Int) (m1 : dc_M) (v : Int) (m' : dc_M), LM_210 b f0 n left c 8 l 0 m1 v m' → f0 ≤ l → l ≤ f0 + n → (∀ (k : Nat) (i : Int), ¬ (k = 114 ∧ i = 41) → k ≠ 123 → m1 k i = m k i) → m1 114 41 = q l → (∀ j c, 0 ≤ j → j < q l → 0 ≤ c → c < 20 → m1 123 (20 * j + c) = B b (rx_p f0 left j) c) → (∀ (k : Nat) (i : Int), ¬ (k = 114 ∧ i = 41) → k ≠ 123 → m' k i = m k i) ∧ m' 114 41 = q (f0 + n) ∧ ∀ j c, 0 ≤ j → j < q (f0 + n) → 0 ≤ c → c < 20 → m' 123 (20 * j + c) = B b (rx_p f0 left j) c) ∧
      (∀ (l e : Int) (m1 : dc_M) (v : Int) (m' : dc_M), LM_210 b f0 n left c 29 l e m1 v m' → f0 ≤ l → l < f0 + n → l ≠ left → 0 ≤ e → e ≤ 20 → (∀ (k : Nat) (i : Int), ¬ (k = 114 ∧ i = 41) → k ≠ 123 → m1 k i = m k i) → m1 114 41 = q l → (∀ j c, 0 ≤ j → j < q l → 0 ≤ c → c < 20 → m1 123 (20 * j + c) = B b (rx_p f0 left j) c) → (∀ c, 0 ≤ c → c < e → m1 123 (20 * q l + c) = B b l c) → (∀ (k : Nat) (i : Int), ¬ (k = 114 ∧ i = 41) → k ≠ 123 → m' k i = m k i) ∧ m' 114 41 = q (f0 + n) ∧ ∀ j c, 0 ≤ j → j < q (f0 + n) → 0 ≤ c → c < 20 → m' 123 (20 * j + c) = B b (rx_p f0 left j) c) := by
    intro c
    induction c with
    | zero => exact ⟨fun _ _ _ _ h => h.elim, fun _ _ _ _ _ h => h.elim⟩
    | succ c ih =>
      obtain ⟨ih8, ih29⟩ := ih
      refine ⟨fun l m1 v m' hh l0 l1 fr e41 hc => ?_, fun l e m1 v m' hh l0 l1 nl z0 z1 fr e41 hc he => ?_⟩
      · replace hh := lm_210_8.mp hh
        rw [dw (z := f0 + n) (by omega) (by omega), dw (z := l + 1) (by omega) (by omega)] at hh
        rcases hh with ⟨c1, -, em⟩ | ⟨c1, hh⟩
        · have el : l = f0 + n := by omega
          rw [em, ← el]
          exact ⟨fr, e41, hc⟩
        · rcases hh with ⟨c2, hh⟩ | ⟨c2, hh⟩
          · exact ih29 l 0 m1 v m' hh l0 (by clear hh; omega) c2 (Int.le_refl 0) (by decide) fr e41 hc (fun c x0 x1 => by exfalso; clear hh; omega)
          · have c2 := Classical.not_not.mp c2
            have eqq : q (l + 1) = q l := by
              rw [eq, eq, if_neg (by clear hh; omega), if_pos (by clear hh; omega)]
              clear hh; omega
            exact ih8 (l + 1) m1 v m' hh (by clear hh; omega) (by clear hh; omega) fr (by rw [eqq]; exact e41) (by rw [eqq]; exact hc)
      · have ql := qr l l0 (by omega)
        replace hh := lm_210_29.mp hh
        rw [e41, dw (z := q l + 1) (by omega) (by omega), dw (z := l + 1) (by omega) (by omega), dw (z := 40 * b) (by omega) (by omega), dw (z := 40 * b + l) (by omega) (by omega), dw (z := 20 * (40 * b + l)) (by omega) (by omega), dw (z := 20 * (40 * b + l) + e) (by omega) (by omega), dw (z := 20 * q l) (by omega) (by omega), dw (z := 20 * q l + e) (by omega) (by omega), dw (z := e + 1) (by omega) (by omega)] at hh
        rcases hh with ⟨c1, m2, e2, hh⟩ | ⟨c1, -, -, m2, e2, hh⟩
        · have ee : e = 20 := by clear hh; omega
          have eqq : q (l + 1) = q l + 1 := by
            rw [eq, eq]
            by_cases z : left < f0 ∨ l ≤ left
            · rw [if_pos z, if_pos (by clear hh; omega)]; clear hh; omega
            · rw [if_neg z, if_neg (by clear hh; omega)]; clear hh; omega
          have pl : rx_p f0 left (q l) = l := by
            unfold rx_p
            rw [eq]
            by_cases z : left < f0 ∨ l ≤ left
            · rw [if_pos z, if_pos (by clear hh; omega)]; clear hh; omega
            · rw [if_neg z, if_neg (by clear hh; omega)]; clear hh; omega
          refine ih8 (l + 1) m2 v m' hh (by clear hh; omega) (by clear hh; omega) (fun k i y1 y2 => by rw [e2]; exact (if_neg y1).trans (fr k i y1 y2)) (by rw [e2, dc_up_s, eqq]) (fun j c x0 x1 c0 c1 => ?_)
          rw [eqq] at x1
          rw [e2, dc_up_k (by decide)]
          by_cases z : j = q l
          · rw [z, pl]; exact he c c0 (by rw [ee]; exact c1)
          · exact hc j c x0 (by clear hh; omega) c0 c1
        · have g : m1 116 (20 * (40 * b + l) + e) = B b l e := by
            rw [fr 116 _ (by clear hh; omega) (by decide)]
            exact h.2 b l e b0 b1 (by clear hh; omega) (by clear hh; omega) z0 (by clear hh; omega)
          rw [g] at e2
          refine ih29 l (e + 1) m2 v m' hh l0 l1 nl (by clear hh; omega) (by clear hh; omega) (fun k i y1 y2 => by rw [e2, dc_up_k y2]; exact fr k i y1 y2) (by rw [e2, dc_up_k (by decide)]; exact e41) (fun j c x0 x1 c0 c1 => ?_) (fun c c0 c1 => ?_)
          · rw [e2, dc_up_i (by clear hh; omega)]; exact hc j c x0 x1 c0 c1
          · rw [e2]
            by_cases z : c = e
            · rw [z, dc_up_s]
            · rw [dc_up_i (by clear hh; omega)]; exact he c c0 (by clear hh; omega)
  obtain ⟨m1, e1, c, hd⟩ := hd
  have q0 : q f0 = 0 := by
    rw [eq]
    split
    · omega
    · exfalso; clear hd; omega
  have qn : q (f0 + n) = if left < f0 then n else n - 1 := by
    rw [eq]
    by_cases z : left < f0
    · rw [if_pos z, if_pos (Or.inl z)]; omega
    · rw [if_neg z, if_neg (by clear hd; omega)]; omega
  obtain ⟨r1, r2, r3⟩ := (key c).1 f0 m1 v m' hd (Int.le_refl f0) (by clear hd; omega) (fun k i y1 _ => by rw [e1]; exact if_neg y1) (by rw [e1, dc_up_s, q0]) (fun j c x0 x1 => by rw [q0] at x1; exfalso; clear hd; omega)
  clear hd
  rw [qn] at r2 r3
  have bn : 0 ≤ (if left < f0 then n else n - 1) ∧ (if left < f0 then n else n - 1) ≤ 40 := by split <;> omega
  exact ⟨⟨r2, bn, fun k c => (V b _ c).1, fun j c j0 j1 c0 c1 => r3 j c j0 j1 c0 c1⟩, r1⟩
