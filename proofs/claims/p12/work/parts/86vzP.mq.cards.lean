/-! card, cards, empty, count: in both -/
def pc_card (t : Int → Int) (n : Int) : Prop := n = 20 ∧ ∀ i, 0 ≤ i → i < 20 → bx_v (t i)
theorem pc_bit : ∀ b : Nat, b < 256 → ((sv_g (sv_u ((b : Nat) : Int) &&& sv_u (-17)) ≤ 9 ∨ sv_g (sv_u ((b : Nat) : Int) &&& sv_u (-17)) = 15) ↔ (b ≤ 31 ∧ (b % 16 ≤ 9 ∨ b % 16 = 15))) := by decide +kernel
theorem pc_v {x : Int} (h0 : 0 ≤ x) (h1 : x ≤ 255) : (sv_g (sv_u x &&& sv_u (-17)) ≤ 9 ∨ sv_g (sv_u x &&& sv_u (-17)) = 15) ↔ bx_v x := by
  have b := pc_bit x.toNat (by omega)
  rw [show ((x.toNat : Nat) : Int) = x by omega] at b
  rw [b]
  unfold bx_v
  constructor
  · intro h; omega
  · intro h; omega
theorem pc_db : ∀ b : Nat, b < 32 → dc_b ((b : Nat) : Int) = ((b : Nat) : Int) := by decide +kernel
theorem pc_b {x : Int} (h : bx_v x) : dc_b (dc_b x) = x := by
  have b := pc_db x.toNat (by have := h.1; omega)
  rw [show ((x.toNat : Nat) : Int) = x by have := h.1; omega] at b
  rw [b, b]
theorem ru_V {N : Int → Int} {B : Int → Int → Int → Int} (V : ∀ b k c, bx_v (B b k c)) {t n : Int} {P : Int → Int} (hP : ∀ i, 0 ≤ i → i < 20 * n → bx_v (P i)) : ∀ b k c, bx_v (ru_B N B t n P b k c) := fun b k c => by
  unfold ru_B
  split
  · rename_i z
    exact hP _ (by omega) (by omega)
  · exact V b k c
/-! the class -/
theorem cs_114 {m : dc_M} (ht : ∀ i, 0 ≤ m 2 i ∧ m 2 i ≤ 255) (hl : 0 ≤ m 1 1 ∧ m 1 1 ≤ 740) {v : Int} {m' : dc_M} (h : D_114 m v m') : m' = m ∧ ((v = 1 ∧ pc_card (m 2) (m 1 1)) ∨ (v = 0 ∧ ¬ pc_card (m 2) (m 1 1))) := by
  have main : ∀ (c : Nat) (l v : Int) (m' : dc_M), LM_114 c 2 l m v m' → 0 ≤ l → l ≤ m 1 1 → (∀ i, 0 ≤ i → i < l → bx_v (m 2 i)) → m' = m ∧ ((v = 1 ∧ pc_card (m 2) (m 1 1)) ∨ (v = 0 ∧ ¬ pc_card (m 2) (m 1 1))) := by
    intro c
    induction c with
    | zero => intro l v m' h; exact h.elim
    | succ c ih =>
      intro l v m' h l0 l1 hv
      replace h := lm_114_2.mp h
      rw [dw (z := l + 1) (by omega) (by omega)] at h
      rcases h with ⟨c1, ⟨c2, ev, em⟩ | ⟨c2, ev, em⟩⟩ | ⟨c1, -, h⟩
      · exact ⟨em, Or.inr ⟨ev, fun z => c2 z.1⟩⟩
      · have e : m 1 1 = 20 := Decidable.not_not.mp c2
        exact ⟨em, Or.inl ⟨ev, e, fun i i0 i1 => hv i i0 (by omega)⟩⟩
      · have q := pc_v (ht l).1 (ht l).2
        rcases h with ⟨c2, h⟩ | ⟨c2, ⟨c3, h⟩ | ⟨c3, ev, em⟩⟩
        · exact ih (l + 1) v m' h (by clear h; omega) (by clear h; omega) (fun i i0 i1 => by
            by_cases y : i = l
            · rw [y]; exact q.mp (Or.inl c2)
            · exact hv i i0 (by clear h; omega))
        · exact ih (l + 1) v m' h (by clear h; omega) (by clear h; omega) (fun i i0 i1 => by
            by_cases y : i = l
            · rw [y]; exact q.mp (Or.inr c3)
            · exact hv i i0 (by clear h; omega))
        · refine ⟨em, Or.inr ⟨ev, fun z => ?_⟩⟩
          have z1 := z.1
          have := q.mpr (z.2 l l0 (by omega))
          rcases this with y | y
          · exact c2 y
          · exact c3 y
  obtain ⟨c, h⟩ := h
  exact main c 0 v m' h (Int.le_refl 0) hl.1 (fun i i0 i1 => by omega)
theorem cs_20 {N : Int → Int} {B : Int → Int → Int → Int} {t : Int} (t0 : 0 ≤ t) (t1 : t < 8) {m0 : dc_M} (hb : bx_C N B m0) (hN : N t < 40) (hP : ∀ i, 0 ≤ i → i < 20 → bx_v (m0 2 i)) {v : Int} {m' : dc_M} (h : D_20 t m0 v m') : bx_C (ru_N N t 1) (ru_B N B t 1 (m0 2)) m' ∧ ∀ (k : Nat) (i : Int), k ≠ 4 → k ≠ 6 → m' k i = m0 k i := by
  obtain ⟨s1, s2, s3⟩ := hb.1 t t0 t1
  obtain ⟨-, v1, m1, h1, c, h⟩ := h
  rw [s1] at h1
  obtain ⟨a1, a2⟩ := bx_18 hb t0 t1 s2 hN h1
  clear h1
  rw [a1, a2] at h
  obtain ⟨p, u1, u2, u3⟩ := hb.2.1 t (N t) t0 t1 s2 hN
  have main : ∀ (f c : Nat) (l : Int) (m : dc_M) (v : Int) (m' : dc_M), LM_20 t c 15 (m0 5 (40 * t + N t)) l m v m' → 20 - l = (f : Int) → 0 ≤ l → (∀ (k : Nat) (i : Int), ¬ (k = 4 ∧ 20 * p ≤ i ∧ i < 20 * p + 20) → m k i = m0 k i) → (∀ i, 0 ≤ i → i < l → m 4 (20 * p + i) = m0 2 i) → (∀ (k : Nat) (i : Int), ¬ (k = 4 ∧ 20 * p ≤ i ∧ i < 20 * p + 20) → ¬ (k = 6 ∧ i = t) → m' k i = m0 k i) ∧ (∀ i, 0 ≤ i → i < 20 → m' 4 (20 * p + i) = m0 2 i) ∧ m' 6 t = N t + 1 := by
    intro f
    induction f with
    | zero =>
      intro c l m v m' h hf l0 fr hp
      have el : l = 20 := by omega
      rw [el] at hp
      cases c with
      | zero => exact h.elim
      | succ c =>
        replace h := lm_20_15.mp h
        rw [show m 6 t = N t from (fr 6 t (by omega)).trans s1, dw (z := N t + 1) (by omega) (by omega)] at h
        rcases h with ⟨-, -, -, m2, e2, -, em⟩ | ⟨c1, -⟩
        · rw [em]
          refine ⟨fun k i y1 y2 => ?_, fun i i0 i1 => ?_, by rw [e2, dc_up_s]⟩
          · rw [e2]
            exact (if_neg y2).trans (fr k i y1)
          · rw [e2, dc_up_k (by decide)]; exact hp i i0 i1
        · exfalso; omega
    | succ f ih =>
      intro c l m v m' h hf l0 fr hp
      cases c with
      | zero => exact h.elim
      | succ c =>
        replace h := lm_20_15.mp h
        rw [dw (z := m0 5 (40 * t + N t) + l) (by omega) (by omega), dw (z := l + 1) (by omega) (by omega), show m 2 l = m0 2 l from fr 2 l (by omega), pc_b (hP l l0 (by omega)), u1] at h
        rcases h with ⟨c1, -⟩ | ⟨c1, -, -, m2, e2, h⟩
        · exfalso; omega
        · rw [← u1] at h
          refine ih c (l + 1) m2 v m' h (by clear h; omega) (by clear h; omega) (fun k i y => ?_) (fun i i0 i1 => ?_)
          · rw [e2]
            exact (if_neg (fun z => y ⟨z.1, by clear h; omega, by clear h; omega⟩)).trans (fr k i y)
          · rw [e2]
            by_cases z : i = l
            · rw [z, dc_up_s]
            · rw [dc_up_i (by clear h; omega)]; exact hp i i0 (by clear h; omega)
  obtain ⟨r1, r2, r3⟩ := main 20 c 0 m0 v m' h (by clear h; omega) (Int.le_refl 0) (fun _ _ _ => rfl) (fun i i0 i1 => by exfalso; clear h; omega)
  clear h main
  obtain ⟨h1, h2, h3, h4⟩ := hb
  have g5 : ∀ i, m' 5 i = m0 5 i := fun i => r1 5 i (by omega) (by omega)
  refine ⟨⟨fun b b0 b1 => ?_, fun b k b0 b1 k0 k1 => ?_, fun b k j b0 b1 k0 kj j1 => ?_, fun b k d b0 b1 k0 k1 d0 d1 => ?_⟩, fun k i y1 y2 => r1 k i (by omega) (by omega)⟩
  · unfold ru_N
    by_cases z : b = t
    · rw [z, if_pos rfl]
      exact ⟨r3, by omega, by omega⟩
    · rw [if_neg z, r1 6 b (by omega) (by omega)]
      exact h1 b b0 b1
  · rw [g5]; exact h2 b k b0 b1 k0 k1
  · rw [g5, g5]; exact h3 b k j b0 b1 k0 kj j1
  · rw [g5]
    by_cases z : b = t ∧ k = N t
    · rw [z.1, z.2, u1, r2 d d0 d1]
      unfold ru_B
      rw [if_pos ⟨rfl, Int.le_refl _, by omega, d0, d1⟩, show 20 * (N t - N t) + d = d by omega]
    · have kr : k < N b := by
        unfold ru_N at k1
        by_cases y : b = t
        · rw [if_pos y] at k1
          rw [y]
          have : k ≠ N t := fun x => z ⟨y, x⟩
          omega
        · rw [if_neg y] at k1; exact k1
      have x3 := (h1 b b0 b1).2.2
      have ne : ¬ (20 * p ≤ m0 5 (40 * b + k) + d ∧ m0 5 (40 * b + k) + d < 20 * p + 20) := by
        obtain ⟨p1, v1, v2, v3⟩ := h2 b k b0 b1 k0 (by omega)
        by_cases y : b = t
        · rw [y] at v1 v2 v3 kr ⊢
          have d3 := h3 t k (N t) t0 t1 k0 kr hN
          omega
        · omega
      rw [r1 4 _ (by omega) (by omega), h4 b k d b0 b1 k0 kr d0 d1]
      unfold ru_B
      rw [if_neg (fun x => by
        have y := x.1
        rw [y] at kr
        omega)]
theorem cs_card {N : Int → Int} {B : Int → Int → Int → Int} {m : dc_M} (hb : bx_C N B m) (ht : ∀ i, 0 ≤ m 2 i ∧ m 2 i ≤ 255) (hl : 0 ≤ m 1 1 ∧ m 1 1 ≤ 740) {x v : Int} {m' : dc_M} (h : D_146 x m v m') : m' 1 1 = 0 ∧ (∀ (k : Nat) (i : Int), k ≠ 4 → k ≠ 6 → ¬ (k = 1 ∧ i = 1) → m' k i = m k i) ∧ (((0 ≤ x ∧ x < 8 ∧ N x < 40 ∧ pc_card (m 2) (m 1 1)) ∧ v = N x + 1 ∧ bx_C (ru_N N x 1) (ru_B N B x 1 (m 2)) m') ∨ (¬ (0 ≤ x ∧ x < 8 ∧ N x < 40 ∧ pc_card (m 2) (m 1 1)) ∧ v = -1 ∧ bx_C N B m')) := by
  obtain ⟨v1, m1, h1, h⟩ := h
  obtain ⟨e1, q1⟩ := ck_box h1
  clear h1
  rw [e1] at h
  have no : ∀ m2 : dc_M, m2 = dc_up m 1 1 0 → ¬ (0 ≤ x ∧ x < 8 ∧ N x < 40 ∧ pc_card (m 2) (m 1 1)) → v = -1 → m' = m2 → m' 1 1 = 0 ∧ (∀ (k : Nat) (i : Int), k ≠ 4 → k ≠ 6 → ¬ (k = 1 ∧ i = 1) → m' k i = m k i) ∧ (((0 ≤ x ∧ x < 8 ∧ N x < 40 ∧ pc_card (m 2) (m 1 1)) ∧ v = N x + 1 ∧ bx_C (ru_N N x 1) (ru_B N B x 1 (m 2)) m') ∨ (¬ (0 ≤ x ∧ x < 8 ∧ N x < 40 ∧ pc_card (m 2) (m 1 1)) ∧ v = -1 ∧ bx_C N B m')) := fun m2 e2 z ev em => by
    have f : ∀ (k : Nat) (i : Int), ¬ (k = 1 ∧ i = 1) → m' k i = m k i := fun k i y => by rw [em, e2]; exact if_neg y
    exact ⟨by rw [em, e2, dc_up_s], fun k i _ _ y => f k i y, Or.inr ⟨z, ev, hb.cg (fun k i hk => f k i (by clear h; omega))⟩⟩
  rcases h with ⟨c1, m2, e2, ev, em⟩ | ⟨c1, v2, m2, h2, h⟩
  · refine no m2 e2 (fun z => ?_) ev em
    rcases q1 with ⟨q1, -⟩ | ⟨-, q1⟩
    · omega
    · exact q1 ⟨z.1, z.2.1⟩
  · have hx : 0 ≤ x ∧ x < 8 := by
      rcases q1 with ⟨-, q1⟩ | ⟨q1, -⟩
      · exact q1
      · exact absurd q1 c1
    obtain ⟨nx, n0, n1⟩ := hb.1 x hx.1 hx.2
    obtain ⟨e2, q2⟩ := cs_114 ht hl h2
    clear h2
    rw [e2] at h
    rcases h with ⟨c2, m3, e3, ev, em⟩ | ⟨c2, v3, m3, ⟨-, h3⟩, h⟩
    · refine no m3 e3 (fun z => ?_) ev em
      rcases q2 with ⟨q2, -⟩ | ⟨-, q2⟩
      · omega
      · exact q2 z.2.2.2
    · have hc : pc_card (m 2) (m 1 1) := by
        rcases q2 with ⟨-, q2⟩ | ⟨q2, -⟩
        · exact q2
        · exact absurd q2 c2
      rw [nx] at h3
      rcases h3 with ⟨c3, ev3, em3⟩ | ⟨c3, ev3, em3⟩
      · rw [em3, ev3] at h
        rcases h with ⟨-, m4, e4, ev, em⟩ | ⟨c4, -⟩
        · exact no m4 e4 (fun z => by omega) ev em
        · exact absurd rfl c4
      · rw [em3, ev3] at h
        rcases h with ⟨c4, -⟩ | ⟨-, v4, m4, h4, m5, e5, -, ev, em⟩
        · exact absurd c4 (by decide)
        · obtain ⟨b4, f4⟩ := cs_20 hx.1 hx.2 hb (by clear h4; omega) hc.2 h4
          clear h4
          have f5 : ∀ (k : Nat) (i : Int), ¬ (k = 1 ∧ i = 1) → m' k i = m4 k i := fun k i y => by rw [em, e5]; exact if_neg y
          have b5 : bx_C (ru_N N x 1) (ru_B N B x 1 (m 2)) m' := b4.cg (fun k i hk => f5 k i (by omega))
          refine ⟨by rw [em, e5, dc_up_s], fun k i y1 y2 y3 => (f5 k i y3).trans (f4 k i y1 y2), Or.inl ⟨⟨hx.1, hx.2, by omega, hc⟩, ?_, b5⟩⟩
          rw [ev, ← em, (b5.1 x hx.1 hx.2).1]
          exact if_pos rfl
theorem cs_147 {N : Int → Int} {B : Int → Int → Int → Int} {m : dc_M} (hb : bx_C N B m) {x v : Int} {m' : dc_M} (h : D_147 x m v m') : m' = m ∧ v = if 0 ≤ x ∧ x < 8 then N x else -1 := by
  obtain ⟨v1, m1, h1, h⟩ := h
  obtain ⟨e1, q1⟩ := ck_box h1
  clear h1
  rw [e1] at h
  rcases h with ⟨c1, ev, em⟩ | ⟨c1, -, ev, em⟩
  · rcases q1 with ⟨q1, -⟩ | ⟨-, q1⟩
    · exfalso; omega
    · rw [if_neg q1]; exact ⟨em, ev⟩
  · rcases q1 with ⟨-, q1⟩ | ⟨q1, -⟩
    · rw [if_pos q1]; exact ⟨em, ev.trans (hb.1 x q1.1 q1.2).1⟩
    · exact absurd q1 c1
def bx_z (N : Int → Int) (x b : Int) : Int := if b = x then 0 else N b
theorem cs_149 {N : Int → Int} {B : Int → Int → Int → Int} {m : dc_M} (hb : bx_C N B m) {x v : Int} {m' : dc_M} (h : D_149 x m v m') : ((0 ≤ x ∧ x < 8) ∧ v = N x ∧ bx_C (bx_z N x) B m' ∧ ∀ (k : Nat) (i : Int), k ≠ 6 → m' k i = m k i) ∨ (¬ (0 ≤ x ∧ x < 8) ∧ v = -1 ∧ m' = m) := by
  obtain ⟨v1, m1, h1, h⟩ := h
  obtain ⟨e1, q1⟩ := ck_box h1
  clear h1
  rw [e1] at h
  rcases h with ⟨c1, -, -, m2, e2, ev, em⟩ | ⟨c1, ev, em⟩
  · have hx : 0 ≤ x ∧ x < 8 := by
      rcases q1 with ⟨-, q1⟩ | ⟨q1, -⟩
      · exact q1
      · exact absurd q1 c1
    obtain ⟨b1, b2, b3, b4⟩ := hb
    have f : ∀ (k : Nat) (i : Int), ¬ (k = 6 ∧ i = x) → m' k i = m k i := fun k i y => by rw [em, e2]; exact if_neg y
    refine Or.inl ⟨hx, ev.trans (b1 x hx.1 hx.2).1, ⟨fun b p0 p1 => ?_, fun b k p0 p1 k0 k1 => ?_, fun b k j p0 p1 k0 kj j1 => ?_, fun b k d p0 p1 k0 k1 d0 d1 => ?_⟩, fun k i y => f k i (fun z => y z.1)⟩
    · unfold bx_z
      by_cases z : b = x
      · rw [z, if_pos rfl, em, e2, dc_up_s]; exact ⟨rfl, Int.le_refl 0, by decide⟩
      · rw [if_neg z, f 6 b (fun y => z y.2)]; exact b1 b p0 p1
    · rw [f 5 _ (by omega)]; exact b2 b k p0 p1 k0 k1
    · rw [f 5 _ (by omega), f 5 _ (by omega)]; exact b3 b k j p0 p1 k0 kj j1
    · unfold bx_z at k1
      by_cases z : b = x
      · rw [if_pos z] at k1; exfalso; omega
      · rw [if_neg z] at k1
        rw [f 5 _ (by omega), f 4 _ (by omega)]; exact b4 b k d p0 p1 k0 k1 d0 d1
  · rcases q1 with ⟨q1, -⟩ | ⟨-, q1⟩
    · exfalso; omega
    · exact Or.inr ⟨q1, ev, em⟩
def bx_s (N : Int → Int) : Nat → Int
  | 0 => 0
  | k + 1 => bx_s N k + N ((k : Nat) : Int)
theorem bx_s_r {N : Int → Int} (h : ∀ b, 0 ≤ b → b < 8 → 0 ≤ N b ∧ N b ≤ 40) : ∀ k : Nat, k ≤ 8 → 0 ≤ bx_s N k ∧ bx_s N k ≤ 40 * ((k : Nat) : Int)
  | 0, _ => by show (0 : Int) ≤ 0 ∧ (0 : Int) ≤ 40 * 0; decide
  | k + 1, hk => by
    have := bx_s_r h k (by omega)
    have := h k (by omega) (by omega)
    show 0 ≤ bx_s N k + N ((k : Nat) : Int) ∧ bx_s N k + N ((k : Nat) : Int) ≤ 40 * ((k + 1 : Nat) : Int)
    omega
theorem cs_19 {N : Int → Int} {B : Int → Int → Int → Int} {m : dc_M} (hb : bx_C N B m) {v : Int} {m' : dc_M} (h : D_19 m v m') : m' = m ∧ v = bx_s N 8 := by
  have R := bx_s_r (N := N) (fun b b0 b1 => (hb.1 b b0 b1).2)
  have main : ∀ (c k : Nat) (v : Int) (m' : dc_M), LM_19 c 4 (bx_s N k) ((k : Nat) : Int) m v m' → k ≤ 8 → m' = m ∧ v = bx_s N 8 := by
    intro c
    induction c with
    | zero => intro k v m' h; exact h.elim
    | succ c ih =>
      intro k v m' h hk
      replace h := lm_19_4.mp h
      rcases h with ⟨c1, ev, em⟩ | ⟨c1, -, h⟩
      · have e : k = 8 := by omega
        rw [ev, e]; exact ⟨em, rfl⟩
      · have r1 := R (k + 1) (by clear h; omega)
        have e : bx_s N (k + 1) = bx_s N k + N ((k : Nat) : Int) := rfl
        rw [(hb.1 ((k : Nat) : Int) (by omega) (by omega)).1, ← e, dw (by clear h; omega) (by clear h; omega), dw (z := ((k : Nat) : Int) + 1) (by clear h; omega) (by clear h; omega), show ((k : Nat) : Int) + 1 = ((k + 1 : Nat) : Int) by omega] at h
        exact ih (k + 1) v m' h (by clear h; omega)
  obtain ⟨c, h⟩ := h
  exact main c 0 v m' h (by decide)
def ps_count (a : Int) (s t x : Int) : Int := if x = 0 then a else if x = 1 then s else if x = 2 then t else -1
theorem cs_181 {N : Int → Int} {B : Int → Int → Int → Int} {m : dc_M} (hb : bx_C N B m) {x v : Int} {m' : dc_M} (h : D_181 x m v m') : m' = m ∧ v = ps_count (m (m 0 8).toNat 2) (bx_s N 8) (m 1 1) x := by
  unfold ps_count
  rcases h with ⟨c1, ev, em⟩ | ⟨c1, ⟨c2, v2, m2, h2, ev, em⟩ | ⟨c2, ⟨c3, ev, em⟩ | ⟨c3, ev, em⟩⟩⟩
  · rw [if_pos c1]; exact ⟨em, ev⟩
  · obtain ⟨a1, a2⟩ := cs_19 hb h2
    rw [if_neg c1, if_pos c2]; exact ⟨em.trans a1, ev.trans a2⟩
  · rw [if_neg c1, if_neg c2, if_pos c3]; exact ⟨em, ev⟩
  · rw [if_neg c1, if_neg c2, if_neg c3]; exact ⟨em, ev⟩
/-! the reference -/
theorem rs_192 {N : Int → Int} {B : Int → Int → Int → Int} {m : dc_M} (hb : bx_R N B m) {x v : Int} {m' : dc_M} (h : D_192 x m v m') : (∀ (k : Nat) (i : Int), ¬ (k = 114 ∧ i = 0) → m' k i = m k i) ∧ v = if 0 ≤ x ∧ x < 8 then N x else -1 := by
  obtain ⟨m0, e0, v1, m1, h1, h⟩ := h
  have f0 : ∀ (k : Nat) (i : Int), ¬ (k = 114 ∧ i = 0) → m0 k i = m k i := fun k i z => by rw [e0]; exact if_neg z
  obtain ⟨e1, q1⟩ := rl_box h1
  clear h1
  rw [e1] at h
  rcases h with ⟨c1, ev, em⟩ | ⟨c1, -, ev, em⟩
  · rcases q1 with ⟨q1, -⟩ | ⟨-, q1⟩
    · exfalso; omega
    · rw [if_neg q1]; exact ⟨by rw [em]; exact f0, ev⟩
  · rcases q1 with ⟨-, q1⟩ | ⟨q1, -⟩
    · rw [if_pos q1]; exact ⟨by rw [em]; exact f0, by rw [ev, f0 117 x (by omega)]; exact (hb.1 x q1.1 q1.2).1⟩
    · exact absurd q1 c1
theorem rs_194 {N : Int → Int} {B : Int → Int → Int → Int} {m : dc_M} (hb : bx_R N B m) {x v : Int} {m' : dc_M} (h : D_194 x m v m') : ((0 ≤ x ∧ x < 8) ∧ v = N x ∧ bx_R (bx_z N x) B m' ∧ ∀ (k : Nat) (i : Int), k ≠ 117 → ¬ (k = 114 ∧ i = 0) → m' k i = m k i) ∨ (¬ (0 ≤ x ∧ x < 8) ∧ v = -1 ∧ ∀ (k : Nat) (i : Int), ¬ (k = 114 ∧ i = 0) → m' k i = m k i) := by
  obtain ⟨m0, e0, v1, m1, h1, h⟩ := h
  have f0 : ∀ (k : Nat) (i : Int), ¬ (k = 114 ∧ i = 0) → m0 k i = m k i := fun k i z => by rw [e0]; exact if_neg z
  obtain ⟨e1, q1⟩ := rl_box h1
  clear h1
  rw [e1] at h
  rcases h with ⟨c1, -, -, m2, e2, ev, em⟩ | ⟨c1, ev, em⟩
  · have hx : 0 ≤ x ∧ x < 8 := by
      rcases q1 with ⟨-, q1⟩ | ⟨q1, -⟩
      · exact q1
      · exact absurd q1 c1
    obtain ⟨b1, b4⟩ := hb
    have f : ∀ (k : Nat) (i : Int), ¬ (k = 117 ∧ i = x) → m' k i = m0 k i := fun k i y => by rw [em, e2]; exact if_neg y
    refine Or.inl ⟨hx, by rw [ev, f0 117 x (by omega)]; exact (b1 x hx.1 hx.2).1, ⟨fun b p0 p1 => ?_, fun b k d p0 p1 k0 k1 d0 d1 => ?_⟩, fun k i y1 y2 => (f k i (fun z => y1 z.1)).trans (f0 k i y2)⟩
    · unfold bx_z
      by_cases z : b = x
      · rw [z, if_pos rfl, em, e2, dc_up_s]; exact ⟨rfl, Int.le_refl 0, by decide⟩
      · rw [if_neg z, f 117 b (fun y => z y.2), f0 117 b (by omega)]; exact b1 b p0 p1
    · unfold bx_z at k1
      by_cases z : b = x
      · rw [if_pos z] at k1; exfalso; omega
      · rw [if_neg z] at k1
        rw [f 116 _ (by omega), f0 116 _ (by omega)]; exact b4 b k d p0 p1 k0 k1 d0 d1
  · rcases q1 with ⟨q1, -⟩ | ⟨-, q1⟩
    · exfalso; omega
    · exact Or.inr ⟨q1, ev, by rw [em]; exact f0⟩
theorem rs_282 {N : Int → Int} {B : Int → Int → Int → Int} {m : dc_M} (hb : bx_R N B m) {x v : Int} {m' : dc_M} (h : D_282 x m v m') : (∀ (k : Nat) (i : Int), ¬ (k = 114 ∧ i = 0) → m' k i = m k i) ∧ v = ps_count (m 120 0) (bx_s N 8) (m 114 2) x := by
  have R := bx_s_r (N := N) (fun b b0 b1 => (hb.1 b b0 b1).2)
  obtain ⟨m0, e0, c, h⟩ := h
  have f0 : ∀ (k : Nat) (i : Int), ¬ (k = 114 ∧ i = 0) → m0 k i = m k i := fun k i z => by rw [e0]; exact if_neg z
  have main : ∀ (c k : Nat) (v : Int) (m' : dc_M), LM_282 x c 9 (bx_s N k) ((k : Nat) : Int) m0 v m' → k ≤ 8 → m' = m0 ∧ v = ps_count (m 120 0) (bx_s N 8) (m 114 2) x := by
    intro c
    induction c with
    | zero => intro k v m' h; exact h.elim
    | succ c ih =>
      intro k v m' h hk
      replace h := lm_282_9.mp h
      rcases h with ⟨c1, h⟩ | ⟨c1, -, h⟩
      · have e : k = 8 := by clear h; omega
        rw [e] at h
        unfold ps_count
        rcases h with ⟨c2, ⟨c3, ⟨c4, ev, em⟩ | ⟨c4, ev, em⟩⟩ | ⟨c3, ev, em⟩⟩ | ⟨c2, -, ev, em⟩
        · rw [if_neg c2, if_neg c3, if_neg c4]; exact ⟨em, ev⟩
        · rw [if_neg c2, if_neg c3, if_pos (Decidable.not_not.mp c4)]; exact ⟨em, ev.trans (f0 114 2 (by decide))⟩
        · rw [if_neg c2, if_pos (Decidable.not_not.mp c3)]; exact ⟨em, ev⟩
        · rw [if_pos (Decidable.not_not.mp c2)]; exact ⟨em, ev.trans (f0 120 0 (by decide))⟩
      · have r1 := R (k + 1) (by clear h; omega)
        have e : bx_s N (k + 1) = bx_s N k + N ((k : Nat) : Int) := rfl
        rw [f0 117 _ (by omega), (hb.1 ((k : Nat) : Int) (by omega) (by omega)).1, ← e, dw (by clear h; omega) (by clear h; omega), dw (z := ((k : Nat) : Int) + 1) (by clear h; omega) (by clear h; omega), show ((k : Nat) : Int) + 1 = ((k + 1 : Nat) : Int) by omega] at h
        exact ih (k + 1) v m' h (by clear h; omega)
  obtain ⟨a1, a2⟩ := main c 0 v m' h (by decide)
  exact ⟨by rw [a1]; exact f0, a2⟩
theorem rs_card {N : Int → Int} {B : Int → Int → Int → Int} {m : dc_M} (hb : bx_R N B m) (hl : 0 ≤ m 114 2 ∧ m 114 2 ≤ 740) {x v : Int} {m' : dc_M} (h : D_191 x m v m') : m' 114 2 = 0 ∧ (∀ (k : Nat) (i : Int), k ≠ 116 → k ≠ 117 → ¬ (k = 114 ∧ (i = 0 ∨ i = 2 ∨ i = 3 ∨ i = 4)) → m' k i = m k i) ∧ (((0 ≤ x ∧ x < 8 ∧ N x < 40 ∧ pc_card (rz_t m) (m 114 2)) ∧ v = N x + 1 ∧ bx_R (ru_N N x 1) (ru_B N B x 1 (rz_t m)) m') ∨ (¬ (0 ≤ x ∧ x < 8 ∧ N x < 40 ∧ pc_card (rz_t m) (m 114 2)) ∧ v = -1 ∧ bx_R N B m')) := by
  obtain ⟨m0, e0, v1, m1, ⟨n1, d1, n2, d2, n3, d3, -, em1⟩, v2, m2, h2, h⟩ := h
  have f1 : ∀ (k : Nat) (i : Int), ¬ (k = 114 ∧ (i = 0 ∨ i = 2 ∨ i = 3 ∨ i = 4)) → m1 k i = m k i := fun k i z => by
    rw [em1, d3]
    refine (if_neg (fun w => z ⟨w.1, by omega⟩)).trans ?_
    rw [d2]
    refine (if_neg (fun w => z ⟨w.1, by omega⟩)).trans ?_
    rw [d1]
    refine (if_neg (fun w => z ⟨w.1, by omega⟩)).trans ?_
    rw [e0]
    exact if_neg (fun w => z ⟨w.1, by omega⟩)
  have l2 : m1 114 2 = 0 := by rw [em1, d3, dc_up_i (by decide), d2, dc_up_s]
  have l3 : m1 114 3 = m 114 2 := by rw [em1, d3, dc_up_i (by decide), d2, dc_up_i (by decide), d1, dc_up_s, e0, dc_up_i (by decide)]
  clear e0 d1 d2 d3 em1
  obtain ⟨e2, q2⟩ := rl_box h2
  clear h2
  rw [e2] at h
  have et : ∀ i, rz_t m1 i = rz_t m i := fun i => by unfold rz_t; rw [f1 115 i (by omega)]
  have no : ¬ (0 ≤ x ∧ x < 8 ∧ N x < 40 ∧ pc_card (rz_t m) (m 114 2)) → v = -1 → m' = m1 → m' 114 2 = 0 ∧ (∀ (k : Nat) (i : Int), k ≠ 116 → k ≠ 117 → ¬ (k = 114 ∧ (i = 0 ∨ i = 2 ∨ i = 3 ∨ i = 4)) → m' k i = m k i) ∧ (((0 ≤ x ∧ x < 8 ∧ N x < 40 ∧ pc_card (rz_t m) (m 114 2)) ∧ v = N x + 1 ∧ bx_R (ru_N N x 1) (ru_B N B x 1 (rz_t m)) m') ∨ (¬ (0 ≤ x ∧ x < 8 ∧ N x < 40 ∧ pc_card (rz_t m) (m 114 2)) ∧ v = -1 ∧ bx_R N B m')) := fun z ev em => by
    rw [em]
    exact ⟨l2, fun k i _ _ y => f1 k i y, Or.inr ⟨z, ev, hb.cg (fun k i hk => f1 k i (by clear h; omega))⟩⟩
  rcases h with ⟨c1, ev, em⟩ | ⟨c1, -, h⟩
  · refine no (fun z => ?_) ev em
    rcases q2 with ⟨q1, -⟩ | ⟨-, q1⟩
    · omega
    · exact q1 ⟨z.1, z.2.1⟩
  · have hx : 0 ≤ x ∧ x < 8 := by
      rcases q2 with ⟨-, q1⟩ | ⟨q1, -⟩
      · exact q1
      · exact absurd q1 c1
    have b1 : bx_R N B m1 := hb.cg (fun k i hk => f1 k i (by clear h; omega))
    obtain ⟨nx, n0, n40⟩ := b1.1 x hx.1 hx.2
    rw [nx, l3] at h
    rcases h with ⟨c2, ev, em⟩ | ⟨c2, ⟨c3, c, h⟩ | ⟨c3, ev, em⟩⟩
    · exact no (fun z => by omega) ev em
    · have yes : (∀ i, 0 ≤ i → i < 20 → bx_v (rz_t m i)) → pc_card (rz_t m) (m 114 2) := fun w => ⟨c3, w⟩
      have cp : ∀ (f c : Nat) (l : Int) (n : dc_M) (v : Int) (m' : dc_M), LM_191 x c 92 l n v m' → 20 - l = (f : Int) → 0 ≤ l → (∀ (k : Nat) (i : Int), ¬ (k = 116 ∧ 20 * (40 * x + N x) ≤ i ∧ i < 20 * (40 * x + N x) + 20) → n k i = m1 k i) → (∀ i, 0 ≤ i → i < l → n 116 (20 * (40 * x + N x) + i) = rz_t m i) → v = N x + 1 ∧ (∀ (k : Nat) (i : Int), ¬ (k = 116 ∧ 20 * (40 * x + N x) ≤ i ∧ i < 20 * (40 * x + N x) + 20) → ¬ (k = 117 ∧ i = x) → m' k i = m1 k i) ∧ (∀ i, 0 ≤ i → i < 20 → m' 116 (20 * (40 * x + N x) + i) = rz_t m i) ∧ m' 117 x = N x + 1 := by
        intro f
        induction f with
        | zero =>
          intro c l n v m' h hf l0 fr hp
          have el : l = 20 := by omega
          rw [el] at hp
          cases c with
          | zero => exact h.elim
          | succ c =>
            replace h := lm_191_92.mp h
            rw [show n 117 x = N x from (fr 117 x (by omega)).trans nx, dw (z := N x + 1) (by omega) (by omega)] at h
            rcases h with ⟨-, -, -, m2, e2, -, ev, em⟩ | ⟨c1, -⟩
            · have e : m' 117 x = N x + 1 := by rw [em, e2, dc_up_s]
              refine ⟨by rw [ev, ← em]; exact e, fun k i y1 y2 => ?_, fun i i0 i1 => ?_, e⟩
              · rw [em, e2]
                exact (if_neg y2).trans (fr k i y1)
              · rw [em, e2, dc_up_k (by decide)]; exact hp i i0 i1
            · exfalso; omega
        | succ f ih =>
          intro c l n v m' h hf l0 fr hp
          cases c with
          | zero => exact h.elim
          | succ c =>
            replace h := lm_191_92.mp h
            rw [show n 117 x = N x from (fr 117 x (by omega)).trans nx, dw (z := 40 * x) (by omega) (by omega), dw (z := 40 * x + N x) (by omega) (by omega), dw (z := 20 * (40 * x + N x)) (by omega) (by omega), dw (z := 20 * (40 * x + N x) + l) (by omega) (by omega), dw (z := l + 1) (by omega) (by omega)] at h
            rcases h with ⟨c1, -⟩ | ⟨c1, -, v2, m2, ⟨-, ev2, em2⟩, -, m3, e3, h⟩
            · exfalso; omega
            · have ev2 : v2 = rz_t m l := by
                have : v2 = rz_t n l := ev2
                rw [this]
                unfold rz_t
                rw [fr 115 l (by omega), f1 115 l (by omega)]
              rw [em2, ev2] at e3
              refine ih c (l + 1) m3 v m' h (by clear h; omega) (by clear h; omega) (fun k i y => ?_) (fun i i0 i1 => ?_)
              · rw [e3]
                exact (if_neg (fun z => y ⟨z.1, by clear h; omega, by clear h; omega⟩)).trans (fr k i y)
              · rw [e3]
                by_cases z : i = l
                · rw [z, dc_up_s]
                · rw [dc_up_i (by clear h; omega)]; exact hp i i0 (by clear h; omega)
      have main : ∀ (c : Nat) (l v : Int) (m' : dc_M), LM_191 x c 40 l m1 v m' → 0 ≤ l → l ≤ 20 → (∀ i, 0 ≤ i → i < l → bx_v (rz_t m i)) → ((∃ i, 0 ≤ i ∧ i < 20 ∧ ¬ bx_v (rz_t m i)) ∧ v = -1 ∧ m' = m1) ∨ ((∀ i, 0 ≤ i → i < 20 → bx_v (rz_t m i)) ∧ ∃ c, LM_191 x c 92 0 m1 v m') := by
        intro c
        induction c with
        | zero => intro l v m' h; exact h.elim
        | succ c ih =>
          intro l v m' h l0 l1 hv
          replace h := lm_191_40.mp h
          rw [dw (z := l + 1) (by omega) (by omega)] at h
          rcases h with ⟨c1, h⟩ | ⟨c1, v2, m2, ⟨-, ev2, em2⟩, h⟩
          · exact Or.inr ⟨fun i i0 i1 => hv i i0 (by clear h; omega), c, h⟩
          · have ev2 : v2 = rz_t m l := by rw [← et l]; exact ev2
            have r := rz_t_r (m := m) (i := l)
            rw [em2, ev2] at h
            rcases h with ⟨c2, ev, em⟩ | ⟨c2, v3, m3, ⟨-, ev3, em3⟩, h⟩
            · exact Or.inl ⟨⟨l, l0, by omega, fun z => by have := z.1.2; omega⟩, ev, em⟩
            · have ev3 : v3 = rz_t m l := by rw [← et l]; exact ev3
              rw [em3, ev3, drm r.1] at h
              rcases h with ⟨c3, h⟩ | ⟨c3, v4, m4, ⟨-, ev4, em4⟩, h⟩
              · exact ih (l + 1) v m' h (by clear h; omega) (by clear h; omega) (fun i i0 i1 => by
                  by_cases y : i = l
                  · rw [y]; exact ⟨⟨r.1, by clear h; omega⟩, Or.inl c3⟩
                  · exact hv i i0 (by clear h; omega))
              · have ev4 : v4 = rz_t m l := by rw [← et l]; exact ev4
                rw [em4, ev4, drm r.1] at h
                rcases h with ⟨c4, h⟩ | ⟨c4, ev, em⟩
                · exact ih (l + 1) v m' h (by clear h; omega) (by clear h; omega) (fun i i0 i1 => by
                    by_cases y : i = l
                    · rw [y]; exact ⟨⟨r.1, by clear h; omega⟩, Or.inr c4⟩
                    · exact hv i i0 (by clear h; omega))
                · exact Or.inl ⟨⟨l, l0, by omega, fun z => by
                    rcases z.2 with y | y
                    · exact c3 y
                    · exact c4 y⟩, ev, em⟩
      rcases main c 0 v m' h (Int.le_refl 0) (by decide) (fun i i0 i1 => by omega) with ⟨⟨i, i0, i1, hi⟩, ev, em⟩ | ⟨hv, c', h'⟩
      · exact no (fun z => hi (z.2.2.2.2 i i0 i1)) ev em
      · obtain ⟨ev, r1, r2, r3⟩ := cp 20 c' 0 m1 v m' h' (by clear h h'; omega) (Int.le_refl 0) (fun _ _ _ => rfl) (fun i i0 i1 => by exfalso; clear h h'; omega)
        clear h h' main cp
        refine ⟨(r1 114 2 (by omega) (by omega)).trans l2, fun k i y1 y2 y3 => (r1 k i (by omega) (by omega)).trans (f1 k i y3), Or.inl ⟨⟨hx.1, hx.2, by omega, yes hv⟩, ev, fun b p0 p1 => ?_, fun b k d p0 p1 k0 k1 d0 d1 => ?_⟩⟩
        · unfold ru_N
          by_cases z : b = x
          · rw [z, if_pos rfl]; exact ⟨r3, by omega, by omega⟩
          · rw [if_neg z, r1 117 b (by omega) (by omega)]; exact b1.1 b p0 p1
        · unfold ru_N at k1
          unfold ru_B
          by_cases z : b = x ∧ N x ≤ k ∧ k < N x + 1 ∧ 0 ≤ d ∧ d < 20
          · rw [if_pos z, z.1, show k = N x by omega, r2 d d0 d1, show 20 * (N x - N x) + d = d by omega]
          · rw [if_neg z]
            have kb : k < N b := by
              by_cases y : b = x
              · rw [if_pos y] at k1
                rw [y]
                refine Classical.byContradiction fun w => z ⟨y, by omega, k1, d0, d1⟩
              · rw [if_neg y] at k1; exact k1
            have nb := (b1.1 b p0 p1).2.2
            rw [r1 116 _ (fun w => by
              by_cases y : b = x
              · rw [y] at kb w; omega
              · omega) (by omega)]
            exact b1.2 b k d p0 p1 k0 kb d0 d1
    · exact no (fun z => c3 z.2.2.2.1) ev em
