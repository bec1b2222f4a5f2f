/-! TESTS: the reference -/
/-- the sets from s on -/
theorem rt_162 {x : Int} {K : Nat → Nat} (hK : ∀ k, K k < 2 ^ 60) {n : Nat} (hn : n < 11) : ∀ c : Nat, (∀ (s : Nat) (l5 : Int) (m : dc_M) (v : Int) (m' : dc_M), LM_240 x c 162 ((n : Nat) : Int) (tt_a K n) l5 ((s : Nat) : Int) 0 0 m v m' → s ≤ 2 ^ n → (∀ j : Nat, j < n → m 147 ((j : Nat) : Int) = ((K j : Nat) : Int)) → ((l5 = -1 ∧ tt_b K n s = 2 ^ n - 1 ∧ s ≤ 2 ^ n - 1) ∨ (l5 = ((pb_s 8 (tt_b K n s) : Nat) : Int) ∧ m 114 56 = ((tt_b K n s : Nat) : Int))) → v = ((pb_s 8 (tt_b K n (2 ^ n)) : Nat) : Int) ∧ m' 114 56 = ((tt_b K n (2 ^ n) : Nat) : Int) ∧ m' 114 57 = ((pb_s 8 (tt_a K n) : Nat) : Int) ∧ ∀ (k : Nat) (i : Int), ¬ (k = 114 ∧ (i = 56 ∨ i = 57)) → m' k i = m k i) ∧
    (∀ (s k : Nat) (l5 : Int) (m : dc_M) (v : Int) (m' : dc_M), LM_240 x c 195 ((n : Nat) : Int) (tt_a K n) l5 ((s : Nat) : Int) (tt_u K s k) ((k : Nat) : Int) m v m' → s < 2 ^ n → k ≤ n → (∀ j : Nat, j < n → m 147 ((j : Nat) : Int) = ((K j : Nat) : Int)) → ((l5 = -1 ∧ tt_b K n s = 2 ^ n - 1 ∧ s ≤ 2 ^ n - 1) ∨ (l5 = ((pb_s 8 (tt_b K n s) : Nat) : Int) ∧ m 114 56 = ((tt_b K n s : Nat) : Int) ∧ pb_s 8 s < pb_s 8 (tt_b K n s))) → v = ((pb_s 8 (tt_b K n (2 ^ n)) : Nat) : Int) ∧ m' 114 56 = ((tt_b K n (2 ^ n) : Nat) : Int) ∧ m' 114 57 = ((pb_s 8 (tt_a K n) : Nat) : Int) ∧ ∀ (k : Nat) (i : Int), ¬ (k = 114 ∧ (i = 56 ∨ i = 57)) → m' k i = m k i) := by
  have f3 := tt_f3 n hn
  intro c
  induction c with
  | zero => exact ⟨fun s l5 m v m' h => h.elim, fun s k l5 m v m' h => h.elim⟩
  | succ c ih =>
    obtain ⟨ih1, ih2⟩ := ih
    refine ⟨fun s l5 m v m' h hs h47 inv => ?_, fun s k l5 m v m' h hs hk h47 inv => ?_⟩
    · replace h := lm_240_162.mp h
      rw [f3.1, dw (z := ((s : Nat) : Int) + 1) (by omega) (by omega), show ((s : Nat) : Int) + 1 = ((s + 1 : Nat) : Int) by omega] at h
      rcases h with ⟨c1, v2, m2, h2, m3, e3, ev, em⟩ | ⟨c1, h⟩
      · have es : s = 2 ^ n := by omega
        obtain ⟨a2, b2⟩ := pb_232 (Nat.lt_trans (tt_a_lt hK n) (by decide)) h2
        subst b2
        rcases inv with ⟨-, -, z⟩ | ⟨i1, i2⟩
        · exfalso; clear h2; omega
        · rw [es] at i1 i2
          refine ⟨ev.trans i1, ?_, ?_, fun k i z => ?_⟩
          · rw [em, e3, dc_up_i (by decide)]; exact i2
          · rw [em, e3, dc_up_s]; exact a2
          · rw [em, e3]; exact if_neg (fun w => z ⟨w.1, Or.inr w.2⟩)
      · have s1 : s < 1024 := by omega
        rw [tt_f4 s s1] at h
        rcases h with ⟨c2, h⟩ | ⟨c2, v2, m2, h2, h⟩
        · refine ih2 s 0 l5 m v m' h (by clear h; omega) (Nat.zero_le _) h47 ?_
          rcases inv with i | ⟨i1, i2⟩
          · exact Or.inl i
          · exfalso; clear h; omega
        · obtain ⟨a2, b2⟩ := pb_232 (by clear h h2; omega) h2
          subst b2
          rcases inv with ⟨i, -⟩ | ⟨i1, i2⟩
          · exfalso; clear h h2; omega
          · rw [a2, i1] at h
            rcases h with ⟨c3, h⟩ | ⟨c3, h⟩
            · exact ih2 s 0 _ m2 v m' h (by clear h h2; omega) (Nat.zero_le _) h47 (Or.inr ⟨rfl, i2, by clear h h2; omega⟩)
            · have e : tt_b K n (s + 1) = tt_b K n s := tt_b_n1 (by clear h h2; omega)
              exact ih1 (s + 1) _ m2 v m' h (by clear h h2; omega) h47 (Or.inr ⟨by rw [e], by rw [e]; exact i2⟩)
    · have s1 : s < 1024 := by omega
      replace h := lm_240_195.mp h
      rw [dw (z := ((s : Nat) : Int) + 1) (by omega) (by omega), show ((s : Nat) : Int) + 1 = ((s + 1 : Nat) : Int) by omega, dw (z := ((k : Nat) : Int) + 1) (by omega) (by omega), show ((k : Nat) : Int) + 1 = ((k + 1 : Nat) : Int) by omega, tt_f4 s s1] at h
      rcases h with ⟨c1, h⟩ | ⟨c1, h⟩
      · have ek : k = n := by clear h; omega
        subst ek
        have ul := tt_u_lt (s := s) hK k
        have al := tt_a_lt hK k
        have z := rz_lz (Y := tt_u K s k) (K := tt_a K k) (Nat.lt_trans ul (by decide)) (Nat.lt_trans al (by decide))
        rcases h with ⟨c2, v2, m2, h2, m3, e3, h⟩ | ⟨c2, h⟩
        · obtain ⟨a2, b2⟩ := pb_232 (by clear h h2 z; omega) h2
          subst b2
          have y := z.mp c2
          have e : tt_b K k (s + 1) = s := by
            rcases inv with ⟨-, i1, i2⟩ | ⟨-, -, i3⟩
            · by_cases w : s = 2 ^ k - 1
              · rw [tt_b_n1 (by rw [i1, w]; exact Nat.lt_irrefl _), i1, w]
              · exact tt_b_s (by rw [i1]; exact tt_f2 k hn s (by clear h h2 z; omega)) y
            · exact tt_b_s i3 y
          rw [a2] at h
          have F3 : ∀ (q : Nat) (i : Int), ¬ (q = 114 ∧ i = 56) → m3 q i = m2 q i := fun q i w => by rw [e3]; exact if_neg w
          obtain ⟨r1, r2, r3, r4⟩ := ih1 (s + 1) _ m3 v m' h (by clear h h2 z; omega) (fun j hj => (F3 147 _ (fun u => absurd u.1 (by decide))).trans (h47 j hj)) (Or.inr ⟨by rw [e], by rw [e, e3, dc_up_s]⟩)
          exact ⟨r1, r2, r3, fun q i w => (r4 q i w).trans (F3 q i (fun u => w ⟨u.1, Or.inl u.2⟩))⟩
        · have ne : tt_u K s k ≠ tt_a K k := fun y => c2 (z.mpr y)
          have e : tt_b K k (s + 1) = tt_b K k s := tt_b_n2 ne
          refine ih1 (s + 1) _ m v m' h (by clear h z; omega) h47 ?_
          rcases inv with ⟨i0, i1, i2⟩ | ⟨i1, i2, -⟩
          · refine Or.inl ⟨i0, by rw [e]; exact i1, ?_⟩
            have w : s ≠ 2 ^ k - 1 := fun w => ne (by rw [w]; exact tt_u_full hn k (Nat.le_refl k))
            clear h z
            omega
          · exact Or.inr ⟨by rw [e]; exact i1, by rw [e]; exact i2⟩
      · rw [tt_f5 s s1 k (by clear h; omega), h47 k (by clear h; omega), Int.toNat_natCast] at h
        rcases h with ⟨c2, h⟩ | ⟨c2, -, h⟩
        · have z : ¬ s / 2 ^ k % 2 = 1 := fun z => by
            rw [if_pos z] at c2
            exact absurd rfl c2
          have e : tt_u K s (k + 1) = tt_u K s k := if_neg z
          have e0 : Nat.lor (tt_u K s k) 0 = tt_u K s k := Nat.or_zero _
          rw [e0] at h
          exact ih2 s (k + 1) l5 m v m' (by rw [e]; exact h) hs (by clear h; omega) h47 inv
        · have z : s / 2 ^ k % 2 = 1 := by
            by_cases z : s / 2 ^ k % 2 = 1
            · exact z
            · rw [if_neg z] at c2
              exact absurd (by decide) c2
          have e : tt_u K s (k + 1) = Nat.lor (tt_u K s k) (K k) := if_pos z
          exact ih2 s (k + 1) l5 m v m' (by rw [e]; exact h) hs (by clear h; omega) h47 inv
theorem rt_full {K : Nat → Nat} {n : Nat} (hn : n < 11) : tt_b K n (2 ^ n) = tt_b K n (2 ^ n - 1) := by
  have f3 := tt_f3 n hn
  have le := tt_b_le (K := K) (n := n) (2 ^ n - 1) (by omega)
  have e : tt_b K n (2 ^ n - 1 + 1) = tt_b K n (2 ^ n - 1) := tt_b_n1 (fun z => by
    by_cases w : tt_b K n (2 ^ n - 1) = 2 ^ n - 1
    · rw [w] at z; exact absurd z (Nat.lt_irrefl _)
    · have := tt_f2 n hn (tt_b K n (2 ^ n - 1)) (by omega)
      omega)
  rw [show 2 ^ n - 1 + 1 = 2 ^ n by omega] at e
  exact e
def rt_t (k : Nat) (i : Int) : Prop := (k = 114 ∧ (i = 41 ∨ i = 42 ∨ i = 43)) ∨ (123 ≤ k ∧ k ≤ 129) ∨ mr_s 0 k i ∨ mr_s 2 k i ∨ k = 147
def rt_f (k : Nat) (i : Int) : Prop := (k = 114 ∧ (i = 0 ∨ i = 41 ∨ i = 42 ∨ i = 43 ∨ i = 56 ∨ i = 57)) ∨ (123 ≤ k ∧ k ≤ 129) ∨ mr_s 0 k i ∨ mr_s 2 k i ∨ k = 147
theorem rt_tf {k : Nat} {i : Int} (h : rt_t k i) : rt_f k i := by
  unfold rt_t at h
  unfold rt_f
  rcases h with h | h
  · exact Or.inl (by omega)
  · exact Or.inr h
/-- the cards from k on; the WIRES from l on -/
theorem rt_42 {N : Int → Int} {B : Int → Int → Int → Int} (V : ∀ b k c, bx_v (B b k c)) {W : List (Int × Int)} {x : Int} (hx : 0 ≤ x ∧ x < 8) {m0 : dc_M} (hb : bx_R N B m0) (hV : rz_V m0 0 W) {n : Nat} (hn : n < 11) (hnN : ((n : Nat) : Int) ≤ N x) : ∀ c : Nat, (∀ (k : Nat) (m : dc_M) (v : Int) (m' : dc_M), LM_240 x c 42 ((n : Nat) : Int) (tt_a (tt_K W (B x)) k) ((k : Nat) : Int) 0 0 0 m v m' → k ≤ n → (∀ j : Nat, j < k → m 147 ((j : Nat) : Int) = ((tt_K W (B x) j : Nat) : Int)) → (∀ (q : Nat) (i : Int), ¬ rt_t q i → m q i = m0 q i) → v = ((pb_s 8 (tt_b (tt_K W (B x)) n (2 ^ n - 1)) : Nat) : Int) ∧ m' 114 56 = ((tt_b (tt_K W (B x)) n (2 ^ n - 1) : Nat) : Int) ∧ m' 114 57 = ((pb_s 8 (tt_a (tt_K W (B x)) n) : Nat) : Int) ∧ ∀ (q : Nat) (i : Int), ¬ rt_f q i → m' q i = m0 q i) ∧
    (∀ (k l : Nat) (m : dc_M) (v : Int) (m' : dc_M), LM_240 x c 84 ((n : Nat) : Int) (tt_a (tt_K W (B x)) k) ((k : Nat) : Int) ((l : Nat) : Int) 0 0 m v m' → k < n → l ≤ W.length → (∀ j : Nat, j < k → m 147 ((j : Nat) : Int) = ((tt_K W (B x) j : Nat) : Int)) → m 147 ((k : Nat) : Int) = ((tt_k (tt_P W (tt_d (B x) ((k : Nat) : Int)) 1) l : Nat) : Int) → r5_D (tt_d (B x) ((k : Nat) : Int)) 1 m → mr_O 2 m (mp_play W (-1) (tt_d (B x) ((k : Nat) : Int)) 1 40) → (∀ (q : Nat) (i : Int), ¬ rt_t q i → m q i = m0 q i) → v = ((pb_s 8 (tt_b (tt_K W (B x)) n (2 ^ n - 1)) : Nat) : Int) ∧ m' 114 56 = ((tt_b (tt_K W (B x)) n (2 ^ n - 1) : Nat) : Int) ∧ m' 114 57 = ((pb_s 8 (tt_a (tt_K W (B x)) n) : Nat) : Int) ∧ ∀ (q : Nat) (i : Int), ¬ rt_f q i → m' q i = m0 q i) := by
  have h60 := hV.2.1
  have hK : ∀ k, tt_K W (B x) k < 2 ^ 60 := fun k => tt_60 h60 (tt_k_lt _)
  have f3 := tt_f3 n hn
  have full := rt_full (K := tt_K W (B x)) hn
  intro c
  induction c with
  | zero => exact ⟨fun k m v m' h => h.elim, fun k l m v m' h => h.elim⟩
  | succ c ih =>
    obtain ⟨ih1, ih2⟩ := ih
    refine ⟨fun k m v m' h hk h47 fr => ?_, fun k l m v m' h hk hl h47 e47 D O fr => ?_⟩
    · replace h := lm_240_42.mp h
      rcases h with ⟨c1, m2, e2, h⟩ | ⟨c1, m2, e2, v3, m3, h3, v4, m4, h4, v5, m5, h5, -, m6, e6, h⟩
      · have ek : k = n := by clear h; omega
        subst ek
        have F2 : ∀ (q : Nat) (i : Int), ¬ (q = 114 ∧ i = 42) → m2 q i = m q i := fun q i w => by rw [e2]; exact if_neg w
        obtain ⟨r1, r2, r3, r4⟩ := (rt_162 hK hn c).1 0 (-1) m2 v m' h (Nat.zero_le _) (fun j hj => (F2 147 _ (fun u => absurd u.1 (by decide))).trans (h47 j hj)) (Or.inl ⟨rfl, rfl, Nat.zero_le _⟩)
        rw [full] at r1 r2
        exact ⟨r1, r2, r3, fun q i w => (r4 q i (fun u => w (by unfold rt_f; exact Or.inl ⟨u.1, by clear h; omega⟩))).trans ((F2 q i (fun u => w (by unfold rt_f; exact Or.inl ⟨u.1, by clear h; omega⟩))).trans (fr q i (fun u => w (rt_tf u))))⟩
      · have F2 : ∀ (q : Nat) (i : Int), ¬ (q = 114 ∧ i = 42) → m2 q i = m q i := fun q i w => by rw [e2]; exact if_neg w
        have g2 : ∀ (q : Nat) (i : Int), ¬ rt_t q i → m2 q i = m0 q i := fun q i w => (F2 q i (fun u => w (Or.inl ⟨u.1, Or.inr (Or.inl u.2)⟩))).trans (fr q i w)
        have b2 : bx_R N B m2 := hb.cg (fun q i hq => g2 q i (by unfold rt_t mr_s; clear h h3 h4 h5; omega))
        have V2 : rz_V m2 0 W := rm_V hV (fun q i hq => g2 q i (by unfold rt_t mr_s; clear h h3 h4 h5; omega))
        have e42 : m2 114 42 = -1 := by rw [e2, dc_up_s]
        obtain ⟨D5, O5, f5⟩ := rm_first V b2 V2 hx e42 (f0 := ((k : Nat) : Int)) (n := 1) (left := -1) (by omega) (by decide) (by clear h h3 h4 h5; omega) (by omega) h3 h4 h5
        clear h3 h4 h5
        have F6 : ∀ (q : Nat) (i : Int), q ≠ 147 → m6 q i = m5 q i := fun q i w => by rw [e6, dc_up_k w]
        have K0 := mp_play.K (W := W) (w := -1) (dk := tt_d (B x) ((k : Nat) : Int)) (n := 1) (room := 40) (by decide) (by decide)
        have G5 : ∀ (q : Nat) (i : Int), ¬ rt_t q i → m5 q i = m0 q i := fun q i w => by
          have w' := w
          unfold rt_t at w'
          rw [f5 q i (fun u => w (by
            unfold rm_t at u
            unfold rt_t
            rcases u with u | u | u
            · exact Or.inl (by clear h; omega)
            · exact Or.inr (Or.inl (by clear h; omega))
            · exact Or.inr (Or.inr (Or.inl u)))) (fun u => w (Or.inl ⟨u.1, Or.inl u.2⟩)) (fun u => w (Or.inr (Or.inl (by clear h; omega)))) (fun u => w (Or.inr (Or.inr (Or.inr (Or.inl u)))))]
          exact g2 q i w
        refine ih2 k 0 m6 v m' h (by clear h; omega) (Nat.zero_le _) (fun j hj => ?_) (by rw [e6, dc_up_s]; rfl) (D5.cg (F6 114 41 (by decide)) (fun i => F6 123 i (by decide))) (O5.cg K0.1.1.2 K0.1.2.1.2 (fun q i z => F6 q i (by unfold mr_s at z; clear h; omega))) (fun q i w => (F6 q i (fun u => w (Or.inr (Or.inr (Or.inr (Or.inr u)))))).trans (G5 q i w))
        rw [e6, dc_up_i (by clear h; omega), f5 147 _ (by unfold rm_t mr_s; clear h; omega) (by clear h; omega) (by clear h; omega) (by unfold mr_s; clear h; omega), F2 147 _ (fun u => absurd u.1 (by decide))]
        exact h47 j hj
    · have K0 := mp_play.K (W := W) (w := -1) (dk := tt_d (B x) ((k : Nat) : Int)) (n := 1) (room := 40) (by decide) (by decide)
      replace h := lm_240_84.mp h
      rw [show m 120 0 = (W.length : Int) from (fr 120 0 (by unfold rt_t mr_s; omega)).trans hV.1, dw (z := ((k : Nat) : Int) + 1) (by omega) (by omega), show ((k : Nat) : Int) + 1 = ((k + 1 : Nat) : Int) by omega, dw (z := ((l : Nat) : Int) + 1) (by omega) (by omega), show ((l : Nat) : Int) + 1 = ((l + 1 : Nat) : Int) by omega] at h
      obtain ⟨-, h⟩ := h
      rcases h with ⟨c1, -, h⟩ | ⟨c1, m2, e2, v3, m3, h3, v4, m4, h4, h⟩
      · have el : l = W.length := by clear h; omega
        rw [el] at e47
        have e47 : m 147 ((k : Nat) : Int) = ((tt_K W (B x) k : Nat) : Int) := e47
        rw [e47, Int.toNat_natCast] at h
        refine ih1 (k + 1) m v m' h (by clear h; omega) (fun j hj => ?_) fr
        by_cases z : j = k
        · rw [z]; exact e47
        · exact h47 j (by clear h; omega)
      · have F2 : ∀ (q : Nat) (i : Int), ¬ (q = 114 ∧ i = 42) → m2 q i = m q i := fun q i w => by rw [e2]; exact if_neg w
        have g2 : ∀ (q : Nat) (i : Int), ¬ rt_t q i → m2 q i = m0 q i := fun q i w => (F2 q i (fun u => w (Or.inl ⟨u.1, Or.inr (Or.inl u.2)⟩))).trans (fr q i w)
        have V2 : rz_V m2 0 W := rm_V hV (fun q i hq => g2 q i (by unfold rt_t mr_s; clear h h3 h4; omega))
        have D2 : r5_D (tt_d (B x) ((k : Nat) : Int)) 1 m2 := D.cg (F2 114 41 (by decide)) (fun i => F2 123 i (fun u => absurd u.1 (by decide)))
        obtain ⟨O3, E3, K3, f3'⟩ := r7_play h3 V2 (w := ((l : Nat) : Int)) (by rw [e2, dc_up_s]) D2 (by decide)
        clear h3
        have k1 := K3.1.1
        have k2 := K3.1.2.1
        have ms : ∀ (q : Nat) (i : Int), ¬ (q = 114 ∧ i = 43) → ¬ (124 ≤ q ∧ q ≤ 129) → ¬ mr_s 0 q i → m3 q i = m2 q i := fun q i w1 w2 w3 => f3' q i (fun u => by
          rcases mr_t_s u with u | u | u
          · exact w1 u
          · exact w2 u
          · exact w3 u)
        have g3 : ∀ (q : Nat) (i : Int), ¬ rt_t q i → m3 q i = m0 q i := fun q i w => (ms q i (fun u => w (Or.inl ⟨u.1, Or.inr (Or.inr u.2)⟩)) (fun u => w (Or.inr (Or.inl (by clear h h4; omega)))) (fun u => w (Or.inr (Or.inr (Or.inl u))))).trans (g2 q i w)
        have O2 : mr_O 2 m3 (mp_play W (-1) (tt_d (B x) ((k : Nat) : Int)) 1 40) := O.cg K0.1.1.2 (by have := K0.1.2.1; clear h h4; omega) (fun q i z => (ms q i (by unfold mr_s at z; clear h h4; omega) (by unfold mr_s at z; clear h h4; omega) (by unfold mr_s at z ⊢; clear h h4; omega)).trans (F2 q i (by unfold mr_s at z; clear h h4; omega)))
        obtain ⟨e4, q⟩ := rk_224 O3 E3 O2 k1 k2 h4
        clear h4
        rw [e4] at h
        have q47 : ∀ i, m3 147 i = m 147 i := fun i => (ms 147 i (by omega) (by omega) (by unfold mr_s; omega)).trans (F2 147 i (by omega))
        have D3 : r5_D (tt_d (B x) ((k : Nat) : Int)) 1 m3 := D2.cg (ms 114 41 (by omega) (by omega) (by unfold mr_s; omega)) (fun i => ms 123 i (by omega) (by omega) (by unfold mr_s; omega))
        rcases h with ⟨c2, h⟩ | ⟨c2, -, -, -, m5, e5, h⟩
        · have z : tt_P W (tt_d (B x) ((k : Nat) : Int)) 1 ((l : Nat) : Int) := by
            rcases q with ⟨-, q⟩ | ⟨q, -⟩
            · exact q
            · exact absurd q c2
          exact ih2 k (l + 1) m3 v m' h hk (by clear h; omega) (fun j hj => (q47 _).trans (h47 j hj)) (by rw [tt_k_y z, q47]; exact e47) D3 O2 g3
        · have z : ¬ tt_P W (tt_d (B x) ((k : Nat) : Int)) 1 ((l : Nat) : Int) := by
            rcases q with ⟨q, -⟩ | ⟨-, q⟩
            · exfalso; clear h; omega
            · exact q
          rw [q47, e47, Int.toNat_natCast, Int.toNat_natCast, tt_lsh l (by clear h; omega), ← tt_k_n z] at e5
          have F5 : ∀ (q : Nat) (i : Int), q ≠ 147 → m5 q i = m3 q i := fun q i w => by rw [e5, dc_up_k w]
          refine ih2 k (l + 1) m5 v m' h hk (by clear h; omega) (fun j hj => ?_) (by rw [e5, dc_up_s]) (D3.cg (F5 114 41 (by decide)) (fun i => F5 123 i (by decide))) (O2.cg K0.1.1.2 (by have := K0.1.2.1; clear h; omega) (fun q i z => F5 q i (by unfold mr_s at z; clear h; omega))) (fun q i w => (F5 q i (fun u => w (Or.inr (Or.inr (Or.inr (Or.inr u)))))).trans (g3 q i w))
          rw [e5, dc_up_i (by clear h; omega), q47]
          exact h47 j hj
theorem rt_tests {N : Int → Int} {B : Int → Int → Int → Int} (V : ∀ b k c, bx_v (B b k c)) {W : List (Int × Int)} {m : dc_M} (hb : bx_R N B m) (hW : rz_V m 0 W) {x v : Int} {m' : dc_M} (h : D_240 x m v m') : ((0 ≤ x ∧ x < 8) ∧ ∃ n : Nat, n = (if 10 < N x then 10 else N x).toNat ∧ v = ((pb_s 8 (tt_b (tt_K W (B x)) n (2 ^ n - 1)) : Nat) : Int) ∧ m' 114 56 = ((tt_b (tt_K W (B x)) n (2 ^ n - 1) : Nat) : Int) ∧ m' 114 57 = ((pb_s 8 (tt_a (tt_K W (B x)) n) : Nat) : Int) ∧ ∀ (q : Nat) (i : Int), ¬ rt_f q i → m' q i = m q i) ∨ (¬ (0 ≤ x ∧ x < 8) ∧ v = -1 ∧ ∀ (k : Nat) (i : Int), ¬ (k = 114 ∧ i = 0) → m' k i = m k i) := by
  obtain ⟨m0, e0, v1, m1, h1, h⟩ := h
  have f0 : ∀ (k : Nat) (i : Int), ¬ (k = 114 ∧ i = 0) → m0 k i = m k i := fun k i z => by rw [e0]; exact if_neg z
  obtain ⟨e1, q1⟩ := rl_box h1
  clear h1
  rw [e1] at h
  rcases h with ⟨c1, -, h⟩ | ⟨c1, ev, em⟩
  · have hx : 0 ≤ x ∧ x < 8 := by
      rcases q1 with ⟨-, q1⟩ | ⟨q1, -⟩
      · exact q1
      · exact absurd q1 c1
    have nx := hb.1 x hx.1 hx.2
    have e117 : m0 117 x = N x := (f0 117 x (by omega)).trans nx.1
    have b0 : bx_R N B m0 := hb.cg (fun k i hk => f0 k i (by clear h; omega))
    have V0 : rz_V m0 0 W := rm_V hW (fun k i hk => f0 k i (by clear h; omega))
    have fin : ∀ (n c : Nat), n < 11 → ((n : Nat) : Int) ≤ N x → n = (if 10 < N x then 10 else N x).toNat → LM_240 x c 42 ((n : Nat) : Int) 0 0 0 0 0 m0 v m' → ((0 ≤ x ∧ x < 8) ∧ ∃ n : Nat, n = (if 10 < N x then 10 else N x).toNat ∧ v = ((pb_s 8 (tt_b (tt_K W (B x)) n (2 ^ n - 1)) : Nat) : Int) ∧ m' 114 56 = ((tt_b (tt_K W (B x)) n (2 ^ n - 1) : Nat) : Int) ∧ m' 114 57 = ((pb_s 8 (tt_a (tt_K W (B x)) n) : Nat) : Int) ∧ ∀ (q : Nat) (i : Int), ¬ rt_f q i → m' q i = m q i) := fun n c a1 a2 a3 g => by
      obtain ⟨r1, r2, r3, r4⟩ := (rt_42 V hx b0 V0 a1 a2 c).1 0 m0 v m' g (Nat.zero_le _) (fun j hj => by omega) (fun _ _ _ => rfl)
      exact ⟨hx, n, a3, r1, r2, r3, fun q i w => (r4 q i w).trans (f0 q i (fun u => w (Or.inl ⟨u.1, Or.inl u.2⟩)))⟩
    rw [e117] at h
    rcases h with ⟨c2, c, h⟩ | ⟨c2, -, c, h⟩
    · exact Or.inl (fin 10 c (by decide) (by clear h; omega) (by clear h; split <;> omega) h)
    · refine Or.inl (fin (N x).toNat c (by clear h; omega) (by clear h; omega) (by clear h; split <;> omega) ?_)
      rw [show (((N x).toNat : Nat) : Int) = N x by clear h; omega]
      exact h
  · rcases q1 with ⟨q1, -⟩ | ⟨-, q1⟩
    · exfalso; omega
    · exact Or.inr ⟨q1, ev, by rw [em]; exact f0⟩
