/-! TESTS: in both -/
/-- a card alone -/
def tt_d (B : Int → Int → Int) (k j c : Int) : Int := B (k + j) c
def tt_P (W : List (Int × Int)) (dk : Int → Int → Int) (n l : Int) : Prop := mp_lk (mp_play W l dk n 40) (mp_play W (-1) dk n 40)
/-- the WIRES that are not alike, as bits -/
noncomputable def tt_k (P : Int → Prop) : Nat → Nat
  | 0 => 0
  | l + 1 => @ite Nat (P ((l : Nat) : Int)) (Classical.propDecidable _) (tt_k P l) (Nat.lor (tt_k P l) (2 ^ l))
theorem tt_k_y {P : Int → Prop} {l : Nat} (h : P ((l : Nat) : Int)) : tt_k P (l + 1) = tt_k P l := if_pos h
theorem tt_k_n {P : Int → Prop} {l : Nat} (h : ¬ P ((l : Nat) : Int)) : tt_k P (l + 1) = Nat.lor (tt_k P l) (2 ^ l) := if_neg h
theorem tt_p2 (l : Nat) : 2 ^ l < 2 ^ (l + 1) := Nat.pow_lt_pow_right (by decide) (Nat.lt_succ_self l)
theorem tt_k_lt {P : Int → Prop} : ∀ l, tt_k P l < 2 ^ l
  | 0 => by show 0 < 1; decide
  | l + 1 => by
    have ih := tt_k_lt (P := P) l
    have p := tt_p2 l
    by_cases h : P ((l : Nat) : Int)
    · rw [tt_k_y h]; exact Nat.lt_trans ih p
    · rw [tt_k_n h]; exact Nat.or_lt_two_pow (Nat.lt_trans ih p) p
theorem tt_60 {l : Nat} (h : l ≤ 60) {x : Nat} (hx : x < 2 ^ l) : x < 2 ^ 60 := Nat.lt_of_lt_of_le hx (Nat.pow_le_pow_right (by decide) h)
theorem tt_lsh : ∀ l : Nat, l < 64 → ae_lshl 1 l = 2 ^ l := by decide +kernel
noncomputable def tt_K (W : List (Int × Int)) (B : Int → Int → Int) (k : Nat) : Nat := tt_k (tt_P W (tt_d B ((k : Nat) : Int)) 1) W.length
def tt_a (K : Nat → Nat) : Nat → Nat
  | 0 => 0
  | k + 1 => Nat.lor (tt_a K k) (K k)
def tt_u (K : Nat → Nat) (s : Nat) : Nat → Nat
  | 0 => 0
  | k + 1 => if s / 2 ^ k % 2 = 1 then Nat.lor (tt_u K s k) (K k) else tt_u K s k
theorem tt_a_lt {K : Nat → Nat} (h : ∀ k, K k < 2 ^ 60) : ∀ k, tt_a K k < 2 ^ 60
  | 0 => (by decide : (0 : Nat) < 2 ^ 60)
  | k + 1 => Nat.or_lt_two_pow (tt_a_lt h k) (h k)
theorem tt_u_lt {K : Nat → Nat} {s : Nat} (h : ∀ k, K k < 2 ^ 60) : ∀ k, tt_u K s k < 2 ^ 60
  | 0 => (by decide : (0 : Nat) < 2 ^ 60)
  | k + 1 => by
    show (if s / 2 ^ k % 2 = 1 then Nat.lor (tt_u K s k) (K k) else tt_u K s k) < 2 ^ 60
    split
    · exact Nat.or_lt_two_pow (tt_u_lt h k) (h k)
    · exact tt_u_lt h k
theorem tt_f1 : ∀ n : Nat, n < 11 → ∀ k : Nat, k < n → (2 ^ n - 1) / 2 ^ k % 2 = 1 := by decide +kernel
theorem tt_f2 : ∀ n : Nat, n < 11 → ∀ s : Nat, s < 2 ^ n - 1 → pb_s 8 s < pb_s 8 (2 ^ n - 1) := by decide +kernel
theorem tt_f3 : ∀ n : Nat, n < 11 → sv_g (ae_shl (sv_u 1) (sv_u ((n : Nat) : Int))) = ((2 ^ n : Nat) : Int) ∧ 2 ^ n ≤ 1024 ∧ 1 ≤ 2 ^ n := by decide +kernel
theorem tt_f4 : ∀ s : Nat, s < 1024 → ae_i2l (sv_u ((s : Nat) : Int)) = s := by decide +kernel
theorem tt_f5 : ∀ s : Nat, s < 1024 → ∀ k : Nat, k < 10 → sv_g (sv_u (sv_g (ae_shr (sv_u ((s : Nat) : Int)) (sv_u ((k : Nat) : Int)))) &&& sv_u 1) = (if s / 2 ^ k % 2 = 1 then 1 else 0) := by decide +kernel
theorem tt_u_full {K : Nat → Nat} {n : Nat} (hn : n < 11) : ∀ k, k ≤ n → tt_u K (2 ^ n - 1) k = tt_a K k
  | 0, _ => rfl
  | k + 1, h => by
    show (if (2 ^ n - 1) / 2 ^ k % 2 = 1 then Nat.lor (tt_u K (2 ^ n - 1) k) (K k) else tt_u K (2 ^ n - 1) k) = Nat.lor (tt_a K k) (K k)
    rw [if_pos (tt_f1 n hn k (by omega)), tt_u_full hn k (by omega)]
/-- the least of the sets with the fewest cards, of those below t -/
def tt_b (K : Nat → Nat) (n : Nat) : Nat → Nat
  | 0 => 2 ^ n - 1
  | t + 1 => if pb_s 8 t < pb_s 8 (tt_b K n t) ∧ tt_u K t n = tt_a K n then t else tt_b K n t
theorem tt_b_le {K : Nat → Nat} {n : Nat} : ∀ t, t ≤ 2 ^ n → tt_b K n t ≤ 2 ^ n - 1
  | 0, _ => Nat.le_refl _
  | t + 1, h => by
    show (if pb_s 8 t < pb_s 8 (tt_b K n t) ∧ tt_u K t n = tt_a K n then t else tt_b K n t) ≤ 2 ^ n - 1
    split
    · omega
    · exact tt_b_le t (by omega)
theorem tt_b_s {K : Nat → Nat} {n t : Nat} (h1 : pb_s 8 t < pb_s 8 (tt_b K n t)) (h2 : tt_u K t n = tt_a K n) : tt_b K n (t + 1) = t := if_pos ⟨h1, h2⟩
theorem tt_b_n1 {K : Nat → Nat} {n t : Nat} (h : ¬ pb_s 8 t < pb_s 8 (tt_b K n t)) : tt_b K n (t + 1) = tt_b K n t := if_neg (fun z => h z.1)
theorem tt_b_n2 {K : Nat → Nat} {n t : Nat} (h : tt_u K t n ≠ tt_a K n) : tt_b K n (t + 1) = tt_b K n t := if_neg (fun z => h z.2)
/-! the class -/
theorem ct_137l {K : Nat → Nat} (hK : ∀ k, K k < 2 ^ 60) {s n : Nat} (hs : s < 1024) (hn : n < 11) {m : dc_M} (h43 : ∀ j : Nat, j < n → m 43 ((j : Nat) : Int) = ((K j : Nat) : Int)) : ∀ (c k : Nat) (v : Int) (m' : dc_M), LM_137 ((s : Nat) : Int) ((n : Nat) : Int) c 5 (tt_u K s k) ((k : Nat) : Int) m v m' → k ≤ n → v = ((tt_u K s n : Nat) : Int) ∧ m' = m := by
  intro c
  induction c with
  | zero => intro k v m' h; exact h.elim
  | succ c ih =>
    intro k v m' h hk
    replace h := lm_137_5.mp h
    rw [dw (z := ((k : Nat) : Int) + 1) (by omega) (by omega), show ((k : Nat) : Int) + 1 = ((k + 1 : Nat) : Int) by omega] at h
    rcases h with ⟨c1, ev, em⟩ | ⟨c1, h⟩
    · have e : k = n := by omega
      rw [ev, e]
      exact ⟨rfl, em⟩
    · rw [tt_f5 s hs k (by omega), h43 k (by omega), Int.toNat_natCast] at h
      rcases h with ⟨c2, h⟩ | ⟨c2, -, h⟩
      · have z : ¬ s / 2 ^ k % 2 = 1 := fun z => by
          rw [if_pos z] at c2
          exact absurd c2 (by decide)
        have e : tt_u K s (k + 1) = tt_u K s k := if_neg z
        exact ih (k + 1) v m' (by rw [e]; exact h) (by omega)
      · have z : s / 2 ^ k % 2 = 1 := by
          by_cases z : s / 2 ^ k % 2 = 1
          · exact z
          · rw [if_neg z] at c2
            exact absurd rfl c2
        have e : tt_u K s (k + 1) = Nat.lor (tt_u K s k) (K k) := if_pos z
        exact ih (k + 1) v m' (by rw [e]; exact h) (by omega)
theorem ct_136 {K : Nat → Nat} (hK : ∀ k, K k < 2 ^ 60) {n : Nat} (hn : n < 11) {m : dc_M} (h43 : ∀ j : Nat, j < n → m 43 ((j : Nat) : Int) = ((K j : Nat) : Int)) {v : Int} {m' : dc_M} (h : D_136 ((n : Nat) : Int) (tt_a K n) m v m') : v = ((tt_b K n (2 ^ n - 1) : Nat) : Int) ∧ m' = m := by
  have f3 := tt_f3 n hn
  obtain ⟨c, h⟩ := h
  have e : dc_w ((sv_g (ae_shl (sv_u 1) (sv_u ((n : Nat) : Int)))) - 1) = ((2 ^ n - 1 : Nat) : Int) := by
    rw [f3.1, dw (by omega) (by omega)]
    omega
  rw [e] at h
  have main : ∀ (c t : Nat) (v : Int) (m' : dc_M), LM_136 ((n : Nat) : Int) (tt_a K n) c 14 ((2 ^ n - 1 : Nat) : Int) ((tt_b K n t : Nat) : Int) ((t : Nat) : Int) m v m' → t ≤ 2 ^ n - 1 → v = ((tt_b K n (2 ^ n - 1) : Nat) : Int) ∧ m' = m := by
    intro c
    induction c with
    | zero => intro t v m' h; exact h.elim
    | succ c ih =>
      intro t v m' h ht
      have bl := tt_b_le (K := K) (n := n) t (by omega)
      replace h := lm_136_14.mp h
      rw [dw (z := ((t : Nat) : Int) + 1) (by omega) (by omega), show ((t : Nat) : Int) + 1 = ((t + 1 : Nat) : Int) by omega] at h
      rcases h with ⟨c1, ev, em⟩ | ⟨c1, v2, m2, h2, v3, m3, h3, h⟩
      · have e : t = 2 ^ n - 1 := by omega
        rw [ev, e]
        exact ⟨rfl, em⟩
      · obtain ⟨a2, b2⟩ := pb_283 (by clear h h2 h3; omega) h2
        rw [b2] at h3
        obtain ⟨a3, b3⟩ := pb_283 (by clear h h2 h3; omega) h3
        rw [b3, a2, a3] at h
        rcases h with ⟨c2, h⟩ | ⟨c2, v4, m4, ⟨c4, h4⟩, h⟩
        · have e : tt_b K n (t + 1) = tt_b K n t := tt_b_n1 (by omega)
          exact ih (t + 1) v m' (by rw [e]; exact h) (by omega)
        · obtain ⟨a4, b4⟩ := ct_137l hK (by clear h h2 h3 h4; omega) hn h43 c4 0 v4 m4 h4 (Nat.zero_le _)
          rw [b4, a4, Int.toNat_natCast] at h
          have ul := tt_u_lt (s := t) hK n
          have al := tt_a_lt hK n
          have z := rz_lz (Y := tt_u K t n) (K := tt_a K n) (Nat.lt_trans ul (by decide)) (Nat.lt_trans al (by decide))
          rcases h with ⟨c5, h⟩ | ⟨c5, h⟩
          · have e : tt_b K n (t + 1) = tt_b K n t := tt_b_n2 (fun y => c5 (z.mpr y))
            exact ih (t + 1) v m' (by rw [e]; exact h) (by omega)
          · have y := z.mp (Decidable.not_not.mp c5)
            have e : tt_b K n (t + 1) = t := tt_b_s (by clear h h2 h3 h4 z; omega) y
            exact ih (t + 1) v m' (by rw [e]; exact h) (by omega)
  exact main c 0 v m' h (Nat.zero_le _)
theorem ct_135l {W : List (Int × Int)} {dk : Int → Int → Int} {n : Int} {k0 : Nat} (hk : 45 < k0) {m0 : dc_M} (hW : cz_W m0 k0 W) (D : cg_D dk n m0) {C0 : Int} (hC : C0 + 20000 ≤ 1800000000) (O : co_0 30 m0 (mp_play W (-1) dk n 40)) : ∀ (f c l : Nat) (m : dc_M) (v : Int) (m' : dc_M), LM_135 k0 c 29 (tt_k (tt_P W dk n) l) ((l : Nat) : Int) m v m' → W.length - l = f → l ≤ W.length → (∀ (k : Nat) (i : Int), ¬ ck_t k i → m k i = m0 k i) → ck_S (C0 + 320 * ((l : Nat) : Int)) m → v = ((tt_k (tt_P W dk n) W.length : Nat) : Int) ∧ ck_S (C0 + 20000) m' ∧ ∀ (k : Nat) (i : Int), ¬ ck_t k i → m' k i = m0 k i := by
  have h60 := hW.2.1
  have hn := D.2.1
  have K0 := mp_play.K (W := W) (w := -1) (dk := dk) (n := n) (room := 40) hn (by decide)
  intro f
  induction f with
  | zero =>
    intro c l m v m' h hf hl fr S
    have el : l = W.length := by omega
    cases c with
    | zero => exact h.elim
    | succ c =>
      replace h := lm_135_29.mp h
      rw [show m k0 2 = (W.length : Int) from (fr k0 2 (by unfold ck_t; omega)).trans hW.1] at h
      rcases h with ⟨-, ev, em⟩ | ⟨c1, -⟩
      · rw [em, ← el]
        exact ⟨ev, S.cg (by omega) (fun _ _ _ => rfl), fr⟩
      · exfalso; omega
  | succ f ih =>
    intro c l m v m' h hf hl fr S
    cases c with
    | zero => exact h.elim
    | succ c =>
      replace h := lm_135_29.mp h
      rw [show m k0 2 = (W.length : Int) from (fr k0 2 (by unfold ck_t; omega)).trans hW.1, dw (z := ((l : Nat) : Int) + 1) (by omega) (by omega), show ((l : Nat) : Int) + 1 = ((l + 1 : Nat) : Int) by omega, Int.toNat_natCast, tt_lsh l (by omega)] at h
      rcases h with ⟨c1, -⟩ | ⟨c1, v2, m2, h2, v3, m3, h3, h⟩
      · exfalso; omega
      · have Wm : cz_W m k0 W := hW.gg (fun j i j0 j1 => fr j i (by unfold ck_t; clear h h2 h3; omega))
        obtain ⟨N2, f2⟩ := ck_plug hk Wm S h2
        clear h2
        have g2 : ∀ (k : Nat) (i : Int), ¬ ck_t k i → m2 k i = m0 k i := fun k i y1 => (f2 k i (fun z => y1 (by unfold ck_t; omega))).trans (fr k i y1)
        have D2 : cg_D dk n m2 := D.cg (fun k i hk => g2 k i (by unfold ck_t; clear h h3; omega))
        have O2 : co_0 30 m2 (mp_play W (-1) dk n 40) := O.cg (fun k i k0 k1 => g2 k i (by unfold ck_t; clear h h3; omega))
        have K := mp_play.K (W := W) (w := ((l : Nat) : Int)) (dk := dk) (n := n) (room := 40) hn (by decide)
        have fin : ∀ (vv : Int) (m4 : dc_M), D_129 m2 vv m4 → ck_S (C0 + 320 * ((l + 1 : Nat) : Int)) m4 ∧ (∀ (k : Nat) (i : Int), ¬ ck_t k i → m4 k i = m0 k i) ∧ ((vv = 1 ∧ tt_P W dk n ((l : Nat) : Int)) ∨ (vv = 0 ∧ ¬ tt_P W dk n ((l : Nat) : Int))) := fun vv m4 h4 => by
          obtain ⟨N3, f3, q⟩ := ck_129 D2 (by clear h h3 h4; omega) N2 O2 K0.1.1.1 h4 K.1.2.1
          exact ⟨N3.s.cg (by clear h h3 h4; omega) (fun _ _ _ => rfl), fun k i y1 => (f3 k i y1).trans (g2 k i y1), q⟩
        rcases h with ⟨c2, -, h⟩ | ⟨c2, v4, m4, h4, h⟩
        · obtain ⟨S3, g3, q⟩ := fin 0 m3 ⟨v3, m3, h3, Or.inl ⟨c2, rfl, rfl⟩⟩
          have z : ¬ tt_P W dk n ((l : Nat) : Int) := by
            rcases q with ⟨q, -⟩ | ⟨-, q⟩
            · exact absurd q (by decide)
            · exact q
          exact ih c (l + 1) m3 v m' (by rw [tt_k_n z]; exact h) (by omega) (by omega) g3 S3
        · rcases h with ⟨c4, h⟩ | ⟨c4, -, h⟩
          · obtain ⟨S3, g3, q⟩ := fin 1 m4 ⟨v3, m3, h3, Or.inr ⟨c2, v4, m4, h4, Or.inr ⟨c4, rfl, rfl⟩⟩⟩
            have z : tt_P W dk n ((l : Nat) : Int) := by
              rcases q with ⟨-, q⟩ | ⟨q, -⟩
              · exact q
              · exact absurd q (by decide)
            exact ih c (l + 1) m4 v m' (by rw [tt_k_y z]; exact h) (by omega) (by omega) g3 S3
          · obtain ⟨S3, g3, q⟩ := fin 0 m4 ⟨v3, m3, h3, Or.inr ⟨c2, v4, m4, h4, Or.inl ⟨Decidable.not_not.mp c4, rfl, rfl⟩⟩⟩
            have z : ¬ tt_P W dk n ((l : Nat) : Int) := by
              rcases q with ⟨q, -⟩ | ⟨-, q⟩
              · exact absurd q (by decide)
              · exact q
            exact ih c (l + 1) m4 v m' (by rw [tt_k_n z]; exact h) (by omega) (by omega) g3 S3
def ct_m (k : Nat) (_ : Int) : Prop := (16 ≤ k ∧ k ≤ 28) ∨ (30 ≤ k ∧ k ≤ 39)
theorem ct_135 {k0 : Nat} {W : List (Int × Int)} {dk : Int → Int → Int} {n : Int} {m : dc_M} (hk : 45 < k0) (hW : cz_W m k0 W) (D : cg_D dk n m) {C : Int} (hC : C + 21000 ≤ 1800000000) (S : ck_S C m) {v : Int} {m' : dc_M} (h : D_135 k0 m v m') : v = ((tt_k (tt_P W dk n) W.length : Nat) : Int) ∧ ck_S (C + 21000) m' ∧ ∀ (k : Nat) (i : Int), ¬ ct_m k i → m' k i = m k i := by
  obtain ⟨v1, m1, h1, v2, m2, h2, c, h⟩ := h
  obtain ⟨N2, f2, O2, -⟩ := ck_128 hk hW D (by clear h h1 h2; omega) S (⟨v1, m1, h1, v2, m2, h2, rfl, rfl⟩ : D_128 k0 m 0 m2)
  clear h1 h2
  obtain ⟨r1, r2, r3⟩ := ct_135l (C0 := C + 320) hk (hW.gg (fun j i j0 j1 => f2 j i (by clear h; omega))) (D.cg (fun k i hk => f2 k i (by clear h; omega))) (by clear h; omega) O2 W.length c 0 m2 v m' h rfl (Nat.zero_le _) (fun _ _ _ => rfl) (N2.s.cg (by clear h; omega) (fun _ _ _ => rfl))
  exact ⟨r1, r2.cg (by clear h; omega) (fun _ _ _ => rfl), fun k i y => (r3 k i (fun z => y (by unfold ck_t at z; unfold ct_m; clear h; omega))).trans (f2 k i (fun z => y (by unfold ct_m; clear h; omega)))⟩
def ct_t (k : Nat) (i : Int) : Prop := (k = 3 ∧ i = 4) ∨ k = 7 ∨ (16 ≤ k ∧ k ≤ 28) ∨ (30 ≤ k ∧ k ≤ 39) ∨ (k = 29 ∧ (i = 8 ∨ i = 9)) ∨ k = 43
theorem ct_134l {W : List (Int × Int)} {N : Int → Int} {B : Int → Int → Int → Int} (V : ∀ b k c, bx_v (B b k c)) {k0 : Nat} (hk : 45 < k0) {x : Int} (hx : 0 ≤ x ∧ x < 8) {m0 : dc_M} (hb : bx_C N B m0) (hW : cz_W m0 k0 W) {C0 : Int} (hC : C0 + 220000 ≤ 1800000000) {n : Nat} (hn : n < 11) (hnN : ((n : Nat) : Int) ≤ N x) : ∀ (f c k : Nat) (m : dc_M) (v : Int) (m' : dc_M), LM_134 k0 x c 21 ((n : Nat) : Int) (tt_a (tt_K W (B x)) k) ((k : Nat) : Int) m v m' → n - k = f → k ≤ n → (∀ (q : Nat) (i : Int), ¬ ct_t q i → m q i = m0 q i) → ck_S (C0 + 21000 * ((k : Nat) : Int)) m → (∀ j : Nat, j < k → m 43 ((j : Nat) : Int) = ((tt_K W (B x) j : Nat) : Int)) → v = ((pb_s 8 (tt_b (tt_K W (B x)) n (2 ^ n - 1)) : Nat) : Int) ∧ m' 29 8 = ((tt_b (tt_K W (B x)) n (2 ^ n - 1) : Nat) : Int) ∧ m' 29 9 = ((pb_s 8 (tt_a (tt_K W (B x)) n) : Nat) : Int) ∧ ck_S (C0 + 220000) m' ∧ ∀ (q : Nat) (i : Int), ¬ ct_t q i → m' q i = m0 q i := by
  have h60 := hW.2.1
  have hK : ∀ k, tt_K W (B x) k < 2 ^ 60 := fun k => tt_60 h60 (tt_k_lt _)
  have f3 := tt_f3 n hn
  intro f
  induction f with
  | zero =>
    intro c k m v m' h hf hkn fr S h43
    have ek : k = n := by omega
    subst ek
    cases c with
    | zero => exact h.elim
    | succ c =>
      replace h := lm_134_21.mp h
      rcases h with ⟨-, v2, m2, h2, m3, e3, v4, m4, h4, m5, e5, v6, m6, h6, ev, em⟩ | ⟨c1, -⟩
      · obtain ⟨a2, b2⟩ := ct_136 hK hn h43 h2
        subst b2
        obtain ⟨a4, b4⟩ := pb_284 (Nat.lt_trans (tt_a_lt hK _) (by decide)) h4
        subst b4
        have e58 : m5 29 8 = ((tt_b (tt_K W (B x)) k (2 ^ k - 1) : Nat) : Int) := by rw [e5, dc_up_i (by decide), e3, dc_up_s]; exact a2
        rw [e58] at h6
        obtain ⟨a6, b6⟩ := pb_283 (by have := tt_b_le (K := tt_K W (B x)) (n := k) (2 ^ k - 1) (by omega); clear h2 h4 h6; omega) h6
        subst b6
        rw [em]
        refine ⟨ev.trans a6, e58, by rw [e5, dc_up_s]; exact a4, S.cg (by omega) (fun q i hq => ?_), fun q i y => ?_⟩
        · rw [e5, dc_up_k (by clear h2 h4 h6; omega), e3, dc_up_k (by clear h2 h4 h6; omega)]
        · unfold ct_t at y
          rw [e5]
          refine (if_neg (by clear h2 h4 h6; omega)).trans ?_
          rw [e3]
          exact (if_neg (by clear h2 h4 h6; omega)).trans (fr q i y)
      · exfalso; omega
  | succ f ih =>
    intro c k m v m' h hf hkn fr S h43
    cases c with
    | zero => exact h.elim
    | succ c =>
      replace h := lm_134_21.mp h
      rw [dw (z := ((k : Nat) : Int) + 1) (by omega) (by omega), show ((k : Nat) : Int) + 1 = ((k + 1 : Nat) : Int) by omega] at h
      rcases h with ⟨c1, -⟩ | ⟨c1, v2, m2, h2, v3, m3, h3, -, m4, e4, -, h⟩
      · exfalso; omega
      · have bm : bx_C N B m := hb.cg (fun q i hq => fr q i (by unfold ct_t; clear h h2 h3; omega))
        obtain ⟨D2, f2⟩ := bx_24 bm V hx.1 hx.2 (by omega) (by clear h h2 h3; omega) h2
        clear h2
        have g2 : ∀ (q : Nat) (i : Int), ¬ ct_t q i → m2 q i = m0 q i := fun q i y => (f2 q i (fun z => y (by unfold ct_t; clear h h3; omega)) (fun z => y (by unfold ct_t; clear h h3; omega))).trans (fr q i y)
        have W2 : cz_W m2 k0 W := hW.gg (fun j i j0 j1 => g2 j i (by unfold ct_t; clear h h3; omega))
        obtain ⟨a3, S3, f3'⟩ := ct_135 hk W2 D2 (C := C0 + 21000 * ((k : Nat) : Int)) (by clear h h3; omega) (S.cg (Int.le_refl _) (fun q i hq => f2 q i (by clear h h3; omega) (by clear h h3; omega))) h3
        clear h3
        have a3 : v3 = ((tt_K W (B x) k : Nat) : Int) := a3
        rw [a3, Int.toNat_natCast] at e4
        have g3 : ∀ (q : Nat) (i : Int), ¬ ct_t q i → m3 q i = m0 q i := fun q i y => (f3' q i (fun z => y (by unfold ct_m at z; unfold ct_t; clear h; omega))).trans (g2 q i y)
        have q43 : ∀ i, m3 43 i = m 43 i := fun i => (f3' 43 i (by unfold ct_m; omega)).trans (f2 43 i (by omega) (by omega))
        have e43 : m4 43 ((k : Nat) : Int) = ((tt_K W (B x) k : Nat) : Int) := by rw [e4, dc_up_s]
        rw [e43, Int.toNat_natCast] at h
        refine ih c (k + 1) m4 v m' h (by omega) (by omega) (fun q i y => ?_) (S3.cg (by clear h; omega) (fun q i hq => by rw [e4, dc_up_k (by clear h; omega)])) (fun j hj => ?_)
        · rw [e4, dc_up_k (fun z => y (by unfold ct_t; omega))]
          exact g3 q i y
        · by_cases z : j = k
          · rw [z]; exact e43
          · rw [e4, dc_up_i (by omega), q43]
            exact h43 j (by omega)
theorem ct_tests {N : Int → Int} {B : Int → Int → Int → Int} (V : ∀ b k c, bx_v (B b k c)) {W : List (Int × Int)} {C : Int} {m : dc_M} (hb : bx_C N B m) (hk : 45 < (m 0 8).toNat) (hW : cz_W m (m 0 8).toNat W) (hC : C + 220000 ≤ 1800000000) (S : ck_S C m) {x v : Int} {m' : dc_M} (h : D_160 x m v m') : ((0 ≤ x ∧ x < 8) ∧ ∃ n : Nat, n = (if 10 < N x then 10 else N x).toNat ∧ v = ((pb_s 8 (tt_b (tt_K W (B x)) n (2 ^ n - 1)) : Nat) : Int) ∧ m' 29 8 = ((tt_b (tt_K W (B x)) n (2 ^ n - 1) : Nat) : Int) ∧ m' 29 9 = ((pb_s 8 (tt_a (tt_K W (B x)) n) : Nat) : Int) ∧ ck_S (C + 220000) m' ∧ ∀ (q : Nat) (i : Int), ¬ ct_t q i → m' q i = m q i) ∨ (¬ (0 ≤ x ∧ x < 8) ∧ v = -1 ∧ m' = m) := by
  obtain ⟨v1, m1, h1, h⟩ := h
  obtain ⟨e1, q1⟩ := ck_box h1
  clear h1
  rw [e1] at h
  rcases h with ⟨c1, ev, em⟩ | ⟨c1, v2, m2, ⟨-, c, h⟩, ev, em⟩
  · rcases q1 with ⟨q1, -⟩ | ⟨-, q1⟩
    · exfalso; omega
    · exact Or.inr ⟨q1, ev, em⟩
  · have hx : 0 ≤ x ∧ x < 8 := by
      rcases q1 with ⟨-, q1⟩ | ⟨q1, -⟩
      · exact q1
      · exact absurd q1 c1
    have nx := hb.1 x hx.1 hx.2
    have en : (if 10 < m 6 x then 10 else m 6 x) = (((if 10 < N x then 10 else N x).toNat : Nat) : Int) := by
      rw [nx.1]
      split <;> omega
    rw [en] at h
    have r := ct_134l V hk hx hb hW hC (n := (if 10 < N x then 10 else N x).toNat) (by clear h; split <;> omega) (by clear h; split <;> omega) _ c 0 m v2 m2 h rfl (Nat.zero_le _) (fun _ _ _ => rfl) (S.cg (by omega) (fun _ _ _ => rfl)) (fun j hj => by omega)
    rw [em]
    exact Or.inl ⟨hx, _, rfl, ev.trans r.1, r.2⟩
