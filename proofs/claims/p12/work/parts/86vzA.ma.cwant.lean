/-! THE CLASS'S NETS: a row for a set of relays -/
theorem nb_get {s x : Nat} (hs : s < 2147483648) (hx : x < 32) : sv_g (sv_u (sv_g (ae_shr (sv_u (s : Nat)) (sv_u (x : Nat)))) &&& sv_u 1) = ((lb_b s x : Nat) : Int) := by
  have e1 : sv_u ((s : Nat) : Int) = s := sv_u_nat (by omega)
  have e2 : sv_u ((x : Nat) : Int) = x := sv_u_nat (by omega)
  have q : s >>> x ≤ s := Nat.shiftRight_le _ _
  have e3 : ae_shr s x = s >>> x := by
    unfold ae_shr
    have hb : Nat.ble 2147483648 s = false := by
      cases hb : Nat.ble 2147483648 s with
      | false => rfl
      | true => have := Nat.le_of_ble_eq_true hb; omega
    rw [hb, cond_false]
    show s >>> (x % 32) = s >>> x
    rw [Nat.mod_eq_of_lt hx]
  have e4 : sv_g (s >>> x) = ((s >>> x : Nat) : Int) := if_pos (by omega)
  have e5 : sv_u (((s >>> x : Nat) : Nat) : Int) = s >>> x := sv_u_nat (by omega)
  have e6 : sv_u 1 = 1 := rfl
  rw [e1, e2, e3, e4, e5, e6, Nat.and_one_is_mod, Nat.shiftRight_eq_div_pow]
  have e7 : s / 2 ^ x % 2 < 2 := Nat.mod_lt _ (by decide)
  exact if_pos (by omega)
theorem nb_pow : ∀ x : Nat, x < 16 → ae_shl (sv_u 1) (sv_u (x : Nat)) = 2 ^ x ∧ 2 ^ x < 65536 := by decide +kernel
theorem nb_put {s x : Nat} (hs : s < 65536) (hx : x < 16) : sv_g (sv_u (s : Nat) ||| sv_u (sv_g (ae_shl (sv_u 1) (sv_u (x : Nat))))) = ((s ||| 2 ^ x : Nat) : Int) ∧ (s ||| 2 ^ x) < 65536 ∧ ∀ k : Nat, lb_b (s ||| 2 ^ x) k = if k = x then 1 else lb_b s k := by
  obtain ⟨p1, p2⟩ := nb_pow x hx
  have e1 : sv_u ((s : Nat) : Int) = s := sv_u_nat (by omega)
  have e2 : sv_g (2 ^ x) = ((2 ^ x : Nat) : Int) := if_pos (by omega)
  have e3 : sv_u (((2 ^ x : Nat) : Nat) : Int) = 2 ^ x := sv_u_nat (by omega)
  have lt : (s ||| 2 ^ x) < 65536 := Nat.or_lt_two_pow (n := 16) hs p2
  rw [e1, p1, e2, e3]
  refine ⟨if_pos (by omega), lt, fun k => ?_⟩
  have t : ∀ (a j : Nat), lb_b a j = if a.testBit j = true then 1 else 0 := fun a j => by
    unfold lb_b
    rw [Nat.testBit_eq_decide_div_mod_eq]
    have : a / 2 ^ j % 2 < 2 := Nat.mod_lt _ (by decide)
    by_cases z : a / 2 ^ j % 2 = 1
    · rw [z]; simp
    · have z0 : a / 2 ^ j % 2 = 0 := by omega
      rw [z0]; simp
  rw [t, t, Nat.testBit_or, Nat.testBit_two_pow]
  by_cases z : k = x
  · subst z
    simp
  · rw [if_neg z]
    have : decide (x = k) = false := decide_eq_false (fun y => z y.symm)
    rw [this, Bool.or_false]
/-- the relays of a set -/
def ca_k (x : Nat) (r : Int) : Prop := lb_b x r.toNat ≠ 0
def ca_o (x : Nat) (p : Int) : Int := if lb_b x (p / 3).toNat = 0 then 193 + p else 205 + p
theorem ca_o_iff {x : Nat} {p y : Int} : r2_o (ca_k x) p y ↔ y = ca_o x p := by
  unfold r2_o ca_k ca_o
  split
  · next z =>
    exact ⟨fun h => by rcases h with ⟨h, -⟩ | ⟨-, h⟩; exact absurd z h; exact h, fun h => Or.inr ⟨fun y => y z, h⟩⟩
  · next z =>
    exact ⟨fun h => by rcases h with ⟨-, h⟩ | ⟨h, -⟩; exact h; exact absurd z h, fun h => Or.inl ⟨z, h⟩⟩
/-- WIRES, and points below p of which both ends have a part -/
def ca_E (W : List (Int × Int)) (w : Int) (P : Int → Int) (x : Nat) (p a b : Int) : Prop := mp_W W w a b ∨ ∃ q : Int, 0 ≤ q ∧ q < p ∧ a = 181 + q ∧ b = ca_o x q ∧ P (181 + q) ≠ -1 ∧ P (ca_o x q) ≠ -1
/-- of HUBS with a part, the same NETS as with all points -/
theorem ca_q {W : List (Int × Int)} {w : Int} {P : Int → Int} {x : Nat} (hw : ∀ y, nt_w P y ↔ ∃ z, mp_W W w y z ∨ mp_W W w z y) {a b : Int} (wa : nt_w P a) (wb : nt_w P b) : mp_q (ca_E W w P x 12) a b ↔ mp_q (mp_E W w (ca_k x)) a b := by
  refine ⟨fun q => q.mo (fun u v e => ?_), fun q f hf => ?_⟩
  · rcases e with e | ⟨p, p0, p1, e1, e2, -⟩
    · exact Or.inl e
    · exact Or.inr ⟨p, p0, p1, e1, ca_o_iff.mpr e2⟩
  · -- f, spread over HUBS without a part
    have key := q (fun h => if P h ≠ -1 ∧ 0 ≤ h ∧ h < 217 then f h else if h < 193 then (if P (ca_o x (h - 181)) ≠ -1 then f (ca_o x (h - 181)) else 0) else if h < 205 then (if P (h - 12) ≠ -1 then f (h - 12) else 0) else (if P (h - 24) ≠ -1 then f (h - 24) else 0)) (fun u v e => by
      rcases e with e | ⟨p, p0, p1, e1, e2⟩
      · have wu := (hw u).mpr ⟨v, Or.inl e⟩
        have wv := (hw v).mpr ⟨u, Or.inr e⟩
        show (if P u ≠ -1 ∧ 0 ≤ u ∧ u < 217 then f u else _) = (if P v ≠ -1 ∧ 0 ≤ v ∧ v < 217 then f v else _)
        rw [if_pos ⟨wu.2.2, wu.1, wu.2.1⟩, if_pos ⟨wv.2.2, wv.1, wv.2.1⟩]
        exact hf u v (Or.inl e)
      · have e2 := ca_o_iff.mp e2
        have ov : v = 193 + p ∨ v = 205 + p := by rw [e2]; unfold ca_o; split; exact Or.inl rfl; exact Or.inr rfl
        have L : (if P u ≠ -1 ∧ 0 ≤ u ∧ u < 217 then f u else if u < 193 then (if P (ca_o x (u - 181)) ≠ -1 then f (ca_o x (u - 181)) else 0) else if u < 205 then (if P (u - 12) ≠ -1 then f (u - 12) else 0) else (if P (u - 24) ≠ -1 then f (u - 24) else 0)) = if P u ≠ -1 then f u else (if P v ≠ -1 then f v else 0) := by
          by_cases z : P u ≠ -1
          · rw [if_pos ⟨z, by omega, by omega⟩, if_pos z]
          · rw [if_neg (fun y => z y.1), if_neg z, if_pos (by omega), show u - 181 = p by omega, ← e2]
        have R : (if P v ≠ -1 ∧ 0 ≤ v ∧ v < 217 then f v else if v < 193 then (if P (ca_o x (v - 181)) ≠ -1 then f (ca_o x (v - 181)) else 0) else if v < 205 then (if P (v - 12) ≠ -1 then f (v - 12) else 0) else (if P (v - 24) ≠ -1 then f (v - 24) else 0)) = if P v ≠ -1 then f v else (if P u ≠ -1 then f u else 0) := by
          by_cases z : P v ≠ -1
          · rw [if_pos ⟨z, by omega, by omega⟩, if_pos z]
          · rw [if_neg (fun y => z y.1), if_neg z, if_neg (by omega)]
            rcases ov with ov | ov
            · rw [if_pos (by omega), show v - 12 = u by omega]
            · rw [if_neg (by omega), show v - 24 = u by omega]
        show (if P u ≠ -1 ∧ 0 ≤ u ∧ u < 217 then f u else _) = (if P v ≠ -1 ∧ 0 ≤ v ∧ v < 217 then f v else _)
        rw [L, R]
        by_cases z : P u ≠ -1
        · by_cases y : P v ≠ -1
          · rw [if_pos z, if_pos y]
            exact hf u v (Or.inr ⟨p, p0, p1, e1, e2, by rw [← e1]; exact z, by rw [← e2]; exact y⟩)
          · rw [if_pos z, if_neg y, if_pos z]
        · by_cases y : P v ≠ -1
          · rw [if_neg z, if_pos y, if_pos y]
          · rw [if_neg z, if_neg y, if_neg y, if_neg z])
    have key : (if P a ≠ -1 ∧ 0 ≤ a ∧ a < 217 then f a else _) = (if P b ≠ -1 ∧ 0 ≤ b ∧ b < 217 then f b else _) := key
    rw [if_pos ⟨wa.2.2, wa.1, wa.2.1⟩, if_pos ⟨wb.2.2, wb.1, wb.2.1⟩] at key
    exact key
/-- the row of a set is right -/
def ca_R (W : List (Int × Int)) (w : Int) (m : dc_M) (x : Nat) : Prop := (∀ a b, nt_w (m 18) a → nt_w (m 18) b → (m 20 (60 * (x : Int) + m 18 a) = m 20 (60 * (x : Int) + m 18 b) ↔ mp_q (mp_E W w (ca_k x)) a b)) ∧ ∀ a, nt_w (m 18) a → 0 ≤ m 20 (60 * (x : Int) + m 18 a) ∧ m 20 (60 * (x : Int) + m 18 a) < 60
/-- the straightening -/
theorem ca_174 {x0 s N : Int} {L : Int → Int} {m0 : dc_M} (hs : 0 ≤ s ∧ s ≤ 900) (N1 : N ≤ 60) (eN : m0 17 2 = N) (u1 : ∀ x, 0 ≤ x → x < N → 0 ≤ L x ∧ L x ≤ x) : ∀ (f c : Nat) (l : Int) (m : dc_M) (v : Int) (m' : dc_M), LM_72 x0 c 174 s l m v m' → N - l = (f : Int) → 0 ≤ l → (∀ (k : Nat) (i : Int), ¬ (k = 20 ∧ s ≤ i ∧ i < s + N) → m k i = m0 k i) → (∀ y, l ≤ y → y < N → m 20 (s + y) = L y) → (∀ y, 0 ≤ y → y < l → (0 ≤ m 20 (s + y) ∧ m 20 (s + y) ≤ y) ∧ mp_q (nt_l L N) y (m 20 (s + y)) ∧ m 20 (s + L y) = m 20 (s + y)) → (∀ (k : Nat) (i : Int), ¬ (k = 20 ∧ s ≤ i ∧ i < s + N) → m' k i = m0 k i) ∧ ∀ y, 0 ≤ y → y < N → (0 ≤ m' 20 (s + y) ∧ m' 20 (s + y) ≤ y) ∧ mp_q (nt_l L N) y (m' 20 (s + y)) ∧ m' 20 (s + L y) = m' 20 (s + y) := by
  intro f
  induction f with
  | zero =>
    intro c l m v m' h hf l0 fr hl hd
    have el : l = N := by omega
    cases c with
    | zero => exact h.elim
    | succ c =>
      replace h := lm_72_174.mp h
      rw [show m 17 2 = N from (fr 17 2 (by omega)).trans eN] at h
      rcases h with ⟨c1, -, em⟩ | ⟨c1, -⟩
      · rw [em]
        exact ⟨fr, fun y y0 y1 => hd y y0 (by omega)⟩
      · exfalso; omega
  | succ f ih =>
    intro c l m v m' h hf l0 fr hl hd
    cases c with
    | zero => exact h.elim
    | succ c =>
      have w1 : dc_w (l + 1) = l + 1 := dw (by omega) (by omega)
      have w2 : dc_w (s + l) = s + l := dw (by omega) (by omega)
      have u := u1 l l0 (by omega)
      have w3 : dc_w (s + L l) = s + L l := dw (by omega) (by omega)
      replace h := lm_72_174.mp h
      rw [show m 17 2 = N from (fr 17 2 (by omega)).trans eN, w1, w2, hl l (Int.le_refl l) (by omega), w3] at h
      rcases h with ⟨c1, -⟩ | ⟨c1, -, -, -, m1, e1, h⟩
      · exfalso; omega
      · have g : (0 ≤ m 20 (s + L l) ∧ m 20 (s + L l) ≤ l) ∧ mp_q (nt_l L N) l (m 20 (s + L l)) ∧ (L l ≠ l → m 20 (s + L l) ≠ l) := by
          by_cases z : L l = l
          · rw [z, hl l (Int.le_refl l) (by clear h; omega), z]
            exact ⟨⟨l0, Int.le_refl l⟩, mp_q.rf, fun y => absurd rfl y⟩
          · obtain ⟨⟨a1, a2⟩, a3, a4⟩ := hd (L l) u.1 (by clear h; omega)
            exact ⟨⟨a1, by clear h; omega⟩, (mp_q.of ⟨l0, by clear h; omega, rfl⟩).tr a3, fun _ => by clear h; omega⟩
        refine ih c (l + 1) m1 v m' h (by clear h; omega) (by clear h; omega) (fun k i z => ?_) (fun y y0 y1 => ?_) (fun y y0 y1 => ?_)
        · rw [e1]
          exact (if_neg (fun q => z ⟨q.1, by clear h; omega, by clear h; omega⟩)).trans (fr k i z)
        · rw [e1, dc_up_i (by clear h; omega)]
          exact hl y (by clear h; omega) y1
        · rw [e1]
          by_cases z : y = l
          · rw [z, dc_up_s]
            refine ⟨g.1, g.2.1, ?_⟩
            by_cases y : L l = l
            · rw [y, dc_up_s]
            · rw [dc_up_i (by clear h; omega)]
          · have uy := u1 y y0 (by clear h; omega)
            rw [dc_up_i (by clear h; omega), dc_up_i (by clear h; omega)]
            exact hd y y0 (by clear h; omega)
theorem ca_48 {W : List (Int × Int)} {w : Int} {x : Nat} (hx : x < 16) {m0 : dc_M} (Ls : c9_L m0) (N01 : 0 ≤ m0 17 2 ∧ m0 17 2 ≤ 60) (hw : c9_W W w m0) : ∀ (f c : Nat) (p : Int) (m : dc_M) (v : Int) (m' : dc_M), LM_72 (x : Int) c 48 (60 * (x : Int)) (nt_c (c9_p (m0 18)) p) m v m' → 12 - p = (f : Int) → 0 ≤ p → (∀ (k : Nat) (i : Int), ¬ (k = 20 ∧ 60 * (x : Int) ≤ i ∧ i < 60 * (x : Int) + m0 17 2) → m k i = m0 k i) → nt_U (m0 18) (fun y => m 20 (60 * (x : Int) + y)) (m0 17 2) (ca_E W w (m0 18) x p) → ∃ c m1, LM_72 (x : Int) c 174 (60 * (x : Int)) 0 m1 v m' ∧ (∀ (k : Nat) (i : Int), ¬ (k = 20 ∧ 60 * (x : Int) ≤ i ∧ i < 60 * (x : Int) + m0 17 2) → m1 k i = m0 k i) ∧ nt_U (m0 18) (fun y => m1 20 (60 * (x : Int) + y)) (m0 17 2) (ca_E W w (m0 18) x 12) := by
  obtain ⟨-, -, -, -, -, -, -, L8, L9⟩ := Ls
  intro f
  induction f with
  | zero =>
    intro c p m v m' h hf p0 fr U
    have ep : p = 12 := by omega
    rw [ep] at h U
    cases c with
    | zero => exact h.elim
    | succ c =>
      replace h := lm_72_48.mp h
      rw [show m 17 13 = nt_c (c9_p (m0 18)) 12 from (fr 17 13 (by omega)).trans L8] at h
      rcases h with ⟨c1, h⟩ | ⟨c1, -⟩
      · exact ⟨c, m, h, fr, U⟩
      · exfalso; omega
  | succ f ih =>
    intro c p m v m' h hf p0 fr U
    -- no point that leads: nothing more is joined
    by_cases z : c9_p (m0 18) p = 0
    · refine ih c (p + 1) m v m' (by rw [nt_c_n p0 z]; exact h) (by omega) (by omega) fr (U.e (fun a b => ⟨fun e => ?_, fun e => ?_⟩))
      · rcases e with e | ⟨q, q0, q1, q2⟩
        · exact Or.inl e
        · exact Or.inr ⟨q, q0, by omega, q2⟩
      · rcases e with e | ⟨q, q0, q1, q2, q3, q4, q5⟩
        · exact Or.inl e
        · by_cases y : q = p
          · exfalso
            rw [y] at q4 q5
            unfold c9_p at z
            rw [if_pos ⟨by unfold ca_o at q5; split at q5; exact Or.inl q5; exact Or.inr q5, q4⟩] at z
            exact absurd z (by decide)
          · exact Or.inr ⟨q, q0, by omega, q2, q3, q4, q5⟩
    · cases c with
      | zero => exact h.elim
      | succ c =>
        have r := nt_c_r (b := c9_p (m0 18)) p0
        have r2 := nt_c_le (b := c9_p (m0 18)) (h := p + 1) (k := 12) (by omega) (by omega)
        have cy := nt_c_y (b := c9_p (m0 18)) p0 z
        have w1 : dc_w (nt_c (c9_p (m0 18)) p + 1) = nt_c (c9_p (m0 18)) (p + 1) := by rw [dw (by omega) (by omega), cy]
        have w2 : dc_w (193 + p) = 193 + p := dw (by omega) (by omega)
        have w3 : dc_w (205 + p) = 205 + p := dw (by omega) (by omega)
        have w4 : dc_w (181 + p) = 181 + p := dw (by omega) (by omega)
        have g13 : m 17 13 = nt_c (c9_p (m0 18)) 12 := (fr 17 13 (by omega)).trans L8
        have g23 : m 23 (nt_c (c9_p (m0 18)) p) = p := (fr 23 _ (by omega)).trans (L9 p p0 (by omega) z)
        have g18 : m 18 = m0 18 := funext fun i => fr 18 i (by omega)
        have pc : m0 18 (181 + p) ≠ -1 := fun y => z (if_neg (fun q => q.2 y))
        have bit := nb_get (s := x) (x := (p / 3).toNat) (by omega) (by omega)
        rw [show (((p / 3).toNat : Nat) : Int) = p / 3 by omega] at bit
        replace h := lm_72_48.mp h
        rw [g13, g23, g18, w1, w2, w3, w4, ddv p0, bit] at h
        have wc : nt_w (m0 18) (181 + p) := ⟨by omega, by omega, pc⟩
        -- an end without a part
        have skip : m0 18 (ca_o x p) = -1 → LM_72 (x : Int) c 48 (60 * (x : Int)) (nt_c (c9_p (m0 18)) (p + 1)) m v m' → ∃ c m1, LM_72 (x : Int) c 174 (60 * (x : Int)) 0 m1 v m' ∧ (∀ (k : Nat) (i : Int), ¬ (k = 20 ∧ 60 * (x : Int) ≤ i ∧ i < 60 * (x : Int) + m0 17 2) → m1 k i = m0 k i) ∧ nt_U (m0 18) (fun y => m1 20 (60 * (x : Int) + y)) (m0 17 2) (ca_E W w (m0 18) x 12) := by
          intro y h
          refine ih c (p + 1) m v m' h (by clear h; omega) (by clear h; omega) fr (U.e (fun a b => ⟨fun e => ?_, fun e => ?_⟩))
          · rcases e with e | ⟨q, q0, q1, q2⟩
            · exact Or.inl e
            · exact Or.inr ⟨q, q0, by clear h; omega, q2⟩
          · rcases e with e | ⟨q, q0, q1, q2, q3, q4, q5⟩
            · exact Or.inl e
            · by_cases yy : q = p
              · rw [yy] at q5; exact absurd y q5
              · exact Or.inr ⟨q, q0, by clear h; omega, q2, q3, q4, q5⟩
        have both : (0 ≤ ca_o x p ∧ ca_o x p < 217) → m0 18 (ca_o x p) ≠ -1 → (∃ v1 m1, D_67 20 960 (60 * (x : Int)) (m0 18 (181 + p)) m v1 m1 ∧ ∃ v2 m2, D_67 20 960 (60 * (x : Int)) (m0 18 (ca_o x p)) m1 v2 m2 ∧ ((0 ≤ ((dc_w (60 * (x : Int) + (if v1 < v2 then v2 else v1))) : Int) ∧ ((dc_w (60 * (x : Int) + (if v1 < v2 then v2 else v1))) : Int) < 960) ∧ ∃ m3, m3 = dc_up m2 20 (dc_w (60 * (x : Int) + (if v1 < v2 then v2 else v1))) (if v2 < v1 then v2 else v1) ∧ LM_72 (x : Int) c 48 (60 * (x : Int)) (nt_c (c9_p (m0 18)) (p + 1)) m3 v m')) → ∃ c m1, LM_72 (x : Int) c 174 (60 * (x : Int)) 0 m1 v m' ∧ (∀ (k : Nat) (i : Int), ¬ (k = 20 ∧ 60 * (x : Int) ≤ i ∧ i < 60 * (x : Int) + m0 17 2) → m1 k i = m0 k i) ∧ nt_U (m0 18) (fun y => m1 20 (60 * (x : Int) + y)) (m0 17 2) (ca_E W w (m0 18) x 12) := by
          intro ob po ⟨v1, m1, h1, v2, m2, h2, _, m3, e3, h⟩
          have wo : nt_w (m0 18) (ca_o x p) := ⟨ob.1, ob.2, po⟩
          have q1 := U.2.1 _ wc
          have q2 := U.2.1 _ wo
          have hs : 0 ≤ 60 * (x : Int) ∧ 60 * (x : Int) ≤ 900 := by clear h h1 h2; omega
          obtain ⟨a1, a2, a3, a4, a5⟩ := c8_root (L := fun y => m 20 (60 * (x : Int) + y)) (fun _ _ _ => rfl) N01.2 hs U.1 h1 q1.1 q1.2
          clear h1
          rw [a1] at h2
          obtain ⟨b1, b2, b3, b4, b5⟩ := c8_root (L := fun y => m 20 (60 * (x : Int) + y)) (fun _ _ _ => rfl) N01.2 hs U.1 h2 q2.1 q2.2
          clear h2
          have bm : 0 ≤ (if v1 < v2 then v2 else v1) ∧ (if v1 < v2 then v2 else v1) < m0 17 2 := by split <;> exact ⟨by assumption, by assumption⟩
          rw [b1, dw (by clear h; omega) (by clear h; omega)] at e3
          have U2 := U.two wc wo a2 a3 b2 b3 a4 b4 a5 b5 (L2 := fun y => m3 20 (60 * (x : Int) + y)) (fun y => by
            show m3 20 (60 * (x : Int) + y) = _
            rw [e3]
            by_cases yy : y = (if v1 < v2 then v2 else v1)
            · rw [yy, dc_up_s, if_pos rfl]
            · rw [dc_up_i (by clear h; omega), if_neg yy])
          refine ih c (p + 1) m3 v m' h (by clear h; omega) (by clear h; omega) (fun k i zz => ?_) (U2.e (fun a b => ⟨fun e => ?_, fun e => ?_⟩))
          · rw [e3]
            exact (if_neg (fun yy => zz ⟨yy.1, by clear h; omega, by clear h; omega⟩)).trans (fr k i zz)
          · rcases e with (e | ⟨q, g0, g1, g2⟩) | ⟨e1, e2⟩
            · exact Or.inl e
            · exact Or.inr ⟨q, g0, by clear h; omega, g2⟩
            · exact Or.inr ⟨p, p0, by clear h; omega, e1, e2, pc, po⟩
          · rcases e with e | ⟨q, g0, g1, g2, g3, g4⟩
            · exact Or.inl (Or.inl e)
            · by_cases yy : q = p
              · rw [yy] at g2 g3; exact Or.inr ⟨g2, g3⟩
              · exact Or.inl (Or.inr ⟨q, g0, by clear h; omega, g2, g3, g4⟩)
        rcases h with ⟨c1, -⟩ | ⟨c1, -, h⟩
        · exfalso; omega
        · rcases h with ⟨c2, hb, h⟩ | ⟨c2, hb, h⟩
          · have eo : ca_o x p = 193 + p := if_pos (by clear h; omega)
            rcases h with ⟨c3, h⟩ | ⟨c3, -, v1, m1, h1, v2, m2, h2, h⟩
            · exact skip (by rw [eo]; exact c3) h
            · exact both (by rw [eo]; exact hb) (by rw [eo]; exact c3) ⟨v1, m1, h1, v2, m2, by rw [eo]; exact h2, h⟩
          · have eo : ca_o x p = 205 + p := if_neg (by clear h; omega)
            rcases h with ⟨c3, h⟩ | ⟨c3, -, v1, m1, h1, v2, m2, h2, h⟩
            · exact skip (by rw [eo]; exact c3) h
            · exact both (by rw [eo]; exact hb) (by rw [eo]; exact c3) ⟨v1, m1, h1, v2, m2, by rw [eo]; exact h2, h⟩
/-- want(picked) -/
theorem ca_want {W : List (Int × Int)} {w : Int} {x : Nat} (hx : x < 16) {m : dc_M} {s : Nat} (hs : s < 65536) (es : m 17 4 = (s : Int)) (Ls : c9_L m) (U : c8_U m (mp_W W w)) (hw : c9_W W w m) (hR : ∀ y : Nat, y < 16 → lb_b s y ≠ 0 → ca_R W w m y) {v : Int} {m' : dc_M} (h : D_72 (x : Int) m v m') : ∃ s2 : Nat, s2 < 65536 ∧ m' 17 4 = (s2 : Int) ∧ lb_b s2 x ≠ 0 ∧ (∀ y : Nat, y < 16 → lb_b s2 y ≠ 0 → ca_R W w m' y) ∧ ∀ (k : Nat) (i : Int), ¬ (k = 17 ∧ i = 4) → k ≠ 20 → m' k i = m k i := by
  have g := nb_get (s := s) (x := x) (by omega) (by omega)
  unfold D_72 at h
  rw [es, g] at h
  rcases h with ⟨c1, m1, e1, -, m2, e2, c, h⟩ | ⟨c1, -, em⟩
  · obtain ⟨p1, p2, p3⟩ := nb_put hs hx
    rw [p1] at e1
    have w1 : dc_w ((x : Int) * 60) = 60 * (x : Int) := by rw [dw (by clear h; omega) (by clear h; omega)]; clear h; omega
    have gN : m1 17 2 = m 17 2 := by rw [e1, dc_up_i (by decide)]
    rw [w1] at h e2
    rw [gN] at e2
    obtain ⟨⟨N0, N1⟩, U⟩ := U
    have f2 : ∀ (k : Nat) (i : Int), ¬ (k = 17 ∧ i = 4) → ¬ (k = 20 ∧ 60 * (x : Int) ≤ i ∧ i < 60 * (x : Int) + m 17 2) → m2 k i = m k i := fun k i z1 z2 => by
      rw [e2]
      refine (if_neg z2).trans ?_
      rw [e1]
      exact if_neg z1
    have e18 : m2 18 = m 18 := funext fun i => f2 18 i (by clear h; omega) (by clear h; omega)
    have e17 : m2 17 2 = m 17 2 := f2 17 2 (by clear h; omega) (by clear h; omega)
    have e20 : ∀ y, 0 ≤ y → y < m 17 2 → m2 20 (60 * (x : Int) + y) = m 19 y := fun y y0 y1 => by
      rw [e2, dc_cpy_i (by clear h; omega) (by clear h; omega), e1, dc_up_k (by decide), show (0 : Int) + (60 * (x : Int) + y - 60 * (x : Int)) = y by clear h; omega]
    have Ls2 : c9_L m2 := Ls.cg (fun k i hk => f2 k i (by clear h; omega) (by clear h; omega))
    have hw2 : c9_W W w m2 := by unfold c9_W; rw [e18]; exact hw
    have U2 : nt_U (m2 18) (fun y => m2 20 (60 * (x : Int) + y)) (m2 17 2) (ca_E W w (m2 18) x 0) := by
      rw [e18, e17]
      obtain ⟨u1, u2, u3, u4⟩ := U
      have mo : ∀ {a b : Int}, mp_q (nt_l (m 19) (m 17 2)) a b → mp_q (nt_l (fun y => m2 20 (60 * (x : Int) + y)) (m 17 2)) a b := fun q => q.mo (fun a b ⟨a0, a1, a2⟩ => ⟨a0, a1, by rw [a2]; exact (e20 a a0 a1).symm⟩)
      have ee : ∀ a b, ca_E W w (m 18) x 0 a b → mp_W W w a b := fun a b e => by
        rcases e with e | ⟨q, q0, q1, _⟩
        · exact e
        · exfalso; clear h; omega
      refine ⟨fun y y0 y1 => ?_, u2, fun a b e => ?_, fun f hf => ?_⟩
      · show 0 ≤ m2 20 (60 * (x : Int) + y) ∧ m2 20 (60 * (x : Int) + y) ≤ y
        rw [e20 y y0 y1]
        exact u1 y y0 y1
      · obtain ⟨q1, q2, q3⟩ := u3 a b (ee a b e)
        exact ⟨q1, q2, mo q3⟩
      · obtain ⟨F, F1, F2⟩ := u4 f (fun a b e => hf a b (Or.inl e))
        refine ⟨F, fun y y0 y1 => ?_, F2⟩
        show F (m2 20 (60 * (x : Int) + y)) = F y
        rw [e20 y y0 y1]
        exact F1 y y0 y1
    obtain ⟨c, m3, h, f3, U3⟩ := ca_48 hx Ls2 (by rw [e17]; exact ⟨N0, N1⟩) hw2 12 c 0 m2 v m' h rfl (by decide) (fun _ _ _ => rfl) U2
    rw [e18, e17] at U3
    obtain ⟨g1, g2⟩ := ca_174 (L := fun y => m3 20 (60 * (x : Int) + y)) (N := m 17 2) (m0 := m3) (by clear h; omega) N1 ((f3 17 2 (by clear h; omega)).trans e17) U3.1 (m 17 2).toNat c 0 m3 v m' h (by clear h; omega) (by decide) (fun _ _ _ => rfl) (fun _ _ _ => rfl) (fun y y0 y1 => by exfalso; clear h; omega)
    clear h
    have F : ∀ (k : Nat) (i : Int), ¬ (k = 17 ∧ i = 4) → ¬ (k = 20 ∧ 60 * (x : Int) ≤ i ∧ i < 60 * (x : Int) + m 17 2) → m' k i = m k i := fun k i z1 z2 => (g1 k i z2).trans ((f3 k i (by rw [e17]; exact z2)).trans (f2 k i z1 z2))
    have h18 : m' 18 = m 18 := funext fun i => F 18 i (by omega) (by omega)
    refine ⟨s ||| 2 ^ x, p2, ?_, ?_, fun y y16 yb => ?_, fun k i z1 z2 => F k i z1 (fun q => z2 q.1)⟩
    · rw [g1 17 4 (by omega), f3 17 4 (by omega), e2, dc_cpy_k (by decide), e1, dc_up_s]
    · rw [p3 x, if_pos rfl]; decide
    · by_cases z : y = x
      · subst z
        have key : ∀ a b, nt_w (m 18) a → nt_w (m 18) b → (m' 20 (60 * (y : Int) + m 18 a) = m' 20 (60 * (y : Int) + m 18 b) ↔ mp_q (mp_E W w (ca_k y)) a b) := fun a b wa wb => by
          have qa := U3.2.1 a wa
          have qb := U3.2.1 b wb
          obtain ⟨-, ga, -⟩ := g2 _ qa.1 qa.2
          obtain ⟨-, gb, -⟩ := g2 _ qb.1 qb.2
          refine Iff.trans ?_ ((U3.iff wa wb).trans (ca_q hw wa wb))
          refine ⟨fun e => ga.tr ?_, fun q => q (fun t => m' 20 (60 * (y : Int) + t)) (fun s t ⟨s0, s1, e⟩ => ?_)⟩
          · rw [e]; exact gb.sy
          · show m' 20 (60 * (y : Int) + s) = m' 20 (60 * (y : Int) + t)
            rw [e]
            exact (g2 s s0 s1).2.2.symm
        unfold ca_R
        rw [h18]
        refine ⟨key, fun a wa => ?_⟩
        have qa := U3.2.1 a wa
        obtain ⟨ga, -⟩ := g2 _ qa.1 qa.2
        omega
      · have b : lb_b s y ≠ 0 := by rw [p3 y, if_neg z] at yb; exact yb
        obtain ⟨r1, r2⟩ := hR y y16 b
        have e : ∀ a, nt_w (m 18) a → m' 20 (60 * (y : Int) + m 18 a) = m 20 (60 * (y : Int) + m 18 a) := fun a wa => by
          have qa := U.2.1 a wa
          exact F 20 _ (by omega) (by omega)
        unfold ca_R
        rw [h18]
        refine ⟨fun a b wa wb => ?_, fun a wa => ?_⟩
        · rw [e a wa, e b wb]; exact r1 a b wa wb
        · rw [e a wa]; exact r2 a wa
  · rw [em]
    exact ⟨s, hs, es, by omega, hR, fun _ _ _ _ => rfl⟩
/-- netOf(picked, hub) -/
theorem ca_net {E0 : Int → Int → Prop} {x : Nat} (hx : x < 16) {h0 : Int} {m : dc_M} {v : Int} {m' : dc_M} (U : c8_U m E0) (h : D_73 (x : Int) h0 m v m') : m' = m ∧ (0 ≤ h0 ∧ h0 < 217) ∧ ((m 18 h0 = -1 ∧ v = -1) ∨ (m 18 h0 ≠ -1 ∧ v = m 20 (60 * (x : Int) + m 18 h0))) := by
  obtain ⟨hb, h⟩ := h
  rcases h with ⟨c1, -, ev, em⟩ | ⟨c1, ev, em⟩
  · have q := U.2.2.1 h0 ⟨hb.1, hb.2, c1⟩
    have k := U.1
    rw [dw (z := (x : Int) * 60) (by omega) (by omega), dw (z := (x : Int) * 60 + m 18 h0) (by omega) (by omega), show (x : Int) * 60 = 60 * (x : Int) by omega] at ev
    exact ⟨em, hb, Or.inr ⟨c1, ev⟩⟩
  · exact ⟨em, hb, Or.inl ⟨Classical.not_not.mp c1, ev⟩⟩
