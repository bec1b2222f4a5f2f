/-! FEED: both tapes take the same bytes -/
def pz_u1 (T : Int → Int) (n v : Int) : Int → Int := fun i => if i = n then v else T i
def pz_cb (x l : Int) : Int := sv_g (sv_u (sv_g (ae_ushr (sv_u x) (sv_u l))) &&& sv_u 255)
def pz_rb (x l : Int) : Int := sv_g (sv_u (dc_b (dc_b (sv_g (ae_shr (sv_u x) (sv_u l))))) &&& sv_u 255)
theorem pz_and (X : Nat) : X &&& 255 = X % 256 := by
  have h := Nat.and_two_pow_sub_one_eq_mod X 8
  rw [show (2 : Nat) ^ 8 - 1 = 255 from by decide, show (2 : Nat) ^ 8 = 256 from by decide] at h
  exact h
theorem pz_b8 {a : Nat} : ae_b8 a % 256 = a % 256 ∧ ae_b8 a < 4294967296 := by
  refine ⟨?_, ae_b8_lt a⟩
  have e : Nat.mod a 256 = a % 256 := rfl
  have hb : a % 256 < 256 := Nat.mod_lt _ (by decide)
  unfold ae_b8
  rw [e]
  generalize a % 256 = b at hb ⊢
  cases Nat.ble 128 b with
  | false => rw [cond_false]; omega
  | true => rw [cond_true, show Nat.add b 4294967040 = b + 4294967040 from rfl]; omega
theorem pz_dcb {z : Int} : sv_u (dc_b z) % 256 = sv_u z % 256 := by
  unfold dc_b
  rw [sv_u_g pz_b8.2]
  exact pz_b8.1
theorem pz_shr {X s : Nat} (hX : X < 4294967296) (hs : s = 0 ∨ s = 8 ∨ s = 16 ∨ s = 24) : ae_shr X s % 256 = ae_ushr X s % 256 ∧ ae_shr X s < 4294967296 ∧ ae_ushr X s < 4294967296 := by
  have e : ∀ Y : Nat, Nat.shiftRight Y (Nat.mod s 32) = Y / 2 ^ s := fun Y => by
    rw [show Nat.mod s 32 = s by rcases hs with h | h | h | h <;> rw [h] <;> rfl]
    exact Nat.shiftRight_eq_div_pow Y s
  unfold ae_shr ae_ushr
  rw [e, e]
  cases h : Nat.ble 2147483648 X with
  | false =>
    show X / 2 ^ s % 256 = X / 2 ^ s % 256 ∧ X / 2 ^ s < 4294967296 ∧ X / 2 ^ s < 4294967296
    have := Nat.div_le_self X (2 ^ s)
    exact ⟨rfl, by omega, by omega⟩
  | true =>
    show (4294967295 - (4294967295 - X) / 2 ^ s) % 256 = X / 2 ^ s % 256 ∧ 4294967295 - (4294967295 - X) / 2 ^ s < 4294967296 ∧ X / 2 ^ s < 4294967296
    have h := Nat.le_of_ble_eq_true h
    rcases hs with z | z | z | z
    · subst z
      show (4294967295 - (4294967295 - X) / 1) % 256 = X / 1 % 256 ∧ 4294967295 - (4294967295 - X) / 1 < 4294967296 ∧ X / 1 < 4294967296
      omega
    · subst z
      show (4294967295 - (4294967295 - X) / 256) % 256 = X / 256 % 256 ∧ 4294967295 - (4294967295 - X) / 256 < 4294967296 ∧ X / 256 < 4294967296
      omega
    · subst z
      show (4294967295 - (4294967295 - X) / 65536) % 256 = X / 65536 % 256 ∧ 4294967295 - (4294967295 - X) / 65536 < 4294967296 ∧ X / 65536 < 4294967296
      omega
    · subst z
      show (4294967295 - (4294967295 - X) / 16777216) % 256 = X / 16777216 % 256 ∧ 4294967295 - (4294967295 - X) / 16777216 < 4294967296 ∧ X / 16777216 < 4294967296
      omega
theorem pz_cr (x : Int) {l : Int} (hl : l = 0 ∨ l = 8 ∨ l = 16 ∨ l = 24) : pz_cb x l = pz_rb x l := by
  have hs : sv_u l = 0 ∨ sv_u l = 8 ∨ sv_u l = 16 ∨ sv_u l = 24 := by
    rcases hl with h | h | h | h
    · exact Or.inl (by rw [h]; decide)
    · exact Or.inr (Or.inl (by rw [h]; decide))
    · exact Or.inr (Or.inr (Or.inl (by rw [h]; decide)))
    · exact Or.inr (Or.inr (Or.inr (by rw [h]; decide)))
  obtain ⟨q1, q2, q3⟩ := pz_shr (sv_u_lt x) hs
  unfold pz_cb pz_rb
  have e : sv_u 255 = 255 := by decide
  rw [e, pz_and, pz_and, pz_dcb, pz_dcb, sv_u_g q2, sv_u_g q3, q1]
/-- one byte in -/
theorem cz_f1 {x : Int} {c : Nat} {l : Int} {m : dc_M} {v : Int} {m' : dc_M} (h : LM_113 x c 3 l m v m') (hl : 0 ≤ l) (hn : 0 ≤ m 1 1 ∧ m 1 1 < 740) : ∃ c' m1, LM_113 x c' 3 (dc_w (l + (-8))) m1 v m' ∧ m1 2 = pz_u1 (m 2) (m 1 1) (pz_cb x l) ∧ m1 1 1 = m 1 1 + 1 ∧ ∀ k i, k ≠ 1 → k ≠ 2 → m1 k i = m k i := by
  cases c with
  | zero => exact h.elim
  | succ c =>
    replace h := lm_113_3.mp h
    rcases h with ⟨c1, -⟩ | ⟨c1, h⟩
    · exfalso; omega
    · rcases h with ⟨c2, -⟩ | ⟨c2, -, m1, e1, m2, e2, h⟩
      · exfalso; omega
      · have g1 : m1 1 1 = m 1 1 := by rw [e1, dc_up_k (by decide)]
        rw [g1, dc_w_eq (by unfold sv_I; omega)] at e2
        refine ⟨c, m2, h, funext fun i => ?_, by rw [e2, dc_up_s], fun k i h1 h2 => by rw [e2, dc_up_k h1, e1, dc_up_k h2]⟩
        rw [e2, dc_up_k (by decide), e1]
        unfold pz_u1
        by_cases z : i = m 1 1
        · rw [if_pos z, z, dc_up_s]; rfl
        · rw [if_neg z, dc_up_i z]
def pz_u4 (f : Int → Int → Int) (T : Int → Int) (n x : Int) : Int → Int := pz_u1 (pz_u1 (pz_u1 (pz_u1 T n (f x 24)) (n + 1) (f x 16)) (n + 2) (f x 8)) (n + 3) (f x 0)
theorem cz_f4 {x : Int} {m : dc_M} {v : Int} {m' : dc_M} (h : D_113 x m v m') (hn : 0 ≤ m 1 1 ∧ m 1 1 + 4 ≤ 740) : m' 2 = pz_u4 pz_cb (m 2) (m 1 1) x ∧ m' 1 1 = m 1 1 + 4 ∧ ∀ k i, k ≠ 1 → k ≠ 2 → m' k i = m k i := by
  obtain ⟨c, h⟩ := h
  obtain ⟨c1, m1, h, a1, b1, f1⟩ := cz_f1 h (by decide) (by omega)
  rw [show dc_w (24 + (-8)) = 16 by decide] at h
  obtain ⟨c2, m2, h, a2, b2, f2⟩ := cz_f1 h (by decide) (by omega)
  rw [show dc_w (16 + (-8)) = 8 by decide] at h
  obtain ⟨c3, m3, h, a3, b3, f3⟩ := cz_f1 h (by decide) (by omega)
  rw [show dc_w (8 + (-8)) = 0 by decide] at h
  obtain ⟨c4, m4, h, a4, b4, f4⟩ := cz_f1 h (by decide) (by omega)
  rw [show dc_w (0 + (-8)) = -8 by decide] at h
  cases c4 with
  | zero => exact h.elim
  | succ c =>
    replace h := lm_113_3.mp h
    rcases h with ⟨-, -, em⟩ | ⟨z, -⟩
    · subst em
      refine ⟨?_, by omega, fun k i h1 h2 => by rw [f4 k i h1 h2, f3 k i h1 h2, f2 k i h1 h2, f1 k i h1 h2]⟩
      rw [a4, a3, a2, a1, show m3 1 1 = m 1 1 + 3 by omega, show m2 1 1 = m 1 1 + 2 by omega, b1]
      rfl
    · exact absurd (by decide) z
theorem rz_f1 {x : Int} {c : Nat} {l : Int} {m : dc_M} {v : Int} {m' : dc_M} (h : LM_185 x c 3 l m v m') (hl : 0 ≤ l) (hn : 0 ≤ m 114 2 ∧ m 114 2 < 740) : ∃ c' m1, LM_185 x c' 3 (dc_w (l + (-8))) m1 v m' ∧ rz_t m1 = pz_u1 (rz_t m) (m 114 2) (pz_rb x l) ∧ m1 114 2 = m 114 2 + 1 ∧ ∀ k i, k ≠ 114 → k ≠ 115 → m1 k i = m k i := by
  cases c with
  | zero => exact h.elim
  | succ c =>
    replace h := lm_185_3.mp h
    rcases h with ⟨c1, -⟩ | ⟨c1, -, m1, e1, m2, e2, h⟩
    · exfalso; omega
    · have g1 : m1 114 2 = m 114 2 := by rw [e1, dc_up_k (by decide)]
      rw [g1, dc_w_eq (by unfold sv_I; omega)] at e2
      refine ⟨c, m2, h, funext fun i => ?_, by rw [e2, dc_up_s], fun k i h1 h2 => by rw [e2, dc_up_k h1, e1, dc_up_k h2]⟩
      unfold rz_t pz_u1
      rw [e2, dc_up_k (by decide), e1]
      by_cases z : i = m 114 2
      · rw [if_pos z, z, dc_up_s]; rfl
      · rw [if_neg z, dc_up_i z]
theorem rz_f4 {x : Int} {m : dc_M} {v : Int} {m' : dc_M} (h : D_185 x m v m') (hn : 0 ≤ m 114 2 ∧ m 114 2 + 4 ≤ 740) : rz_t m' = pz_u4 pz_rb (rz_t m) (m 114 2) x ∧ m' 114 2 = m 114 2 + 4 ∧ ∀ k i, k ≠ 114 → k ≠ 115 → m' k i = m k i := by
  obtain ⟨c, h⟩ := h
  obtain ⟨c1, m1, h, a1, b1, f1⟩ := rz_f1 h (by decide) (by omega)
  rw [show dc_w (24 + (-8)) = 16 by decide] at h
  obtain ⟨c2, m2, h, a2, b2, f2⟩ := rz_f1 h (by decide) (by omega)
  rw [show dc_w (16 + (-8)) = 8 by decide] at h
  obtain ⟨c3, m3, h, a3, b3, f3⟩ := rz_f1 h (by decide) (by omega)
  rw [show dc_w (8 + (-8)) = 0 by decide] at h
  obtain ⟨c4, m4, h, a4, b4, f4⟩ := rz_f1 h (by decide) (by omega)
  rw [show dc_w (0 + (-8)) = -8 by decide] at h
  cases c4 with
  | zero => exact h.elim
  | succ c =>
    replace h := lm_185_3.mp h
    rcases h with ⟨-, -, em⟩ | ⟨z, -⟩
    · subst em
      refine ⟨?_, by omega, fun k i h1 h2 => by rw [f4 k i h1 h2, f3 k i h1 h2, f2 k i h1 h2, f1 k i h1 h2]⟩
      rw [a4, a3, a2, a1, show m3 114 2 = m 114 2 + 3 by omega, show m2 114 2 = m 114 2 + 2 by omega, b1]
      rfl
    · exact absurd (by decide) z
theorem pz_u4_cr {T : Int → Int} {n x : Int} : pz_u4 pz_cb T n x = pz_u4 pz_rb T n x := by
  unfold pz_u4
  rw [pz_cr x (by decide : (24 : Int) = 0 ∨ (24 : Int) = 8 ∨ (24 : Int) = 16 ∨ (24 : Int) = 24), pz_cr x (by decide : (16 : Int) = 0 ∨ (16 : Int) = 8 ∨ (16 : Int) = 16 ∨ (16 : Int) = 24), pz_cr x (by decide : (8 : Int) = 0 ∨ (8 : Int) = 8 ∨ (8 : Int) = 16 ∨ (8 : Int) = 24), pz_cr x (by decide : (0 : Int) = 0 ∨ (0 : Int) = 8 ∨ (0 : Int) = 16 ∨ (0 : Int) = 24)]
def pz_u5 (T : Int → Int) (n a b c d e : Int) : Int → Int := pz_u4 pz_rb (pz_u4 pz_rb (pz_u4 pz_rb (pz_u4 pz_rb (pz_u4 pz_rb T n a) (n + 4) b) (n + 8) c) (n + 12) d) (n + 16) e
/-- the class's feed() -/
theorem cz_feed {a b c d e : Int} {m : dc_M} {v : Int} {m' : dc_M} (h : D_144 a b c d e m v m') (hn : 0 ≤ m 1 1 ∧ m 1 1 ≤ 740) : (m 1 1 ≤ 720 → m' 2 = pz_u5 (m 2) (m 1 1) a b c d e) ∧ (721 ≤ m 1 1 → m' 2 = m 2) ∧ ∀ k i, k ≠ 1 → k ≠ 2 → m' k i = m k i := by
  have w : dc_w (m 1 1 + 20) = m 1 1 + 20 := dc_w_eq (by unfold sv_I; omega)
  unfold D_144 at h
  rw [w] at h
  rcases h with ⟨c1, v1, m1, h1, v2, m2, h2, v3, m3, h3, v4, m4, h4, v5, m5, h5, -, em⟩ | ⟨c1, -, em⟩
  · subst em
    obtain ⟨a1, b1, f1⟩ := cz_f4 h1 (by omega)
    obtain ⟨a2, b2, f2⟩ := cz_f4 h2 (by omega)
    obtain ⟨a3, b3, f3⟩ := cz_f4 h3 (by omega)
    obtain ⟨a4, b4, f4⟩ := cz_f4 h4 (by omega)
    obtain ⟨a5, b5, f5⟩ := cz_f4 h5 (by omega)
    refine ⟨fun _ => ?_, fun z => by omega, fun k i k1 k2 => by rw [f5 k i k1 k2, f4 k i k1 k2, f3 k i k1 k2, f2 k i k1 k2, f1 k i k1 k2]⟩
    rw [a5, a4, a3, a2, a1, show m4 1 1 = m 1 1 + 16 by omega, show m3 1 1 = m 1 1 + 12 by omega, show m2 1 1 = m 1 1 + 8 by omega, b1]
    rw [pz_u4_cr, pz_u4_cr, pz_u4_cr, pz_u4_cr, pz_u4_cr]
    rfl
  · subst em
    exact ⟨fun z => by omega, fun _ => rfl, fun _ _ _ _ => rfl⟩
/-- the reference's feed() -/
theorem rz_feed {a b c d e : Int} {m : dc_M} {v : Int} {m' : dc_M} (h : D_184 a b c d e m v m') (hn : 0 ≤ m 114 2 ∧ m 114 2 ≤ 740) : (m 114 2 ≤ 720 → rz_t m' = pz_u5 (rz_t m) (m 114 2) a b c d e) ∧ (721 ≤ m 114 2 → rz_t m' = rz_t m) ∧ ∀ k i, k ≠ 114 → k ≠ 115 → m' k i = m k i := by
  obtain ⟨m0, e0, h⟩ := h
  have g2 : m0 114 2 = m 114 2 := by rw [e0, dc_up_i (by decide)]
  have gt : rz_t m0 = rz_t m := funext fun i => by unfold rz_t; rw [e0, dc_up_k (by decide)]
  have gf : ∀ k i, k ≠ 114 → m0 k i = m k i := fun k i hk => by rw [e0, dc_up_k hk]
  have w : dc_w (m0 114 2 + 20) = m 114 2 + 20 := by rw [g2]; exact dc_w_eq (by unfold sv_I; omega)
  rw [w] at h
  rcases h with ⟨c1, v1, m1, h1, v2, m2, h2, v3, m3, h3, v4, m4, h4, v5, m5, h5, -, em⟩ | ⟨c1, -, em⟩
  · subst em
    obtain ⟨a1, b1, f1⟩ := rz_f4 h1 (by omega)
    obtain ⟨a2, b2, f2⟩ := rz_f4 h2 (by omega)
    obtain ⟨a3, b3, f3⟩ := rz_f4 h3 (by omega)
    obtain ⟨a4, b4, f4⟩ := rz_f4 h4 (by omega)
    obtain ⟨a5, b5, f5⟩ := rz_f4 h5 (by omega)
    refine ⟨fun _ => ?_, fun z => by omega, fun k i k1 k2 => by rw [f5 k i k1 k2, f4 k i k1 k2, f3 k i k1 k2, f2 k i k1 k2, f1 k i k1 k2, gf k i k1]⟩
    rw [a5, a4, a3, a2, a1, gt, show m4 114 2 = m 114 2 + 16 by omega, show m3 114 2 = m 114 2 + 12 by omega, show m2 114 2 = m 114 2 + 8 by omega, show m1 114 2 = m 114 2 + 4 by omega, g2]
    rfl
  · subst em
    exact ⟨fun z => by omega, fun _ => gt, fun k i k1 _ => gf k i k1⟩
/-! THE SHAPE stays where no final field is written -/
def dcz_ff (f : Nat × Nat) (u : sv_ft) : Bool := match f.1 with
  | 0 => Nat.beq u.1 0
  | 1 => true
  | 2 => and (Nat.beq u.1 1) (Nat.beq u.2.2.2 f.2)
  | 3 => and (Nat.beq u.1 3) (Nat.beq u.2.2.2 f.2)
  | 4 => Nat.beq u.1 4
  | _ => true
def dcz_fl : List (Nat × Nat) → List sv_ft → Bool
  | [], [] => true
  | f :: fs, u :: us => and (dcz_ff f u) (dcz_fl fs us)
  | _, _ => false
def dcz_ss (S : dc_S) (T : sv_T) : Bool := and (Nat.beq S.1 T.1) (match S.1 with
  | 0 => and (Nat.beq S.2.1 T.2.1) (dcz_fl S.2.2.2 T.2.2.2.2.2.2)
  | 1 => and (Nat.beq S.2.1 T.2.1) (Nat.beq S.2.2.1 T.2.2.1)
  | 2 => and (Nat.beq S.2.1 3) (Nat.beq S.2.2.1 T.2.2.1)
  | 3 => true
  | _ => false)
def dcz_sl : List dc_S → List sv_T → Bool
  | [], [] => true
  | f :: fs, u :: us => and (dcz_ss f u) (dcz_sl fs us)
  | _, _ => false
theorem dcz_tab : dcz_sl dc_tt sv_tt = true := by decide +kernel
theorem dcz_fl_at : ∀ {a : List (Nat × Nat)} {b : List sv_ft}, dcz_fl a b = true → a.length = b.length ∧ ∀ (j : Nat) (f : Nat × Nat) (u : sv_ft), a[j]? = some f → b[j]? = some u → dcz_ff f u = true
  | [], [], _ => ⟨rfl, fun j f u h => by cases h⟩
  | [], _ :: _, h => by cases h
  | _ :: _, [], h => by cases h
  | a :: as, b :: bs, h => by
    obtain ⟨h1, h2⟩ := ae_band (show and (dcz_ff a b) (dcz_fl as bs) = true from h)
    obtain ⟨q1, q2⟩ := dcz_fl_at h2
    refine ⟨congrArg Nat.succ q1, fun j f u ha hb => ?_⟩
    cases j with
    | zero => cases ha; cases hb; exact h1
    | succ j => exact q2 j f u ha hb
theorem dcz_sl_at : ∀ {a : List dc_S} {b : List sv_T}, dcz_sl a b = true → ∀ (j : Nat) (f : dc_S) (u : sv_T), a[j]? = some f → b[j]? = some u → dcz_ss f u = true
  | [], [], _ => fun j f u h => by cases h
  | [], _ :: _, h => by cases h
  | _ :: _, [], h => by cases h
  | a :: as, b :: bs, h => by
    obtain ⟨h1, h2⟩ := ae_band (show and (dcz_ss a b) (dcz_sl as bs) = true from h)
    intro j f u ha hb
    cases j with
    | zero => cases ha; cases hb; exact h1
    | succ j => exact dcz_sl_at h2 j f u ha hb
/-- no final field, no row of things is among these -/
def dc_fb (f : Nat × Nat) : Bool := match f.1 with
  | 0 => true
  | 2 => true
  | 3 => true
  | 4 => true
  | _ => false
def dc_n1 (q : Nat × Nat) : Bool := match dc_tt[q.1]? with
  | none => true
  | some S => (match S.1 with
    | 0 => (match S.2.2.2[q.2]? with
      | some f => dc_fb f
      | none => true)
    | 3 => false
    | _ => true)
def dc_no (ms : List (Nat × Nat)) : Bool := ms.all dc_n1
theorem dc_no_ok {ms : List (Nat × Nat)} (h : dc_no ms = true) {t j : Nat} (hf : dc_n1 (t, j) = false) : (t, j) ∉ ms := fun z => by
  have := List.all_eq_true.mp h _ z
  rw [hf] at this
  cases this
theorem dc_ok_fr {ms : List (Nat × Nat)} {h h2 : ae_H} (hk2 : sv_hk sv_ty sv_tt h2) (hf : sv_fr sv_ty ms h h2) (hm : dc_no ms = true) (ok : dc_ok h) : dc_ok h2 := by
  intro k t ht
  obtain ⟨S, eS, hs⟩ := ok k t ht
  obtain ⟨T, eT, ho⟩ := hk2 k t ht
  have hc := dcz_sl_at dcz_tab t S T eS eT
  refine ⟨S, eS, ?_⟩
  obtain ⟨s0, s1, s2, s3⟩ := S
  obtain ⟨t0, t1, t2, t3, t4, t5, t6⟩ := T
  obtain ⟨hc0, hc⟩ := ae_band (show and (Nat.beq s0 t0) _ = true from hc)
  have e0 : s0 = t0 := Nat.eq_of_beq_eq_true hc0
  subst e0
  match s0, eS, hs, hc, ho with
  | 0, eS, hs, hc, ho =>
    obtain ⟨fs, g1, l1, q1⟩ := hs
    obtain ⟨fs2, g2, l2, q2⟩ := ho
    obtain ⟨c1, c2⟩ := ae_band (show and (Nat.beq s1 t1) (dcz_fl s3 t6) = true from hc)
    have e1 : s1 = t1 := Nat.eq_of_beq_eq_true c1
    obtain ⟨l3, q3⟩ := dcz_fl_at c2
    obtain ⟨fs', g3, q4⟩ := hf k t ht _ g1
    have e2 : fs' = fs2 := by
      rw [g2] at g3
      cases g3
      rfl
    subst e2
    refine ⟨fs', by rw [g3], l2.trans l3.symm, fun j f v hj hv => ?_⟩
    have hlt : j < t6.length := by rw [← l3]; exact (List.getElem?_eq_some_iff.mp hj).1
    have hu : t6[j]? = some t6[j] := List.getElem?_eq_getElem hlt
    have hff := q3 j f _ hj hu
    have hfk := q2 j _ v hu hv
    by_cases hb : dc_fb f = true
    · obtain ⟨f0, f1⟩ := f
      generalize t6[j] = u at hff hfk
      obtain ⟨u0, u1, u2, u3⟩ := u
      match f0, hff, hb with
      | 0, hff, _ =>
        have e : u0 = 0 := Nat.eq_of_beq_eq_true hff
        subst e
        obtain ⟨x, ex, -⟩ := hfk
        exact ⟨sv_u x, sv_u_lt x, ex⟩
      | 1, _, hb => cases hb
      | 2, hff, _ =>
        obtain ⟨z1, z2⟩ := ae_band (show and (Nat.beq u0 1) (Nat.beq u3 f1) = true from hff)
        have e : u0 = 1 := Nat.eq_of_beq_eq_true z1
        have e' : u3 = f1 := Nat.eq_of_beq_eq_true z2
        subst e e'
        obtain ⟨k2, ek, tk⟩ := hfk
        exact ⟨k2, ek, tk⟩
      | 3, hff, _ =>
        obtain ⟨z1, z2⟩ := ae_band (show and (Nat.beq u0 3) (Nat.beq u3 f1) = true from hff)
        have e : u0 = 3 := Nat.eq_of_beq_eq_true z1
        have e' : u3 = f1 := Nat.eq_of_beq_eq_true z2
        subst e e'
        rcases hfk with z | ⟨k2, ek, tk⟩
        · exact Or.inl z
        · exact Or.inr ⟨k2, ek, tk⟩
      | 4, hff, _ =>
        have e : u0 = 4 := Nat.eq_of_beq_eq_true hff
        subst e
        obtain ⟨x, ex, -⟩ := hfk
        exact ⟨sv_ul x, sv_ul_lt x, ex⟩
      | n + 5, _, hb => cases hb
    · have hb : dc_fb f = false := by
        cases z : dc_fb f with
        | true => exact absurd z hb
        | false => rfl
      have hn : (t, j) ∉ ms := dc_no_ok hm (by
        show (match dc_tt[t]? with
          | none => true
          | some S => (match S.1 with
            | 0 => (match S.2.2.2[j]? with
              | some f => dc_fb f
              | none => true)
            | 3 => false
            | _ => true)) = false
        rw [eS]
        show (match s3[j]? with
              | some f => dc_fb f
              | none => true) = false
        rw [hj]
        exact hb)
      exact q1 j f v hj ((q4 j hn).symm.trans hv)
  | 1, eS, hs, hc, ho =>
    obtain ⟨A, g1, -⟩ := ho
    obtain ⟨c1, c2⟩ := ae_band (show and (Nat.beq s1 t1) (Nat.beq s2 t2) = true from hc)
    have e1 : s1 = t1 := Nat.eq_of_beq_eq_true c1
    have e2 : s2 = t2 := Nat.eq_of_beq_eq_true c2
    subst e1 e2
    exact ⟨A, g1⟩
  | 2, eS, hs, hc, ho =>
    obtain ⟨A, g1⟩ := ho
    obtain ⟨c1, c2⟩ := ae_band (show and (Nat.beq s1 3) (Nat.beq s2 t2) = true from hc)
    have e1 : s1 = 3 := Nat.eq_of_beq_eq_true c1
    have e2 : s2 = t2 := Nat.eq_of_beq_eq_true c2
    subst e1 e2
    exact ⟨A, g1⟩
  | 3, eS, hs, hc, ho =>
    have hn : (t, 0) ∉ ms := dc_no_ok hm (by
      show (match dc_tt[t]? with
          | none => true
          | some S => (match S.1 with
            | 0 => (match S.2.2.2[0]? with
              | some f => dc_fb f
              | none => true)
            | 3 => false
            | _ => true)) = false
      rw [eS]
      rfl)
    exact hf k t ht _ hs hn
  | n + 4, eS, hs, hc, ho => cases hc
