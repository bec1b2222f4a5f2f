/-! THE CLASS'S CYCLES -/
theorem cg_15 : ∀ y : Nat, y < 32 → sv_g (sv_u (y : Nat) &&& sv_u 15) = ((y % 16 : Nat) : Int) ∧ (sv_g (sv_u (y : Nat) &&& sv_u 16) = 0 ↔ y ≤ 15) := by decide +kernel
/-- the dealt CARDS -/
def cg_D (dk : Int → Int → Int) (n : Int) (m : dc_M) : Prop := m 3 4 = n ∧ (0 ≤ n ∧ n ≤ 40) ∧ (∀ k c, 0 ≤ dk k c ∧ dk k c ≤ 31) ∧ ∀ k, 0 ≤ k → k < n → (0 ≤ m 7 k ∧ m 7 k ≤ 6380) ∧ ∀ c, 0 ≤ c → c < 20 → m 4 (m 7 k + c) = dk k c
theorem cg_D.cg {dk : Int → Int → Int} {n : Int} {m m2 : dc_M} (h : cg_D dk n m) (f : ∀ (k : Nat) (i : Int), (k = 3 ∨ k = 4 ∨ k = 7) → m2 k i = m k i) : cg_D dk n m2 := ⟨(f 3 4 (by omega)).trans h.1, h.2.1, h.2.2.1, fun k k0 k1 => by
  rw [f 7 k (by omega)]
  exact ⟨(h.2.2.2 k k0 k1).1, fun c c0 c1 => (f 4 _ (by omega)).trans ((h.2.2.2 k k0 k1).2 c c0 c1)⟩⟩
theorem cg_51 {dk : Int → Int → Int} {n : Int} {m : dc_M} (D : cg_D dk n m) {k c : Int} (k0 : 0 ≤ k) (k1 : k < n) (c0 : 0 ≤ c) (c1 : c < 20) {v : Int} {m' : dc_M} (h : D_51 (m 7 k) (c + 1) m v m') : m' = m ∧ v = mp_dg (dk k c) := by
  obtain ⟨⟨a0, a1⟩, q⟩ := D.2.2.2 k k0 k1
  have r := D.2.2.1 k c
  obtain ⟨v1, m1, ⟨-, e1, e2⟩, h⟩ := h
  rw [dw (z := m 7 k + (c + 1)) (by omega) (by omega), dw (z := m 7 k + (c + 1) - 1) (by omega) (by omega), show m 7 k + (c + 1) - 1 = m 7 k + c by omega, q c c0 c1] at e1
  have b := (cg_15 (dk k c).toNat (by omega)).1
  rw [show (((dk k c).toNat : Nat) : Int) = dk k c by omega] at b
  rw [b] at e1
  have ev : v1 = dk k c % 16 := by rw [e1]; omega
  rw [e2, ev] at h
  unfold mp_dg
  rcases h with ⟨z, ev, em⟩ | ⟨z, ev, em⟩
  · exact ⟨em, by rw [if_neg z]; exact ev⟩
  · exact ⟨em, by rw [if_pos (Classical.not_not.mp z)]; exact ev⟩
theorem cg_27 {dk : Int → Int → Int} {n : Int} {m : dc_M} (D : cg_D dk n m) {k c : Int} (k0 : 0 ≤ k) (k1 : k < n) (c0 : 0 ≤ c) (c1 : c < 20) {v : Int} {m' : dc_M} (h : D_27 (m 7 k) (c + 1) m v m') : m' = m ∧ ((v = 1 ∧ dk k c > 15) ∨ (v = 0 ∧ ¬ dk k c > 15)) := by
  obtain ⟨⟨a0, a1⟩, q⟩ := D.2.2.2 k k0 k1
  have r := D.2.2.1 k c
  obtain ⟨-, h⟩ := h
  rw [dw (z := m 7 k + (c + 1)) (by omega) (by omega), dw (z := m 7 k + (c + 1) - 1) (by omega) (by omega), show m 7 k + (c + 1) - 1 = m 7 k + c by omega, q c c0 c1] at h
  have b := (cg_15 (dk k c).toNat (by omega)).2
  rw [show (((dk k c).toNat : Nat) : Int) = dk k c by omega] at b
  rcases h with ⟨z, ev, em⟩ | ⟨z, ev, em⟩
  · exact ⟨em, Or.inr ⟨ev, by have := b.mp z; omega⟩⟩
  · exact ⟨em, Or.inl ⟨ev, by
      refine Classical.byContradiction fun y => z (b.mpr ?_)
      omega⟩⟩
/-- givenByCard -/
theorem cg_50 {dk : Int → Int → Int} {n : Int} {m : dc_M} (D : cg_D dk n m) {k h0 x2 : Int} (k0 : 0 ≤ k) (k1 : k < n) (h1 : 0 ≤ h0) (h2 : h0 < 61) (ex : x2 = if k + 1 < n then m 7 (k + 1) else -1) {v : Int} {m' : dc_M} (h : D_50 h0 (m 7 k) x2 m v m') : m' = m ∧ v = mp_gc dk n k h0 := by
  unfold D_50 at h
  rw [dw (z := h0 - 40) (by omega) (by omega), dw (z := h0 - 20) (by omega) (by omega), dw (z := h0 - 0) (by omega) (by omega), dw (z := h0 - 40 + 1) (by omega) (by omega), dw (z := h0 - 20 + 1) (by omega) (by omega), dw (z := h0 - 0 + 1) (by omega) (by omega)] at h
  unfold mp_gc
  rcases h with ⟨c1, h⟩ | ⟨c1, v1, m1, hd, ev, em⟩
  · rw [if_neg (by omega)]
    rcases h with ⟨c2, h⟩ | ⟨c2, h⟩
    · rw [if_neg (by omega)]
      rcases h with ⟨c3, ev, em⟩ | ⟨c3, v1, m1, hd, h⟩
      · rw [if_neg (by omega), if_pos c3]; exact ⟨em, ev⟩
      · rw [if_pos (by clear h hd; omega)]
        obtain ⟨e1, q⟩ := cg_27 D k0 k1 (c := h0 - 40) (by clear h hd; omega) (by clear h hd; omega) hd
        clear hd
        rw [e1] at h
        rcases h with ⟨c4, ev, em⟩ | ⟨c4, ev, em⟩
        · rcases q with ⟨q, -⟩ | ⟨-, q⟩
          · exfalso; omega
          · rw [if_neg q]; exact ⟨em, ev⟩
        · rcases q with ⟨-, q⟩ | ⟨q, -⟩
          · rw [if_pos q]; exact ⟨em, ev⟩
          · exact absurd q c4
    · rw [if_pos (by clear h; omega)]
      by_cases z : k + 1 < n
      · rw [if_pos z] at ex ⊢
        have a := (D.2.2.2 (k + 1) (by clear h; omega) z).1
        rw [ex] at h
        rcases h with ⟨-, v1, m1, hd, ev, em⟩ | ⟨c3, -⟩
        · obtain ⟨e1, q⟩ := cg_51 D (k := k + 1) (by clear hd; omega) z (c := h0 - 20) (by clear hd; omega) (by clear hd; omega) hd
          exact ⟨em.trans e1, ev.trans q⟩
        · exfalso; omega
      · rw [if_neg z] at ex ⊢
        rw [ex] at h
        rcases h with ⟨c3, -⟩ | ⟨-, ev, em⟩
        · exact absurd rfl c3
        · exact ⟨em, ev⟩
  · rw [if_pos (by clear hd; omega)]
    rw [show h0 - 0 + 1 = h0 + 1 by clear hd; omega] at hd
    obtain ⟨e1, q⟩ := cg_51 D k0 k1 h1 (by clear hd; omega) hd
    exact ⟨em.trans e1, ev.trans q⟩
/-- decimalOf -/
theorem cg_54l {x x1 : Int} (p1 : x1 ≤ 6) {m : dc_M} : ∀ (f c : Nat) (l2 l3 v : Int) (m' : dc_M) (d : Nat) (N : Nat), LM_54 x x1 c 7 l2 l3 m v m' → x1 - l3 = (f : Int) → 0 ≤ l3 → l3 = (d : Int) → l2 = ((N / 10 ^ d : Nat) : Int) → m' = m ∧ v = ((N / 10 ^ x1.toNat % 10 : Nat) : Int) := by
  intro f
  induction f with
  | zero =>
    intro c l2 l3 v m' d N h hf l0 ed el
    cases c with
    | zero => exact h.elim
    | succ c =>
      replace h := lm_54_7.mp h
      have e : x1.toNat = d := by omega
      rw [e]
      rcases h with ⟨-, ev, em⟩ | ⟨c1, -⟩
      · refine ⟨em, ev.trans ?_⟩
        rw [el, drm (Int.natCast_nonneg _)]
        rfl
      · exfalso; omega
  | succ f ih =>
    intro c l2 l3 v m' d N h hf l0 ed el
    cases c with
    | zero => exact h.elim
    | succ c =>
      replace h := lm_54_7.mp h
      rw [dw (z := l3 + 1) (by omega) (by omega)] at h
      rcases h with ⟨c1, -⟩ | ⟨c1, h⟩
      · exfalso; omega
      · rcases h with ⟨c2, -⟩ | ⟨c2, h⟩
        · exfalso; omega
        · refine ih c _ (l3 + 1) v m' (d + 1) N h (by clear h; omega) (by clear h; omega) (by clear h; omega) ?_
          rw [el, ddv (Int.natCast_nonneg _), ← np1]
          rfl
theorem cg_54 {x x1 : Int} (hx : -999999 ≤ x ∧ x ≤ 999999) (p0 : 0 ≤ x1) (p1 : x1 ≤ 6) {m : dc_M} {v : Int} {m' : dc_M} (h : D_54 x x1 m v m') : m' = m ∧ v = ((x.natAbs / 10 ^ x1.toNat % 10 : Nat) : Int) := by
  obtain ⟨c, h⟩ := h
  refine cg_54l p1 x1.toNat c _ 0 v m' 0 x.natAbs h (by omega) (Int.le_refl 0) rfl ?_
  rw [Nat.pow_zero, Nat.div_one]
  unfold dc_abs
  split
  · rw [dw (by omega) (by omega)]; omega
  · omega
/-- givenByTotal -/
theorem cg_53 {o : Nat} {m S : dc_M} (eo : (m 16 11).toNat = o) (hw : ∀ w, 0 ≤ w → w < 4 → m (o + 3) w = S 2 w) (hS : ∀ w, 0 ≤ w → w < 4 → -999999 ≤ S 2 w ∧ S 2 w ≤ 999999) {h0 od : Int} (h1 : 65 ≤ h0) (h2 : h0 < 96) {v : Int} {m' : dc_M} (h : D_53 h0 od m v m') : m' = m ∧ v = mp_gt S od h0 := by
  unfold D_53 at h
  rw [eo, dw (z := h0 - 92) (by omega) (by omega), dw (z := h0 - 68) (by omega) (by omega), dw (z := h0 - 65) (by omega) (by omega), dw (z := h0 - 65 + 1) (by omega) (by omega)] at h
  unfold mp_gt
  rw [if_neg (by omega)]
  rcases h with ⟨c1, h⟩ | ⟨c1, h⟩
  · rw [if_neg (by clear h; omega)]
    rcases h with ⟨c2, -, h⟩ | ⟨c2, -, v1, m1, hd, ev, em⟩
    · rw [if_neg (by clear h; omega)]
      rw [hw _ (by clear h; omega) (by clear h; omega)] at h
      rcases h with ⟨c3, ev, em⟩ | ⟨c3, ev, em⟩
      · rw [if_neg (by omega)]; exact ⟨em, ev⟩
      · rw [if_pos (by omega)]; exact ⟨em, ev⟩
    · rw [if_pos (by clear hd; omega)]
      rw [ddv (by clear hd; omega), drm (by clear hd; omega), hw _ (by clear hd; omega) (by clear hd; omega)] at hd
      obtain ⟨e1, q⟩ := cg_54 (hS _ (by clear hd; omega) (by clear hd; omega)) (by clear hd; omega) (by clear hd; omega) hd
      exact ⟨em.trans e1, ev.trans q⟩
  · rw [if_pos (by clear h; omega)]
    rcases h with ⟨c2, ev, em⟩ | ⟨c2, ev, em⟩
    · rw [if_neg (by omega)]; exact ⟨em, ev⟩
    · rw [if_pos (by omega)]; exact ⟨em, ev⟩
/-- what u gives -/
theorem cg_58 {W : List (Int × Int)} {w : Int} {x : Nat} {g : Int → Int} {m0 : dc_M} (X : cb_X W w m0 x) (e8 : m0 16 8 = (x : Int)) (hu : ∀ h, 61 ≤ h → h < 96 → g h < 0) (I : cb_I (m0 18) (cb_r m0 x) g (m0 16 7) 61 m0) : ∀ (f c : Nat) (h : Int) (m : dc_M) (v : Int) (m' : dc_M), LM_58 c 8 (nt_c (nt_b (m0 18)) h) m v m' → 65 - h = (f : Int) → 61 ≤ h → (∀ (k : Nat) (i : Int), k ≠ 24 → m k i = m0 k i) → (∀ j, 61 ≤ j → j < h → m0 18 j ≠ -1 → m 24 (nt_c (nt_b (m0 18)) j) = mp_gu (mp_E W w (ca_k x)) g j) → (∀ (k : Nat) (i : Int), k ≠ 24 → m' k i = m0 k i) ∧ ∀ j, 61 ≤ j → j < 65 → m0 18 j ≠ -1 → m' 24 (nt_c (nt_b (m0 18)) j) = mp_gu (mp_E W w (ca_k x)) g j := by
  have L7 : m0 17 7 = nt_c (nt_b (m0 18)) 65 := X.2.1.2.2.1.2.1
  intro f
  induction f with
  | zero =>
    intro c h m v m' hh hf ha fr hv
    have e : h = 65 := by omega
    rw [e] at hh hv
    cases c with
    | zero => exact hh.elim
    | succ c =>
      replace hh := lm_58_8.mp hh
      rw [show m 17 7 = nt_c (nt_b (m0 18)) 65 from (fr 17 7 (by decide)).trans L7] at hh
      rcases hh with ⟨-, -, em⟩ | ⟨c1, -⟩
      · rw [em]; exact ⟨fr, hv⟩
      · exfalso; omega
  | succ f ih =>
    intro c h m v m' hh hf ha fr hv
    by_cases z : m0 18 h = -1
    · exact ih c (h + 1) m v m' (by rw [nt_c_n (by omega) (nt_b_n z)]; exact hh) (by omega) (by omega) fr (fun j j0 j1 j2 => by
        by_cases y : j = h
        · rw [y] at j2; exact absurd z j2
        · exact hv j j0 (by omega) j2)
    · cases c with
      | zero => exact hh.elim
      | succ c =>
        have h0 : 0 ≤ h := by omega
        have cy := nt_c_y (b := nt_b (m0 18)) h0 (nt_b_y z)
        have r := nt_c_r (b := nt_b (m0 18)) h0
        have r2 := nt_c_le (b := nt_b (m0 18)) (h := h + 1) (k := 65) (by omega) (by omega)
        have g21 : m 21 (nt_c (nt_b (m0 18)) h) = h := (fr 21 _ (by decide)).trans (X.2.1.2.2.1.2.2.2.1 h h0 (by omega) z)
        replace hh := lm_58_8.mp hh
        rw [show m 17 7 = nt_c (nt_b (m0 18)) 65 from (fr 17 7 (by decide)).trans L7, g21, show dc_w (nt_c (nt_b (m0 18)) h + 1) = nt_c (nt_b (m0 18)) (h + 1) by rw [dw (by omega) (by omega), cy], dw (z := h - 61) (by omega) (by omega), dw (z := 148 + (h - 61)) (by omega) (by omega), dw (z := 152 + (h - 61)) (by omega) (by omega)] at hh
        rcases hh with ⟨c1, -⟩ | ⟨c1, -, v2, m2, h2, v3, m3, h3, hh⟩
        · exfalso; omega
        · have Xm : cb_X W w m x := X.cg (fun k i hk => fr k i (by omega))
          have e18 : m 18 = m0 18 := funext fun i => fr 18 i (by omega)
          have er : cb_r m x = cb_r m0 x := cb_r_e e18 (funext fun i => fr 20 i (by omega))
          have Im : cb_I (m 18) (cb_r m x) g (m 16 7) 61 m := by
            rw [e18, er, fr 16 7 (by decide)]
            intro i i0 i1
            rw [fr 26 i (by decide), fr 27 i (by decide), fr 28 i (by decide)]
            exact I i i0 i1
          obtain ⟨e2, q2⟩ := cb_look Xm (fun _ _ _ _ _ _ => rfl) ((fr 16 8 (by decide)).trans e8) Im (by decide) hu (by clear hh h2 h3; omega) (by clear hh h2 h3; omega) h2
          clear h2
          rw [e2] at h3
          obtain ⟨e3, q3⟩ := cb_look Xm (fun _ _ _ _ _ _ => rfl) ((fr 16 8 (by decide)).trans e8) Im (by decide) hu (by clear hh h3; omega) (by clear hh h3; omega) h3
          clear h3
          rw [e3, q2, q3] at hh
          have eg : mp_gu (mp_E W w (ca_k x)) g h = if mp_tk (mp_E W w (ca_k x)) g (148 + (h - 61)) ≠ mp_tk (mp_E W w (ca_k x)) g (152 + (h - 61)) then 1 else -1 := by
            unfold mp_gu
            rw [if_pos (by clear hh; omega), show h + 87 = 148 + (h - 61) by clear hh; omega, show h + 91 = 152 + (h - 61) by clear hh; omega]
          have step : ∀ m5, m5 = dc_up m 24 (nt_c (nt_b (m0 18)) h) (mp_gu (mp_E W w (ca_k x)) g h) → LM_58 c 8 (nt_c (nt_b (m0 18)) (h + 1)) m5 v m' → (∀ (k : Nat) (i : Int), k ≠ 24 → m' k i = m0 k i) ∧ ∀ j, 61 ≤ j → j < 65 → m0 18 j ≠ -1 → m' 24 (nt_c (nt_b (m0 18)) j) = mp_gu (mp_E W w (ca_k x)) g j := by
            intro m5 e5 hh
            refine ih c (h + 1) m5 v m' hh (by clear hh; omega) (by clear hh; omega) (fun k i hk => by rw [e5, dc_up_k hk]; exact fr k i hk) (fun j j0 j1 j2 => ?_)
            rw [e5]
            by_cases y : j = h
            · rw [y, dc_up_s]
            · have s := nt_c_le (b := nt_b (m0 18)) (h := j + 1) (k := h) (by clear hh; omega) (by clear hh; omega)
              have s2 := nt_c_y (b := nt_b (m0 18)) (h := j) (by clear hh; omega) (nt_b_y j2)
              rw [dc_up_i (by clear hh; omega)]
              exact hv j j0 (by clear hh; omega) j2
          rcases hh with ⟨c2, -, m5, e5, hh⟩ | ⟨c2, -, m5, e5, hh⟩
          · exact step m5 (by rw [e5, eg, if_neg (fun y => y c2)]) hh
          · exact step m5 (by rw [e5, eg, if_pos c2]) hh
/-- what all HUBS take -/
theorem cg_44 {W : List (Int × Int)} {w : Int} {x : Nat} {g : Int → Int} (hg : ∀ h, -1 ≤ g h ∧ g h ≤ 15) {m0 : dc_M} (X : cb_X W w m0 x) (e8 : m0 16 8 = (x : Int)) (I : cb_I (m0 18) (cb_r m0 x) g (m0 16 7) 96 m0) (u : ∀ t, 96 ≤ t → t < 181 → m0 18 t = -1 → m0 25 (t - 96) = -1) : ∀ (f c : Nat) (h : Int) (m : dc_M) (v : Int) (m' : dc_M), LM_60 c 44 (c9_t (m0 18) h) m v m' → 181 - h = (f : Int) → 96 ≤ h → (∀ (k : Nat) (i : Int), k ≠ 25 → m k i = m0 k i) → (∀ t, 96 ≤ t → t < h → m 25 (t - 96) = mp_tk (mp_E W w (ca_k x)) g t) → (∀ t, h ≤ t → t < 181 → m 25 (t - 96) = m0 25 (t - 96)) → ∃ c m1 v2 m2, (∀ (k : Nat) (i : Int), k ≠ 25 → m1 k i = m0 k i) ∧ cd_T (mp_tk (mp_E W w (ca_k x)) g) m1 ∧ D_61 m1 v2 m2 ∧ (((v2 : Int) ≠ 0 ∧ LM_60 c 102 0 m2 v m') ∨ (¬ ((v2 : Int) ≠ 0) ∧ (v = 0 ∧ m' = m2))) := by
  have L10 : m0 17 10 = c9_t (m0 18) 181 := X.2.1.2.2.1.2.2.2.2.1
  have L22 := X.2.1.2.2.1.2.2.2.2.2.1
  have un : ∀ t, 96 ≤ t → t < 181 → m0 18 t = -1 → mp_tk (mp_E W w (ca_k x)) g t = -1 := fun t t0 t1 z => mp_tk_n (fun b b0 b1 _ q => by
    have := cb_al X.2.1.2.1 (by omega) t1 z q
    omega)
  intro f
  induction f with
  | zero =>
    intro c h m v m' hh hf ha fr hv hn
    have e : h = 181 := by omega
    rw [e] at hh hv
    cases c with
    | zero => exact hh.elim
    | succ c =>
      replace hh := lm_60_44.mp hh
      rw [show m 17 10 = c9_t (m0 18) 181 from (fr 17 10 (by decide)).trans L10] at hh
      rcases hh with ⟨-, v2, m2, hd, hh⟩ | ⟨c1, -⟩
      · exact ⟨c, m, v2, m2, fr, fun t t0 t1 => ⟨hv t t0 t1, mp_tk_r (fun a _ _ => (hg a).2)⟩, hd, hh⟩
      · exfalso; omega
  | succ f ih =>
    intro c h m v m' hh hf ha fr hv hn
    by_cases z : m0 18 h = -1
    · refine ih c (h + 1) m v m' (by unfold c9_t at hh ⊢; rw [nt_c_n (by omega) (nt_b_n z)]; exact hh) (by omega) (by omega) fr (fun t t0 t1 => ?_) (fun t t0 t1 => hn t (by omega) t1)
      by_cases y : t = h
      · rw [y, hn h (Int.le_refl h) (by omega), u h ha (by omega) z, un h ha (by omega) z]
      · exact hv t t0 (by omega)
    · cases c with
      | zero => exact hh.elim
      | succ c =>
        have cy : c9_t (m0 18) (h + 1) = c9_t (m0 18) h + 1 := by
          have := nt_c_y (b := nt_b (m0 18)) (h := h) (by omega) (nt_b_y z)
          unfold c9_t
          omega
        have r : 0 ≤ c9_t (m0 18) h := by
          have := nt_c_le (b := nt_b (m0 18)) (h := 96) (k := h) (by decide) ha
          unfold c9_t
          omega
        have r2 : c9_t (m0 18) (h + 1) ≤ c9_t (m0 18) 181 ∧ c9_t (m0 18) 181 ≤ 85 := by
          have a := nt_c_le (b := nt_b (m0 18)) (h := h + 1) (k := 181) (by omega) (by omega)
          have b := nt_c_le (b := nt_b (m0 18)) (h := 96) (k := 181) (by decide) (by decide)
          unfold c9_t
          omega
        have g22 : m 22 (c9_t (m0 18) h) = h := (fr 22 _ (by decide)).trans (L22 h ha (by omega) z)
        replace hh := lm_60_44.mp hh
        rw [show m 17 10 = c9_t (m0 18) 181 from (fr 17 10 (by decide)).trans L10, g22, show dc_w (c9_t (m0 18) h + 1) = c9_t (m0 18) (h + 1) by rw [dw (by omega) (by omega), cy], dw (z := h - 96) (by omega) (by omega)] at hh
        rcases hh with ⟨c1, -⟩ | ⟨c1, -, -, v2, m2, hd, -, m3, e3, hh⟩
        · exfalso; omega
        · have Xm : cb_X W w m x := X.cg (fun k i hk => fr k i (by omega))
          have e18 : m 18 = m0 18 := funext fun i => fr 18 i (by omega)
          have er : cb_r m x = cb_r m0 x := cb_r_e e18 (funext fun i => fr 20 i (by omega))
          have Im : cb_I (m 18) (cb_r m x) g (m 16 7) 96 m := by
            rw [e18, er, fr 16 7 (by decide)]
            intro i i0 i1
            rw [fr 26 i (by decide), fr 27 i (by decide), fr 28 i (by decide)]
            exact I i i0 i1
          obtain ⟨e2, q2⟩ := cb_look Xm (fun _ _ _ _ _ _ => rfl) ((fr 16 8 (by decide)).trans e8) Im (by decide) (fun b b0 b1 => by exfalso; clear hh hd; omega) ha (by clear hh hd; omega) hd
          clear hd
          rw [e2, q2] at e3
          refine ih c (h + 1) m3 v m' hh (by clear hh; omega) (by clear hh; omega) (fun k i hk => by rw [e3, dc_up_k hk]; exact fr k i hk) (fun t t0 t1 => ?_) (fun t t0 t1 => ?_)
          · rw [e3]
            by_cases y : t = h
            · rw [y, dc_up_s]
            · rw [dc_up_i (by clear hh; omega)]; exact hv t t0 (by clear hh; omega)
          · rw [e3, dc_up_i (by clear hh; omega)]; exact hn t (by clear hh; omega) t1
