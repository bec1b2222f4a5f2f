/-! THE CLASS'S CYCLE: relays are picked -/
theorem cc_want {W : List (Int × Int)} {w : Int} {m : dc_M} (N : cb_N W w m) {x : Nat} (hx : x < 16) {v : Int} {m' : dc_M} (h : D_72 (x : Int) m v m') : cb_X W w m' x ∧ ∀ (k : Nat) (i : Int), ¬ (k = 17 ∧ i = 4) → k ≠ 20 → m' k i = m k i := by
  obtain ⟨h1, h2, h3, s, h4, h5, h6⟩ := N
  obtain ⟨s2, a1, a2, a3, a4, a5⟩ := ca_want hx h4 h5 h3 h1 h2 h6 h
  have e18 : m' 18 = m 18 := funext fun i => a5 18 i (by omega) (by decide)
  have e19 : m' 19 = m 19 := funext fun i => a5 19 i (by omega) (by decide)
  refine ⟨⟨hx, ⟨?_, ?_, h3.cg (fun k i hk => a5 k i (by omega) (by omega)), s2, a1, a2, a4⟩, a4 x hx a3⟩, a5⟩
  · unfold c8_U
    rw [e18, e19, a5 17 2 (by decide) (by decide)]
    exact h1
  · unfold c9_W
    rw [e18]
    exact h2
theorem cc_has {E : Int → Int → Prop} {g : Int → Int} {t : Int} : 0 ≤ mp_tk E g t ↔ ∃ b, 0 ≤ b ∧ b < 96 ∧ 0 ≤ g b ∧ mp_q E t b := by
  rcases mp_tk_c E g t with ⟨a, ⟨a0, a1, a2, -⟩, e⟩ | ⟨n, e⟩
  · rw [e]
    exact ⟨fun _ => ⟨a, a0, a1, a2⟩, fun _ => a2.1⟩
  · rw [e]
    exact ⟨fun z => absurd z (by decide), fun ⟨b, b0, b1, b2, b3⟩ => absurd b3 (n b b0 b1 b2)⟩
theorem cc_bit : ∀ s : Nat, s < 16 → ∀ x : Nat, x < 4 → sv_g (sv_u (s : Nat) ||| sv_u (sv_g (ae_shl (sv_u 1) (sv_u (x : Nat))))) = ((s ||| 2 ^ x : Nat) : Int) ∧ (s ||| 2 ^ x) < 16 ∧ ∀ k : Nat, k < 4 → lb_b (s ||| 2 ^ x) k = if k = x then 1 else lb_b s k := by decide +kernel
theorem cc_b0 (k : Nat) : lb_b 0 k = 0 := by
  unfold lb_b
  rw [Nat.zero_div]
theorem cc_k0 {r : Int} : ca_k 0 r ↔ False := ⟨fun h => h (cc_b0 _), fun h => h.elim⟩
/-- a relay is picked, if the NET of its s in row 0 has a giver -/
theorem cc_pk {W : List (Int × Int)} {w : Int} {m : dc_M} (X : cb_X W w m 0) {g : Int → Int} {r : Int} (r0 : 0 ≤ r) (r1 : r < 4) : mp_pk W w g r ↔ (m 18 (144 + r) ≠ -1 ∧ ∃ b, 0 ≤ b ∧ b < 96 ∧ cb_G (m 18) g b ∧ cb_r m 0 b = cb_r m 0 (144 + r)) := by
  have hw := X.2.1.2.1
  have e : mp_pk W w g r ↔ 0 ≤ mp_tk (mp_E W w (ca_k 0)) g (144 + r) := by
    unfold mp_pk
    rw [mp_tk_w (E := mp_E W w (fun _ => False)) (F := mp_E W w (ca_k 0)) (fun b => mp_q.pk (fun _ _ _ => cc_k0.symm))]
  rw [e, cc_has]
  refine ⟨fun ⟨b, b0, b1, b2, b3⟩ => ?_, fun ⟨u, b, b0, b1, b2, b3⟩ => ?_⟩
  · have u : m 18 (144 + r) ≠ -1 := fun z => by
      have := cb_al hw (by omega) (by omega) z b3
      omega
    have wb : nt_w (m 18) b := ⟨b0, by omega, cb_gw hw b0 b1 (by omega) b3⟩
    exact ⟨u, b, b0, b1, ⟨b2, wb.2.2⟩, (cb_r_q X wb ⟨by omega, by omega, u⟩).mpr b3.sy⟩
  · have wb : nt_w (m 18) b := ⟨b0, by omega, b2.2⟩
    exact ⟨b, b0, b1, b2.1, ((cb_r_q X wb ⟨by omega, by omega, u⟩).mp b3).sy⟩
def cc_f (m0 m : dc_M) : Prop := ∀ (k : Nat) (i : Int), ¬ (k = 16 ∧ 7 ≤ i ∧ i ≤ 10) → ¬ (k = 17 ∧ i = 4) → k ≠ 20 → k ≠ 26 → m k i = m0 k i
/-- behind the picking -/
def cc_Q (W : List (Int × Int)) (w : Int) (g : Int → Int) (st : Int) (m0 m' : dc_M) : Prop := ∃ x : Nat, cb_X W w m' x ∧ m' 16 8 = (x : Int) ∧ (∀ r, 0 ≤ r → r < 4 → (ca_k x r ↔ mp_pk W w g r)) ∧ m' 16 7 = st ∧ (∀ i, 0 ≤ i → i < 60 → m' 26 i < st) ∧ m' 16 9 = 217 ∧ m' 16 10 = 217 ∧ cc_f m0 m'
theorem cc_end {W : List (Int × Int)} {w : Int} {g : Int → Int} {m0 m : dc_M} {st : Int} (hst : 0 ≤ st ∧ st ≤ 2000000000) (N : cb_N W w m) {y : Nat} (hy : y < 16) (e8 : m 16 8 = (y : Int)) (hk : ∀ r, 0 ≤ r → r < 4 → (ca_k y r ↔ mp_pk W w g r)) (e7 : m 16 7 = st) (h26 : ∀ i, 0 ≤ i → i < 60 → m 26 i ≤ st) (fr : cc_f m0 m) {v : Int} {m1 : dc_M} (h : D_72 (m 16 8) m v m1) {m2 m3 m4 : dc_M} (e2 : m2 = dc_up m1 16 7 (dc_w (m1 16 7 + 1))) (e3 : m3 = dc_up m2 16 9 217) (e4 : m4 = dc_up m3 16 10 217) : cc_Q W w g (st + 1) m0 m4 := by
  rw [e8] at h
  obtain ⟨X, f1⟩ := cc_want N hy h
  clear h
  have g7 : m1 16 7 = st := (f1 16 7 (by decide) (by decide)).trans e7
  rw [g7, dw (by omega) (by omega)] at e2
  have f4 : ∀ (k : Nat) (i : Int), ¬ (k = 16 ∧ 7 ≤ i ∧ i ≤ 10) ∨ (k = 16 ∧ i = 8) → m4 k i = m1 k i := fun k i z => by
    rw [e4]
    refine (if_neg (by omega)).trans ?_
    rw [e3]
    refine (if_neg (by omega)).trans ?_
    rw [e2]
    exact if_neg (by omega)
  refine ⟨y, X.cg (fun k i hk => f4 k i (Or.inl (by omega))), ?_, hk, ?_, fun i i0 i1 => ?_, ?_, ?_, fun k i z1 z2 z3 z4 => ?_⟩
  · rw [f4 16 8 (Or.inr ⟨rfl, rfl⟩), f1 16 8 (by decide) (by decide)]; exact e8
  · rw [e4, dc_up_i (by decide), e3, dc_up_i (by decide), e2, dc_up_s]
  · rw [f4 26 i (Or.inl (by omega)), f1 26 i (by omega) (by decide)]
    have := h26 i i0 i1
    omega
  · rw [e4, dc_up_i (by decide), e3, dc_up_s]
  · rw [e4, dc_up_s]
  · rw [f4 k i (Or.inl z1), f1 k i z2 z3]
    exact fr k i z1 z2 z3 z4
/-- which relays are picked -/
theorem cc_98 {W : List (Int × Int)} {w x0 x1 : Int} {g : Int → Int} {m0 mA : dc_M} {st : Int} (hst : 0 ≤ st ∧ st ≤ 2000000000) (X : cb_X W w mA 0) (e7 : mA 16 7 = st) (h26 : ∀ i, 0 ≤ i → i < 60 → mA 26 i ≤ st) (hs : ∀ i, 0 ≤ i → i < 60 → (mA 26 i = st ↔ ∃ b, 0 ≤ b ∧ b < 96 ∧ cb_G (mA 18) g b ∧ cb_r mA 0 b = i)) (frA : cc_f m0 mA) : ∀ (c : Nat) (l : Int) (m : dc_M) (v : Int) (m' : dc_M) (y : Nat), LM_55 x0 x1 c 98 l m v m' → 0 ≤ l → l ≤ 4 → (∀ (k : Nat) (i : Int), ¬ (k = 16 ∧ i = 8) → m k i = mA k i) → m 16 8 = (y : Int) → y < 16 → (∀ r : Int, 0 ≤ r → r < 4 → (ca_k y r ↔ (r < l ∧ mp_pk W w g r))) → cc_Q W w g (st + 1) m0 m' := by
  intro c
  induction c with
  | zero => intro l m v m' y h; exact h.elim
  | succ c ih =>
    intro l m v m' y h l0 l1 fr e8 hy hk
    have w1 : dc_w (l + 1) = l + 1 := dw (by omega) (by omega)
    have w2 : dc_w (144 + l) = 144 + l := dw (by omega) (by omega)
    have Xm : cb_X W w m 0 := X.cg (fun k i hk => fr k i (by omega))
    have er : cb_r m 0 = cb_r mA 0 := cb_r_e (funext fun i => fr 18 i (by omega)) (funext fun i => fr 20 i (by omega))
    replace h := lm_55_98.mp h
    rw [w1, w2] at h
    rcases h with ⟨c1, v2, m2, hd, m3, e3, m4, e4, m5, e5, -, em⟩ | ⟨c1, v2, m2, hd, h⟩
    · rw [em]
      refine cc_end hst Xm.2.1 hy e8 (fun r r0 r1 => (hk r r0 r1).trans ⟨fun z => z.2, fun z => ⟨by clear hd; omega, z⟩⟩) ((fr 16 7 (by decide)).trans e7) (fun i i0 i1 => by rw [fr 26 i (by omega)]; exact h26 i i0 i1) (fun k i z1 z2 z3 z4 => (fr k i (by omega)).trans (frA k i z1 z2 z3 z4)) hd e3 e4 e5
    · obtain ⟨e2, -, ev⟩ := cb_net Xm (x := 0) hd
      clear hd
      rw [er] at ev
      rw [e2, ev] at h
      have l4 : l < 4 := by clear h; omega
      have P := cc_pk X (g := g) l0 l4
      have no : ¬ mp_pk W w g l → LM_55 x0 x1 c 98 (l + 1) m v m' → cc_Q W w g (st + 1) m0 m' := fun z h => ih (l + 1) m v m' y h (by clear h; omega) (by clear h; omega) fr e8 hy (fun r r0 r1 => (hk r r0 r1).trans ⟨fun q => ⟨by clear h; omega, q.2⟩, fun q => ⟨by
        by_cases yy : r = l
        · rw [yy] at q; exact absurd q.2 z
        · clear h; omega, q.2⟩⟩)
      by_cases u : mA 18 (144 + l) = -1
      · rw [cb_r_n u] at h
        rcases h with ⟨-, h⟩ | ⟨d, -⟩
        · exact no (fun z => (P.mp z).1 u) h
        · exact absurd rfl d
      · have ry := cb_r_y X (t := 144 + l) ⟨by clear h; omega, by clear h; omega, u⟩
        rcases h with ⟨d, -⟩ | ⟨-, -, h⟩
        · exfalso; omega
        · rw [fr 26 _ (by omega), fr 16 7 (by decide), e7] at h
          have S := hs _ ry.1 ry.2
          rcases h with ⟨c2, h⟩ | ⟨c2, m3, e3, h⟩
          · exact no (fun z => c2 (S.mpr (P.mp z).2)) h
          · have yes : mp_pk W w g l := P.mpr ⟨u, S.mp (Classical.not_not.mp c2)⟩
            obtain ⟨b1, b2, b3⟩ := cc_bit y hy l.toNat (by clear h; omega)
            rw [show ((l.toNat : Nat) : Int) = l by clear h; omega] at b1
            rw [e8, b1] at e3
            refine ih (l + 1) m3 v m' (y ||| 2 ^ l.toNat) h (by clear h; omega) (by clear h; omega) (fun k i z => by rw [e3]; exact (if_neg z).trans (fr k i z)) (by rw [e3, dc_up_s]) b2 (fun r r0 r1 => ?_)
            unfold ca_k
            rw [b3 r.toNat (by clear h; omega)]
            by_cases yy : r = l
            · rw [yy, if_pos rfl]
              exact ⟨fun _ => ⟨by clear h; omega, yes⟩, fun _ => by decide⟩
            · rw [if_neg (by clear h; omega)]
              exact (hk r r0 r1).trans ⟨fun q => ⟨by have := q.1; clear h; omega, q.2⟩, fun q => ⟨by have := q.1; clear h; omega, q.2⟩⟩
theorem cc_35 {W : List (Int × Int)} {w x0 x1 : Int} {g : Int → Int} (hg : ∀ h, -1 ≤ g h) {m0 mA : dc_M} {st : Int} (hst : 0 ≤ st ∧ st ≤ 2000000000) (X : cb_X W w mA 0) (e7 : mA 16 7 = st) (h26 : ∀ i, 0 ≤ i → i < 60 → mA 26 i < st) (e8 : mA 16 8 = 0) (frA : cc_f m0 mA) {a b : Int} (a0 : 0 ≤ a) (hb : b ≤ 96) (ex : x1 = nt_c (nt_b (mA 18)) b) (hv : ∀ j, a ≤ j → j < b → mA 18 j ≠ -1 → mA 24 (nt_c (nt_b (mA 18)) j) = g j) (out : ∀ j, 0 ≤ j → j < 96 → (j < a ∨ b ≤ j) → g j < 0) : ∀ (f c : Nat) (h : Int) (m : dc_M) (v : Int) (m' : dc_M), LM_55 x0 x1 c 35 (nt_c (nt_b (mA 18)) h) m v m' → b - h = (f : Int) → a ≤ h → (∀ (k : Nat) (i : Int), k ≠ 26 → m k i = mA k i) → (∀ i, 0 ≤ i → i < 60 → m 26 i ≤ st ∧ (m 26 i = st ↔ ∃ q, 0 ≤ q ∧ q < h ∧ cb_G (mA 18) g q ∧ cb_r mA 0 q = i)) → cc_Q W w g (st + 1) m0 m' := by
  intro f
  induction f with
  | zero =>
    intro c h m v m' hh hf ha fr hs
    have e : h = b := by omega
    rw [e] at hh hs
    cases c with
    | zero => exact hh.elim
    | succ c =>
      replace hh := lm_55_35.mp hh
      rcases hh with ⟨-, hh⟩ | ⟨c1, -⟩
      · have Xm : cb_X W w m 0 := X.cg (fun k i hk => fr k i (by omega))
        have er : cb_r m 0 = cb_r mA 0 := cb_r_e (funext fun i => fr 18 i (by omega)) (funext fun i => fr 20 i (by omega))
        have e18 : m 18 = mA 18 := funext fun i => fr 18 i (by omega)
        refine cc_98 hst Xm ((fr 16 7 (by decide)).trans e7) (fun i i0 i1 => (hs i i0 i1).1) (fun i i0 i1 => (hs i i0 i1).2.trans ?_) (fun k i z1 z2 z3 z4 => (fr k i z4).trans (frA k i z1 z2 z3 z4)) c 0 m v m' 0 hh (by decide) (by decide) (fun _ _ _ => rfl) ((fr 16 8 (by decide)).trans e8) (by decide) (fun r r0 r1 => ⟨fun q => (cc_k0.mp q).elim, fun q => by have := q.1; exfalso; clear hh; omega⟩)
        rw [er, e18]
        refine ⟨fun ⟨q, q0, q1, q2⟩ => ⟨q, q0, by clear hh; omega, q2⟩, fun ⟨q, q0, q1, q2, q3⟩ => ⟨q, q0, ?_, q2, q3⟩⟩
        by_cases y : q < b
        · exact y
        · have := out q q0 q1 (Or.inr (by clear hh; omega))
          have := q2.1
          exfalso; clear hh; omega
      · exfalso; omega
  | succ f ih =>
    intro c h m v m' hh hf ha fr hs
    have skip : ¬ cb_G (mA 18) g h → ∀ i, 0 ≤ i → i < 60 → m 26 i ≤ st ∧ (m 26 i = st ↔ ∃ q, 0 ≤ q ∧ q < h + 1 ∧ cb_G (mA 18) g q ∧ cb_r mA 0 q = i) := fun n i i0 i1 => by
      obtain ⟨s1, s2⟩ := hs i i0 i1
      refine ⟨s1, s2.trans ⟨fun ⟨q, q0, q1, q2⟩ => ⟨q, q0, by clear hh; omega, q2⟩, fun ⟨q, q0, q1, q2⟩ => ⟨q, q0, ?_, q2⟩⟩⟩
      by_cases y : q = h
      · rw [y] at q2; exact absurd q2.1 n
      · clear hh; omega
    by_cases z : mA 18 h = -1
    · exact ih c (h + 1) m v m' (by rw [nt_c_n (by omega) (nt_b_n z)]; exact hh) (by omega) (by omega) fr (skip (fun y => y.2 z))
    · cases c with
      | zero => exact hh.elim
      | succ c =>
        have h0 : 0 ≤ h := by omega
        have cy := nt_c_y (b := nt_b (mA 18)) h0 (nt_b_y z)
        have r := nt_c_r (b := nt_b (mA 18)) h0
        have r2 := nt_c_le (b := nt_b (mA 18)) (h := h + 1) (k := b) (by omega) (by omega)
        have w1 : dc_w (nt_c (nt_b (mA 18)) h + 1) = nt_c (nt_b (mA 18)) (h + 1) := by rw [dw (by omega) (by omega), cy]
        have wh : nt_w (mA 18) h := ⟨h0, by omega, z⟩
        have g24 : m 24 (nt_c (nt_b (mA 18)) h) = g h := (fr 24 _ (by decide)).trans (hv h ha (by omega) z)
        have g21 : m 21 (nt_c (nt_b (mA 18)) h) = h := (fr 21 _ (by decide)).trans (X.2.1.2.2.1.2.2.2.1 h h0 (by omega) z)
        have g7 : m 16 7 = st := (fr 16 7 (by decide)).trans e7
        have Xm : cb_X W w m 0 := X.cg (fun k i hk => fr k i (by omega))
        have er : cb_r m 0 = cb_r mA 0 := cb_r_e (funext fun i => fr 18 i (by omega)) (funext fun i => fr 20 i (by omega))
        have hgh := hg h
        replace hh := lm_55_35.mp hh
        rw [w1, g24, g21] at hh
        rcases hh with ⟨c1, -⟩ | ⟨c1, -, hh⟩
        · exfalso; omega
        · rcases hh with ⟨c2, -, v2, m2, hd, hh⟩ | ⟨c2, hh⟩
          · obtain ⟨e2, -, ev⟩ := cb_net Xm (x := 0) hd
            clear hd
            rw [er] at ev
            rw [e2, ev, g7] at hh
            have ry := cb_r_y X wh
            rcases hh with ⟨d, -⟩ | ⟨-, -, m3, e3, hh⟩
            · exfalso; omega
            · refine ih c (h + 1) m3 v m' hh (by clear hh; omega) (by clear hh; omega) (fun k i hk => by rw [e3, dc_up_k hk]; exact fr k i hk) (fun i i0 i1 => ?_)
              rw [e3]
              by_cases y : i = cb_r mA 0 h
              · rw [y, dc_up_s]
                exact ⟨Int.le_refl _, fun _ => ⟨h, h0, by clear hh; omega, ⟨by clear hh; omega, z⟩, rfl⟩, fun _ => rfl⟩
              · rw [dc_up_i y]
                obtain ⟨s1, s2⟩ := hs i i0 i1
                refine ⟨s1, s2.trans ⟨fun ⟨q, q0, q1, q2⟩ => ⟨q, q0, by clear hh; omega, q2⟩, fun ⟨q, q0, q1, q2, q3⟩ => ⟨q, q0, ?_, q2, q3⟩⟩⟩
                by_cases yy : q = h
                · rw [yy] at q3; exact absurd q3.symm y
                · clear hh; omega
          · exact ih c (h + 1) m v m' hh (by clear hh; omega) (by clear hh; omega) fr (skip (fun y => by have := y.1; clear hh; omega))
/-- pickRelays(first, end) -/
theorem cc_pick {W : List (Int × Int)} {w x0 x1 : Int} {m : dc_M} (N : cb_N W w m) {g : Int → Int} (hg : ∀ h, -1 ≤ g h) {a b : Int} (a0 : 0 ≤ a) (hab : a ≤ b) (hb : b ≤ 96) (e0 : x0 = nt_c (nt_b (m 18)) a) (e1 : x1 = nt_c (nt_b (m 18)) b) (hv : ∀ j, a ≤ j → j < b → m 18 j ≠ -1 → m 24 (nt_c (nt_b (m 18)) j) = g j) (out : ∀ j, 0 ≤ j → j < 96 → (j < a ∨ b ≤ j) → g j < 0) (hst : 0 ≤ m 16 7 ∧ m 16 7 ≤ 1900000000) (h26 : ∀ i, 0 ≤ i → i < 60 → m 26 i ≤ m 16 7) {v : Int} {m' : dc_M} (h : D_55 x0 x1 m v m') : ∃ st, (m 16 7 < st ∧ st ≤ m 16 7 + 2) ∧ cc_Q W w g st m m' := by
  obtain ⟨m1, em1, h⟩ := h
  have f1 : ∀ (k : Nat) (i : Int), ¬ (k = 16 ∧ i = 8) → m1 k i = m k i := fun k i z => by rw [em1]; exact if_neg z
  have N1 : cb_N W w m1 := N.cg (fun k i hk => f1 k i (by omega))
  have g8 : m1 16 8 = 0 := by rw [em1, dc_up_s]
  have g7 : m1 16 7 = m 16 7 := f1 16 7 (by decide)
  have F1 : cc_f m m1 := fun k i z1 _ _ _ => f1 k i (by omega)
  have e18 : m1 18 = m 18 := funext fun i => f1 18 i (by omega)
  rcases h with ⟨c1, v2, m2, hd, m3, e3, m4, e4, m5, e5, -, em⟩ | ⟨c1, v2, m2, hd, m3, e3, c, h⟩
  · refine ⟨m 16 7 + 1, ⟨by clear hd; omega, by clear hd; omega⟩, ?_⟩
    rw [em]
    refine cc_end (y := 0) (by clear hd; omega) N1 (by decide) g8 (fun r r0 r1 => ?_) g7 (fun i i0 i1 => by rw [f1 26 i (by omega)]; exact h26 i i0 i1) F1 hd e3 e4 e5
    refine ⟨fun q => (cc_k0.mp q).elim, fun q => ?_⟩
    exfalso
    have u : m 18 (144 + r) = -1 := by
      refine Classical.byContradiction fun z => ?_
      have q := N.2.2.1.2.2.2.2.2.2.1.mpr ⟨144 + r, by clear hd; omega, by clear hd; omega, z⟩
      rw [f1 17 11 (by decide)] at c1
      exact q c1
    obtain ⟨b, b0, b1, b2, b3⟩ := cc_has.mp q
    have := cb_al N.2.1 (by clear hd; omega) (by clear hd; omega) u b3
    clear hd
    omega
  · obtain ⟨X2, f2⟩ := cc_want N1 (x := 0) (by decide) hd
    clear hd
    have g27 : m2 16 7 = m 16 7 := (f2 16 7 (by decide) (by decide)).trans g7
    rw [g27, dw (by clear h; omega) (by clear h; omega)] at e3
    have f3 : ∀ (k : Nat) (i : Int), ¬ (k = 16 ∧ i = 7) → m3 k i = m2 k i := fun k i z => by rw [e3]; exact if_neg z
    have X3 : cb_X W w m3 0 := X2.cg (fun k i hk => f3 k i (by omega))
    have h18 : m3 18 = m 18 := (funext fun i => (f3 18 i (by omega)).trans (f2 18 i (by omega) (by decide))).trans e18
    refine ⟨m 16 7 + 1 + 1, ⟨by clear h; omega, by clear h; omega⟩, ?_⟩
    have h26b : ∀ i, 0 ≤ i → i < 60 → m3 26 i < m 16 7 + 1 := fun i i0 i1 => by
      rw [f3 26 i (by omega), f2 26 i (by omega) (by decide), f1 26 i (by omega)]
      have := h26 i i0 i1
      clear h
      omega
    refine cc_35 (x0 := x0) (x1 := x1) hg (by clear h; omega) X3 (by rw [e3, dc_up_s]) h26b (by rw [f3 16 8 (by decide), f2 16 8 (by decide) (by decide)]; exact g8) (fun k i z1 z2 z3 z4 => (f3 k i (by omega)).trans ((f2 k i z2 z3).trans (F1 k i z1 z2 z3 z4))) a0 hb (by rw [h18]; exact e1) (fun j j0 j1 j2 => ?_) out (b - a).toNat c a m3 v m' ?_ (by clear h; omega) (Int.le_refl a) (fun _ _ _ => rfl) (fun i i0 i1 => ⟨by have := h26b i i0 i1; clear h; omega, fun q => by have := h26b i i0 i1; exfalso; clear h; omega, fun ⟨q, q0, q1, q2, _⟩ => ?_⟩)
    · rw [h18] at j2 ⊢
      rw [f3 24 _ (by omega), f2 24 _ (by omega) (by decide), f1 24 _ (by omega)]
      exact hv j j0 j1 j2
    · rw [h18, ← e0]; exact h
    · have := out q q0 (by clear h; omega) (Or.inl q1)
      have := q2.1
      exfalso
      clear h
      omega
