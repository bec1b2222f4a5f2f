/-! THE CLASS'S CYCLES, whole -/
theorem ch_E {W : List (Int × Int)} {w : Int} {x : Nat} {g : Int → Int} (h : ∀ r, 0 ≤ r → r < 4 → (ca_k x r ↔ mp_pk W w g r)) : mp_E W w (ca_k x) = mp_E1 W w g := by
  funext a b
  exact propext ⟨fun e => e.mo h, fun e => e.mo (fun r r0 r1 => (h r r0 r1).symm)⟩
/-- HUBS without a part take nothing -/
def ch_u (m : dc_M) : Prop := ∀ t, 96 ≤ t → t < 181 → m 18 t = -1 → m 25 (t - 96) = -1
/-- finishCycle -/
theorem ch_fin {W : List (Int × Int)} {w : Int} {x : Nat} {g : Int → Int} (hg : ∀ h, -1 ≤ g h ∧ g h ≤ 15) {m0 m : dc_M} (X : cb_X W w m x) (e8 : m 16 8 = (x : Int)) (I : cb_I (m 18) (cb_r m x) g (m 16 7) 96 m) (J : cb_J (m 18) (cb_r m x) g 96 m) (u : ch_u m) {o : Nat} (ho : o = 11 ∨ o = 30 ∨ o = 35) {z : Int} (hz : ce_L o z) {room B : Int} {S : dc_M} (eo : (m 16 11).toNat = o) (ez : m 16 12 = z) (er : m 16 13 = room) (e14 : m 16 14 = 0) (h40 : room ≤ 40) (O : co_0 o m S) (K : mp_K room B S) (hB : B ≤ 900000) (e0 : S 0 0 = 0) (cs : ct_s z m0 S) (tm : 0 ≤ z → m z.toNat 1 = m0 z.toNat 1 ∧ ∀ i, m (z.toNat + 1) i = m0 (z.toNat + 1) i) {v : Int} {m' : dc_M} (h : D_60 m v m') : cf_R o z m0 v m' (mp_cyc (mp_E W w (ca_k x)) g room S) ∧ (∀ (k : Nat) (i : Int), ¬ (o ≤ k ∧ k ≤ o + 4) → ¬ (k = 16 ∧ i = 14) → k ≠ 25 → m' k i = m k i) ∧ (v = 1 → cd_T (mp_tk (mp_E W w (ca_k x)) g) m') ∧ ch_u m' := by
  have jm := cb_jam X J (by decide) (fun b b0 b1 => by exfalso; omega)
  have un : ∀ t, 96 ≤ t → t < 181 → m 18 t = -1 → mp_tk (mp_E W w (ca_k x)) g t = -1 := fun t t0 t1 y => mp_tk_n (fun b b0 b1 _ q => by
    have := cb_al X.2.1.2.1 (by omega) t1 y q
    omega)
  rcases h with ⟨c1, c, h⟩ | ⟨c1, m1, e1, m2, e2, m3, e3, ev, em⟩
  · rcases jm with ⟨-, jn⟩ | ⟨a, b, j1, -, j3, -⟩
    · have ec : mp_cyc (mp_E W w (ca_k x)) g room S = mp_act (mp_tk (mp_E W w (ca_k x)) g) room S := by
        unfold mp_cyc
        rw [jn]
      rw [ec]
      have e96 : c9_t (m 18) 96 = 0 := by unfold c9_t; omega
      obtain ⟨c, m1, v2, m2, f1, H, hd, hh⟩ := cg_44 hg X e8 I u 85 c 96 m v m' (by rw [e96]; exact h) rfl (Int.le_refl 96) (fun _ _ _ => rfl) (fun t t0 t1 => by exfalso; clear h; omega) (fun _ _ _ => rfl)
      clear h
      obtain ⟨r1, r2⟩ := cf_act ho hz H (by rw [f1 16 11 (by decide)]; exact eo) ((f1 16 12 (by decide)).trans ez) ((f1 16 13 (by decide)).trans er) ((f1 16 14 (by decide)).trans e14) h40 (O.cg (fun k i k0 k1 => f1 k i (by clear hd hh; omega))) K hB e0 cs (fun z0 => by
        obtain ⟨t1, t2⟩ := tm z0
        have : z.toNat ≠ 25 ∧ z.toNat + 1 ≠ 25 := by
          rcases hz with y | ⟨-, y | y⟩ <;> clear hd hh <;> omega
        exact ⟨(f1 _ _ this.1).trans t1, fun i => (f1 _ _ this.2).trans (t2 i)⟩) hd hh
      clear hd hh
      have H2 : cd_T (mp_tk (mp_E W w (ca_k x)) g) m' := H.cg (fun i => r2 25 i (by omega) (by omega))
      refine ⟨r1, fun k i z1 z2 z3 => (r2 k i z1 z2).trans (f1 k i z3), fun _ => H2, fun t t0 t1 y => ?_⟩
      have e18 : m' 18 t = m 18 t := (r2 18 t (by omega) (by omega)).trans (f1 18 t (by decide))
      rw [(H2 t t0 t1).1]
      exact un t t0 t1 (e18.symm.trans y)
    · exact absurd (j1.symm.trans c1) j3
  · rcases jm with ⟨j1, -⟩ | ⟨a, b, j1, j2, j3, j4⟩
    · exact absurd j1 c1
    · rw [mp_cyc_j j4]
      rw [eo] at e1
      have o1 : (m1 16 11).toNat = o := by rw [e1, dc_up_k (by omega)]; exact eo
      rw [o1, show m1 16 9 = m 16 9 by rw [e1, dc_up_k (by omega)], j1] at e2
      have o2 : (m2 16 11).toNat = o := by rw [e2, dc_up_k (by omega)]; exact o1
      rw [o2, show m2 16 10 = m 16 10 by rw [e2, dc_up_k (by omega), e1, dc_up_k (by omega)], j2] at e3
      have F : ∀ (k : Nat) (i : Int), ¬ (k = o ∧ (i = 4 ∨ i = 8 ∨ i = 9)) → m' k i = m k i := fun k i y => by
        rw [em, e3]
        refine (if_neg (fun q => y ⟨q.1, Or.inr (Or.inr q.2)⟩)).trans ?_
        rw [e2]
        refine (if_neg (fun q => y ⟨q.1, Or.inr (Or.inl q.2)⟩)).trans ?_
        rw [e1]
        exact if_neg (fun q => y ⟨q.1, Or.inl q.2⟩)
      have q4 : m' o 4 = 2 := by rw [em, e3, dc_up_i (by decide), e2, dc_up_i (by decide), e1, dc_up_s]
      have q8 : m' o 8 = a := by rw [em, e3, dc_up_i (by decide), e2, dc_up_s]
      have q9 : m' o 9 = b := by rw [em, e3, dc_up_s]
      obtain ⟨N1, N2, N3, N4, N5, N6, N7, N8, N9, N10, N11⟩ := O
      refine ⟨Or.inl ⟨?_, ?_, (F 16 14 (by omega)).trans e14, cs.eq (by rw [dc_up_i (by decide), dc_up_i (by decide), dc_up_i (by decide)]) (fun i _ _ => by rw [dc_up_k (by decide), dc_up_k (by decide), dc_up_k (by decide)])⟩, fun k i z1 _ _ => F k i (by omega), fun y => ?_, fun t t0 t1 y => ?_⟩
      · rw [dc_up_i (by decide), dc_up_i (by decide), dc_up_s, if_neg (by decide)]; exact ev
      · refine ⟨?_, ?_, ?_, ?_, ?_, ?_, ?_, fun i i0 i1 => ?_, fun w u0 u1 => ?_, fun i i0 i1 => ?_, ?_⟩
        · rw [F _ _ (by omega), dc_up_i (by decide), dc_up_i (by decide), dc_up_i (by decide)]; exact N1
        · rw [F _ _ (by omega), dc_up_i (by decide), dc_up_i (by decide), dc_up_i (by decide)]; exact N2
        · rw [F _ _ (by omega), dc_up_i (by decide), dc_up_i (by decide), dc_up_i (by decide)]; exact N3
        · rw [F _ _ (by omega), dc_up_i (by decide), dc_up_i (by decide), dc_up_i (by decide)]; exact N4
        · rw [F _ _ (by omega), dc_up_i (by decide), dc_up_i (by decide), dc_up_i (by decide)]; exact N5
        · rw [q8, dc_up_i (by decide), dc_up_s]
        · rw [q9, dc_up_s]
        · rw [F _ _ (by omega), dc_up_k (by decide), dc_up_k (by decide), dc_up_k (by decide)]
          exact N8 i i0 (by rw [dc_up_i (by decide), dc_up_i (by decide), dc_up_i (by decide)] at i1; exact i1)
        · rw [F _ _ (by omega), dc_up_k (by decide), dc_up_k (by decide), dc_up_k (by decide)]; exact N9 w u0 u1
        · rw [F _ _ (by omega), dc_up_k (by decide), dc_up_k (by decide), dc_up_k (by decide)]
          exact N10 i i0 (by rw [dc_up_i (by decide), dc_up_i (by decide), dc_up_i (by decide)] at i1; exact i1)
        · rw [q4, dc_up_i (by decide), dc_up_i (by decide), dc_up_s]
      · rw [ev] at y; exact absurd y (by decide)
      · rw [F 25 _ (by omega)]
        exact u t t0 t1 (by rw [F 18 t (by omega)] at y; exact y)
def ch_t (o : Nat) (k : Nat) (i : Int) : Prop := (k = 16 ∧ ((7 ≤ i ∧ i ≤ 10) ∨ i = 14)) ∨ (k = 17 ∧ i = 4) ∨ k = 20 ∨ (24 ≤ k ∧ k ≤ 28) ∨ (o ≤ k ∧ k ≤ o + 4)
def ch_f (o : Nat) (m0 m : dc_M) : Prop := ∀ (k : Nat) (i : Int), ¬ ch_t o k i → m k i = m0 k i
/-- what holds all the RUN long -/
def ch_G (o : Nat) (z : Int) (dk : Int → Int → Int) (n room : Int) (m : dc_M) : Prop := cg_D dk n m ∧ (m 16 11).toNat = o ∧ m 16 12 = z ∧ m 16 13 = room ∧ (o = 11 ∨ o = 30 ∨ o = 35) ∧ ce_L o z ∧ room ≤ 40
theorem ch_G.cg {o : Nat} {z : Int} {dk : Int → Int → Int} {n room : Int} {m m2 : dc_M} (G : ch_G o z dk n room m) (f : ch_f o m m2) : ch_G o z dk n room m2 := by
  obtain ⟨g1, g2, g3, g4, g5, g6, g7⟩ := G
  refine ⟨g1.cg (fun k i hk => f k i (by unfold ch_t; omega)), by rw [f 16 11 (by unfold ch_t; omega)]; exact g2, (f 16 12 (by unfold ch_t; omega)).trans g3, (f 16 13 (by unfold ch_t; omega)).trans g4, g5, g6, g7⟩
/-- the machine, ready: NETS, stamps, what nothing takes -/
def ch_N (W : List (Int × Int)) (w : Int) (C : Int) (m : dc_M) : Prop := cb_N W w m ∧ ch_u m ∧ (0 ≤ m 16 7 ∧ m 16 7 ≤ C) ∧ ∀ i, 0 ≤ i → i < 60 → m 26 i ≤ m 16 7
/-- the RUN under way -/
def ch_C (W : List (Int × Int)) (w : Int) (o : Nat) (z room B C : Int) (m0 m S : dc_M) : Prop := ch_f o m0 m ∧ ch_N W w C m ∧ co_0 o m S ∧ mp_K2 room B S ∧ S 0 0 = 0 ∧ m 16 14 = 0 ∧ ct_s z m0 S
/-- the RUN's end: as it ends, or astray -/
def ch_Z (W : List (Int × Int)) (w : Int) (o : Nat) (z C : Int) (m0 m S : dc_M) : Prop := ch_f o m0 m ∧ ch_N W w C m ∧ ((co_0 o m S ∧ m 16 14 = 0 ∧ ct_s z m0 S) ∨ (m 16 14 = 1 ∧ ct_d z m0 S))
theorem ch_tm {o : Nat} {z : Int} (hz : ce_L o z) {m0 m : dc_M} (f : ch_f o m0 m) : 0 ≤ z → m z.toNat 1 = m0 z.toNat 1 ∧ ∀ i, m (z.toNat + 1) i = m0 (z.toNat + 1) i := fun z0 => by
  rcases hz with y | ⟨y1, y⟩
  · omega
  · exact ⟨f _ _ (by unfold ch_t; omega), fun i => f _ _ (by unfold ch_t; omega)⟩
theorem cb_I.g {P ρ g g2 : Int → Int} {st h : Int} {m : dc_M} (I : cb_I P ρ g st h m) (e : ∀ b, 0 ≤ b → b < h → g2 b = g b) : cb_I P ρ g2 st h m := by
  intro i i0 i1
  rcases I i i0 i1 with ⟨a1, a2⟩ | ⟨a1, a, a0, a2, a3, a4, a5, a6, a7⟩
  · exact Or.inl ⟨a1, fun b b0 b1 b2 => a2 b b0 b1 ⟨by rw [← e b b0 b1]; exact b2.1, b2.2⟩⟩
  · exact Or.inr ⟨a1, a, a0, a2, ⟨by rw [e a a0 a2]; exact a3.1, a3.2⟩, a4, a5, by rw [e a a0 a2]; exact a6, fun b b0 b1 b2 => a7 b b0 b1 ⟨by rw [← e b b0 (by omega)]; exact b2.1, b2.2⟩⟩
theorem cb_J.g {P ρ g g2 : Int → Int} {h : Int} {m : dc_M} (J : cb_J P ρ g h m) (e : ∀ b, 0 ≤ b → b < h → g2 b = g b) : cb_J P ρ g2 h m := by
  have d : ∀ b, 0 ≤ b → b < h → cb_G P g2 b → cb_G P g b := fun b b0 b1 b2 => ⟨by rw [← e b b0 b1]; exact b2.1, b2.2⟩
  rcases J with ⟨a1, a2, a3⟩ | ⟨a, b, a1, a2, a3, a4, a5, a6, a7, a8⟩
  · exact Or.inl ⟨a1, a2, fun a b a0 ab b1 ga gb => a3 a b a0 ab b1 (d a a0 (by omega) ga) (d b (by omega) b1 gb)⟩
  · exact Or.inr ⟨a, b, a1, a2, a3, ⟨by rw [e a a3.1 (by omega)]; exact a4.1, a4.2⟩, ⟨by rw [e b (by omega) a3.2.2]; exact a5.1, a5.2⟩, a6, fun x y x0 xa xy yh gx gy => a7 x y x0 xa xy yh (d x x0 (by omega) gx) (d y (by omega) yh gy), fun y y0 y1 gy => a8 y y0 y1 (d y (by omega) (by omega) gy)⟩
theorem cb_I.ex {P ρ g : Int → Int} {st h k : Int} {m : dc_M} (I : cb_I P ρ g st h m) (hk : h ≤ k) (n : ∀ b, h ≤ b → b < k → g b < 0) : cb_I P ρ g st k m := by
  have d : ∀ b, b < k → cb_G P g b → b < h := fun b b1 b2 => by
    by_cases y : b < h
    · exact y
    · have := n b (by omega) b1
      have := b2.1
      omega
  intro i i0 i1
  rcases I i i0 i1 with ⟨a1, a2⟩ | ⟨a1, a, a0, a2, a3⟩
  · exact Or.inl ⟨a1, fun b b0 b1 b2 => a2 b b0 (d b b1 b2) b2⟩
  · exact Or.inr ⟨a1, a, a0, by omega, a3⟩
theorem cb_J.ex {P ρ g : Int → Int} {h k : Int} {m : dc_M} (J : cb_J P ρ g h m) (hk : h ≤ k) (n : ∀ b, h ≤ b → b < k → g b < 0) : cb_J P ρ g k m := by
  have d : ∀ b, b < k → cb_G P g b → b < h := fun b b1 b2 => by
    by_cases y : b < h
    · exact y
    · have := n b (by omega) b1
      have := b2.1
      omega
  rcases J with ⟨a1, a2, a3⟩ | ⟨a, b, a1, a2, a3, a4, a5, a6, a7, a8⟩
  · exact Or.inl ⟨a1, a2, fun a b a0 ab b1 ga gb => a3 a b a0 ab (d b b1 gb) ga gb⟩
  · exact Or.inr ⟨a, b, a1, a2, ⟨a3.1, a3.2.1, by omega⟩, a4, a5, a6, fun x y x0 xa xy yh gx gy => a7 x y x0 xa xy (d y yh gy) gx gy, a8⟩
theorem cb_I.cg {P ρ g : Int → Int} {st h : Int} {m m2 : dc_M} (I : cb_I P ρ g st h m) (f : ∀ (k : Nat) (i : Int), (26 ≤ k ∧ k ≤ 28) → m2 k i = m k i) : cb_I P ρ g st h m2 := by
  intro i i0 i1
  rw [f 26 i (by omega), f 27 i (by omega), f 28 i (by omega)]
  exact I i i0 i1
theorem cb_J.cg {P ρ g : Int → Int} {h : Int} {m m2 : dc_M} (J : cb_J P ρ g h m) (f : ∀ i : Int, (i = 9 ∨ i = 10) → m2 16 i = m 16 i) : cb_J P ρ g h m2 := by
  unfold cb_J
  rw [f 9 (Or.inl rfl), f 10 (Or.inr rfl)]
  exact J
theorem cb_I.st {P ρ g : Int → Int} {st : Int} {m : dc_M} {h : Int} (n : ∀ i, 0 ≤ i → i < 60 → m 26 i < st) (ng : ∀ b, 0 ≤ b → b < h → g b < 0) : cb_I P ρ g st h m := fun i i0 i1 => Or.inl ⟨n i i0 i1, fun b b0 b1 b2 => by have := ng b b0 b1; have := b2.1; exfalso; omega⟩
theorem cb_J.st {P ρ g : Int → Int} {m : dc_M} {h : Int} (e9 : m 16 9 = 217) (e10 : m 16 10 = 217) (ng : ∀ b, 0 ≤ b → b < h → g b < 0) : cb_J P ρ g h m := Or.inl ⟨e9, e10, fun a b a0 ab b1 ga _ => by have := ng a a0 (by omega); have := ga.1; exfalso; omega⟩
/-- the end of a CYCLE: what it leaves -/
theorem ch_end {W : List (Int × Int)} {w : Int} {x : Nat} {g : Int → Int} (hg : ∀ h, -1 ≤ g h ∧ g h ≤ 15) {o : Nat} {z : Int} {dk : Int → Int → Int} {n room B C : Int} {m0 m S : dc_M} (G : ch_G o z dk n room m0) (f : ch_f o m0 m) (X : cb_X W w m x) (e8 : m 16 8 = (x : Int)) (u : ch_u m) (hst : 0 ≤ m 16 7 ∧ m 16 7 ≤ C) (h26 : ∀ i, 0 ≤ i → i < 60 → m 26 i ≤ m 16 7) (I : cb_I (m 18) (cb_r m x) g (m 16 7) 96 m) (J : cb_J (m 18) (cb_r m x) g 96 m) (O : co_0 o m S) (K : mp_K2 room B S) (hB : B ≤ 900000) (e0 : S 0 0 = 0) (e14 : m 16 14 = 0) (cs : ct_s z m0 S) {v : Int} {m' : dc_M} (h : D_60 m v m') : ch_f o m0 m' ∧ ch_N W w C m' ∧ cf_R o z m0 v m' (mp_cyc (mp_E W w (ca_k x)) g room S) ∧ (v = 1 → cd_T (mp_tk (mp_E W w (ca_k x)) g) m') := by
  obtain ⟨g1, g2, g3, g4, g5, g6, g7⟩ := G.cg f
  obtain ⟨r1, r2, r3, r4⟩ := ch_fin hg X e8 I J u g5 g6 g2 g3 g4 e14 g7 O K.1 hB e0 cs (ch_tm g6 f) h
  clear h
  have q7 : m' 16 7 = m 16 7 := r2 16 7 (by omega) (by decide) (by decide)
  refine ⟨fun k i y => ?_, ⟨X.2.1.cg (fun k i hk => r2 k i (by omega) (by omega) (by omega)), r4, by rw [q7]; exact hst, fun i i0 i1 => by rw [q7, r2 26 i (by omega) (by omega) (by omega)]; exact h26 i i0 i1⟩, r1, r3⟩
  rw [r2 k i (fun q => y (by unfold ch_t; omega)) (fun q => y (by unfold ch_t; omega)) (fun q => y (by unfold ch_t; omega))]
  exact f k i y
theorem co_0.e5 {o : Nat} {m S : dc_M} (O : co_0 o m S) (ho : o = 11 ∨ o = 30 ∨ o = 35) {a : Int} {m2 : dc_M} (e : m2 = dc_up m o 5 a) : co_0 o m2 (dc_up S 0 3 a) := by
  obtain ⟨N1, N2, N3, N4, N5, N6, N7, N8, N9, N10, N11⟩ := O
  subst e
  have a1 : dc_up S 0 3 a 0 1 = S 0 1 := dc_up_i (by decide)
  have a2 : dc_up S 0 3 a 0 2 = S 0 2 := dc_up_i (by decide)
  unfold co_0
  rw [a1, a2]
  refine ⟨?_, ?_, ?_, ?_, ?_, ?_, ?_, fun i i0 i1 => ?_, fun w u0 u1 => ?_, fun i i0 i1 => ?_, ?_⟩
  · rw [dc_up_k (by omega)]; exact N1
  · rw [dc_up_i (by decide)]; exact N2
  · rw [dc_up_s, dc_up_s]
  · rw [dc_up_i (by decide), dc_up_i (by decide)]; exact N4
  · rw [dc_up_i (by decide), dc_up_i (by decide)]; exact N5
  · rw [dc_up_i (by decide), dc_up_i (by decide)]; exact N6
  · rw [dc_up_i (by decide), dc_up_i (by decide)]; exact N7
  · rw [dc_up_k (by omega), dc_up_k (by decide)]; exact N8 i i0 i1
  · rw [dc_up_k (by omega), dc_up_k (by decide)]; exact N9 w u0 u1
  · rw [dc_up_k (by omega), dc_up_k (by decide)]; exact N10 i i0 i1
  · rw [dc_up_i (by decide), dc_up_i (by decide)]; exact N11
theorem co_0.e6 {o : Nat} {m S : dc_M} (O : co_0 o m S) (ho : o = 11 ∨ o = 30 ∨ o = 35) {a : Int} {m2 : dc_M} (e : m2 = dc_up m o 6 a) : co_0 o m2 (dc_up S 0 4 a) := by
  obtain ⟨N1, N2, N3, N4, N5, N6, N7, N8, N9, N10, N11⟩ := O
  subst e
  have a1 : dc_up S 0 4 a 0 1 = S 0 1 := dc_up_i (by decide)
  have a2 : dc_up S 0 4 a 0 2 = S 0 2 := dc_up_i (by decide)
  unfold co_0
  rw [a1, a2]
  refine ⟨?_, ?_, ?_, ?_, ?_, ?_, ?_, fun i i0 i1 => ?_, fun w u0 u1 => ?_, fun i i0 i1 => ?_, ?_⟩
  · rw [dc_up_k (by omega)]; exact N1
  · rw [dc_up_i (by decide)]; exact N2
  · rw [dc_up_i (by decide), dc_up_i (by decide)]; exact N3
  · rw [dc_up_s, dc_up_s]
  · rw [dc_up_i (by decide), dc_up_i (by decide)]; exact N5
  · rw [dc_up_i (by decide), dc_up_i (by decide)]; exact N6
  · rw [dc_up_i (by decide), dc_up_i (by decide)]; exact N7
  · rw [dc_up_k (by omega), dc_up_k (by decide)]; exact N8 i i0 i1
  · rw [dc_up_k (by omega), dc_up_k (by decide)]; exact N9 w u0 u1
  · rw [dc_up_k (by omega), dc_up_k (by decide)]; exact N10 i i0 i1
  · rw [dc_up_i (by decide), dc_up_i (by decide)]; exact N11
/-- the cycle counted -/
theorem ch_cnt {W : List (Int × Int)} {w : Int} {o : Nat} (ho : o = 11 ∨ o = 30 ∨ o = 35) {C : Int} {m0 m : dc_M} {e : Int} (he : e = 5 ∨ e = 6) {a : Int} {m2 : dc_M} (em : m2 = dc_up m o e a) (f : ch_f o m0 m) (N : ch_N W w C m) : ch_f o m0 m2 ∧ ch_N W w C m2 := by
  obtain ⟨n1, n2, n3, n4⟩ := N
  have g : ∀ (k : Nat) (i : Int), k ≠ o → m2 k i = m k i := fun k i hk => by rw [em, dc_up_k hk]
  refine ⟨fun k i y => ?_, n1.cg (fun k i hk => g k i (by omega)), fun t t0 t1 y => ?_, by rw [g 16 7 (by omega)]; exact n3, fun i i0 i1 => by rw [g 16 7 (by omega), g 26 i (by omega)]; exact n4 i i0 i1⟩
  · rw [g k i (fun q => y (by unfold ch_t; omega))]; exact f k i y
  · rw [g 25 _ (by omega)]
    exact n2 t t0 t1 (by rw [g 18 t (by omega)] at y; exact y)
/-- totalCycle(order) -/
theorem ch_52l {o : Nat} {S : dc_M} {od : Int} {m0 : dc_M} (Ls : c9_L m0) (eo : (m0 16 11).toNat = o) (ho : o = 11 ∨ o = 30 ∨ o = 35) (hw : ∀ w, 0 ≤ w → w < 4 → m0 (o + 3) w = S 2 w) (hS : ∀ w, 0 ≤ w → w < 4 → -999999 ≤ S 2 w ∧ S 2 w ≤ 999999) : ∀ (f c : Nat) (h : Int) (m : dc_M) (v : Int) (m' : dc_M), LM_52 od c 8 (nt_c (nt_b (m0 18)) h) m v m' → 96 - h = (f : Int) → 65 ≤ h → (∀ (k : Nat) (i : Int), k ≠ 24 → m k i = m0 k i) → (∀ j, 65 ≤ j → j < h → m0 18 j ≠ -1 → m 24 (nt_c (nt_b (m0 18)) j) = mp_gt S od j) → ∃ m1 v2 m2 v3 m3 v4 m4, (∀ (k : Nat) (i : Int), k ≠ 24 → m1 k i = m0 k i) ∧ (∀ j, 65 ≤ j → j < 96 → m0 18 j ≠ -1 → m1 24 (nt_c (nt_b (m0 18)) j) = mp_gt S od j) ∧ D_55 (m1 17 7) (m1 17 8) m1 v2 m2 ∧ D_56 (m2 17 7) (m2 17 8) m2 v3 m3 ∧ D_60 m3 v4 m4 ∧ ((((v4 : Int) ≠ 0 ∧ (∃ m5, m5 = dc_up m4 (m4 16 11).toNat 6 (dc_w ((m4 (m4 16 11).toNat 6) + 1)) ∧ (v = 1 ∧ m' = m5))) ∨ (¬ ((v4 : Int) ≠ 0) ∧ (v = 0 ∧ m' = m4)))) := by
  obtain ⟨L6, L7, L8, L21, -⟩ := Ls
  intro f
  induction f with
  | zero =>
    intro c h m v m' hh hf ha fr hv
    have e : h = 96 := by omega
    rw [e] at hh hv
    cases c with
    | zero => exact hh.elim
    | succ c =>
      replace hh := lm_52_8.mp hh
      rw [show m 17 8 = nt_c (nt_b (m0 18)) 96 from (fr 17 8 (by decide)).trans L8] at hh
      rcases hh with ⟨-, v2, m2, h2, v3, m3, h3, v4, m4, h4, hh⟩ | ⟨c1, -⟩
      · refine ⟨m, v2, m2, v3, m3, v4, m4, fr, hv, ?_, h3, h4, hh⟩
        rw [show m 17 8 = nt_c (nt_b (m0 18)) 96 from (fr 17 8 (by decide)).trans L8]
        exact h2
      · exfalso; omega
  | succ f ih =>
    intro c h m v m' hh hf ha fr hv
    by_cases z : m0 18 h = -1
    · exact ih c (h + 1) m v m' (by rw [nt_c_n (by omega) (nt_b_n z)]; exact hh) (by omega) (by omega) fr (fun j j0 j1 j2 => by
        by_cases y : j = h
        · rw [y] at j2; exact absurd z j2
        · exact hv j j0 (by omega) j2)
    · cases c with
      | zero => exact hh.elim
      | succ c =>
        have h0 : 0 ≤ h := by omega
        have cy := nt_c_y (b := nt_b (m0 18)) h0 (nt_b_y z)
        have r := nt_c_r (b := nt_b (m0 18)) h0
        have r2 := nt_c_le (b := nt_b (m0 18)) (h := h + 1) (k := 96) (by omega) (by omega)
        have g21 : m 21 (nt_c (nt_b (m0 18)) h) = h := (fr 21 _ (by decide)).trans (L21 h h0 (by omega) z)
        replace hh := lm_52_8.mp hh
        rw [show m 17 8 = nt_c (nt_b (m0 18)) 96 from (fr 17 8 (by decide)).trans L8, g21, show dc_w (nt_c (nt_b (m0 18)) h + 1) = nt_c (nt_b (m0 18)) (h + 1) by rw [dw (by omega) (by omega), cy]] at hh
        rcases hh with ⟨c1, -⟩ | ⟨c1, -, v2, m2, hd, -, m3, e3, hh⟩
        · exfalso; omega
        · obtain ⟨e2, q2⟩ := cg_53 (o := o) (S := S) (by rw [fr 16 11 (by decide)]; exact eo) (fun w w0 w1 => by rw [fr (o + 3) w (by clear hh hd; omega)]; exact hw w w0 w1) hS ha (by clear hh hd; omega) hd
          clear hd
          rw [e2, q2] at e3
          refine ih c (h + 1) m3 v m' hh (by clear hh; omega) (by clear hh; omega) (fun k i hk => by rw [e3, dc_up_k hk]; exact fr k i hk) (fun j j0 j1 j2 => ?_)
          rw [e3]
          by_cases y : j = h
          · rw [y, dc_up_s]
          · have s := nt_c_le (b := nt_b (m0 18)) (h := j + 1) (k := h) (by clear hh; omega) (by clear hh; omega)
            have s2 := nt_c_y (b := nt_b (m0 18)) (h := j) (by clear hh; omega) (nt_b_y j2)
            rw [dc_up_i (by clear hh; omega)]
            exact hv j j0 (by clear hh; omega) j2
theorem ch_u.cg {m m2 : dc_M} (u : ch_u m) (f : ∀ (k : Nat) (i : Int), (k = 18 ∨ k = 25) → m2 k i = m k i) : ch_u m2 := fun t t0 t1 y => by
  rw [f 25 _ (Or.inr rfl)]
  exact u t t0 t1 (by rw [f 18 t (Or.inl rfl)] at y; exact y)
theorem ch_52 {W : List (Int × Int)} {w : Int} {o : Nat} {z : Int} {dk : Int → Int → Int} {n room B C : Int} {m0 m S : dc_M} (G : ch_G o z dk n room m0) (hC : C ≤ 1800000000) (hB : B ≤ 1000) (cc : ch_C W w o z room B C m0 m S) {od v : Int} {m' : dc_M} (h : D_52 od m v m') : (v = 1 ∧ mp_tot W w room od S 0 0 = 0 ∧ ch_C W w o z room (B + 4) (C + 2) m0 m' (dc_up (mp_tot W w room od S) 0 4 (mp_tot W w room od S 0 4 + 1))) ∨ (v = 0 ∧ ch_Z W w o z (C + 2) m0 m' (mp_tot W w room od S) ∧ (m' 16 14 = 0 → mp_tot W w room od S 0 0 ≠ 0)) := by
  obtain ⟨f, ⟨N, u, hst, h26⟩, O, K, e0, e14, cs⟩ := cc
  have G2 := G.cg f
  have ho := G2.2.2.2.2.1
  obtain ⟨c, h⟩ := h
  have L7 := N.2.2.1.2.1
  have L8 := N.2.2.1.2.2.1
  rw [L7] at h
  obtain ⟨m1, v2, m2, v3, m3, v4, m4, f1, hv, h2, h3, h4, h⟩ := ch_52l N.2.2.1 G2.2.1 ho O.2.2.2.2.2.2.2.2.1 K.1.2.2.1 31 c 65 m v m' h rfl (Int.le_refl 65) (fun _ _ _ => rfl) (fun j j0 j1 => by exfalso; clear h; omega)
  have e18 : m1 18 = m 18 := funext fun i => f1 18 i (by decide)
  have N1 : cb_N W w m1 := N.cg (fun k i hk => f1 k i (by clear h h2 h3 h4; omega))
  have q7 : m1 16 7 = m 16 7 := f1 16 7 (by decide)
  have out : ∀ j, 0 ≤ j → j < 96 → (j < 65 ∨ 96 ≤ j) → mp_gt S od j < 0 := fun j j0 j1 j2 => by
    unfold mp_gt
    rw [if_pos (by clear h h2 h3 h4; omega)]
    decide
  obtain ⟨st, hs, x, X, x8, xk, x7, x26, x9, x10, xf⟩ := cc_pick N1 (g := mp_gt S od) (fun j => (mp_gt_r S od j).1) (a := 65) (b := 96) (by decide) (by decide) (by decide) ((f1 17 7 (by decide)).trans (by rw [e18]; exact L7)) ((f1 17 8 (by decide)).trans (by rw [e18]; exact L8)) (fun j j0 j1 j2 => by rw [e18] at j2 ⊢; exact hv j j0 j1 j2) out (by rw [q7]; clear h h2 h3 h4; omega) (fun i i0 i1 => by rw [q7, f1 26 i (by decide)]; exact h26 i i0 i1) h2
  clear h2
  have g18 : m2 18 = m 18 := (funext fun i => xf 18 i (by clear h h3 h4; omega) (by clear h h3 h4; omega) (by decide) (by decide)).trans e18
  obtain ⟨c3, h3⟩ := h3
  have p7 : m2 17 7 = nt_c (nt_b (m2 18)) 65 := by rw [g18, xf 17 7 (by decide) (by decide) (by decide) (by decide), f1 17 7 (by decide)]; exact L7
  have p8 : m2 17 8 = nt_c (nt_b (m2 18)) 96 := by rw [g18, xf 17 8 (by decide) (by decide) (by decide) (by decide), f1 17 8 (by decide)]; exact L8
  have hlm : LM_56 (m2 17 7) (m2 17 8) c3 2 (nt_c (nt_b (m2 18)) 65) m2 v3 m3 := by rw [← p7]; exact h3
  clear h3
  obtain ⟨y1, y2, y3⟩ := cb_gl X (g := mp_gt S od) (fun j => (mp_gt_r S od j).1) (b := 96) (by decide) p8 x8 31 c3 65 m2 v3 m3 hlm rfl (by decide) (fun j j0 j1 j2 => by
    rw [g18] at j2 ⊢
    rw [xf 24 _ (by clear h h4; omega) (by clear h h4; omega) (by decide) (by decide)]
    exact hv j j0 j1 j2) (fun _ _ _ _ _ _ => rfl) (by rw [x7]; exact cb_I.st x26 (fun b b0 b1 => out b b0 (by clear h h4; omega) (Or.inl b1))) (cb_J.st x9 x10 (fun b b0 b1 => out b b0 (by clear h h4; omega) (Or.inl b1)))
  clear hlm
  -- what stands now
  have F3 : ∀ (k : Nat) (i : Int), ¬ (k = 16 ∧ 7 ≤ i ∧ i ≤ 10) → ¬ (k = 17 ∧ i = 4) → k ≠ 20 → k ≠ 24 → k ≠ 26 → k ≠ 27 → k ≠ 28 → m3 k i = m k i := fun k i a1 a2 a3 a4 a5 a6 a7 => (y1 k i (by clear h h4; omega) a5 a6 a7).trans ((xf k i a1 a2 a3 a5).trans (f1 k i a4))
  have X3 : cb_X W w m3 x := X.cg (fun k i hk => y1 k i (by clear h h4; omega) (by clear h h4; omega) (by clear h h4; omega) (by clear h h4; omega))
  have z18 : m3 18 = m2 18 := funext fun i => y1 18 i (by clear h h4; omega) (by decide) (by decide) (by decide)
  have zr : cb_r m3 x = cb_r m2 x := cb_r_e z18 (funext fun i => y1 20 i (by clear h h4; omega) (by decide) (by decide) (by decide))
  have z7 : m3 16 7 = st := (y1 16 7 (by decide) (by decide) (by decide) (by decide)).trans x7
  have f3 : ch_f o m0 m3 := fun k i y => by
    rw [F3 k i (fun q => y (by unfold ch_t; omega)) (fun q => y (by unfold ch_t; omega)) (fun q => y (by unfold ch_t; omega)) (fun q => y (by unfold ch_t; omega)) (fun q => y (by unfold ch_t; omega)) (fun q => y (by unfold ch_t; omega)) (fun q => y (by unfold ch_t; omega))]
    exact f k i y
  have s26 : ∀ i, 0 ≤ i → i < 60 → m3 26 i ≤ m3 16 7 := fun i i0 i1 => by
    rw [z7]
    rcases y2 i i0 i1 with ⟨a1, -⟩ | ⟨a1, -⟩
    · rw [x7] at a1; exact Int.le_of_lt a1
    · rw [a1, x7]; exact Int.le_refl _
  obtain ⟨r1, r2, r3, -⟩ := ch_end (fun j => mp_gt_r S od j) (C := C + 2) G f3 X3 ((y1 16 8 (by decide) (by decide) (by decide) (by decide)).trans x8) (u.cg (fun k i hk => F3 k i (by clear h h4; omega) (by clear h h4; omega) (by clear h h4; omega) (by clear h h4; omega) (by clear h h4; omega) (by clear h h4; omega) (by clear h h4; omega))) (by rw [z7]; clear h h4; omega) s26 (by rw [z18, zr, z7, ← x7]; exact y2) (by rw [z18, zr]; exact y3) (O.cg (fun k i k0 k1 => F3 k i (by clear h h4; omega) (by clear h h4; omega) (by clear h h4; omega) (by clear h h4; omega) (by clear h h4; omega) (by clear h h4; omega) (by clear h h4; omega))) K (by clear h h4; omega) e0 ((F3 16 14 (by decide) (by decide) (by decide) (by decide) (by decide) (by decide) (by decide)).trans e14) cs h4
  clear h4
  rw [ch_E xk] at r3
  have et : mp_tot W w room od S = mp_cyc (mp_E1 W w (mp_gt S od)) (mp_gt S od) room S := rfl
  rw [← et] at r3
  have hT : ∀ t, -1 ≤ mp_tk (mp_E1 W w (mp_gt S od)) (mp_gt S od) t ∧ mp_tk (mp_E1 W w (mp_gt S od)) (mp_gt S od) t ≤ 15 := fun t => mp_tk_r (fun a _ _ => (mp_gt_r S od a).2)
  have o4 : (m4 16 11).toNat = o := (G.cg r1).2.1
  rcases r3 with ⟨a1, a2, a3, a4⟩ | ⟨a1, a2, a3⟩
  · by_cases y : mp_tot W w room od S 0 0 = 0
    · rw [if_pos y] at a1
      rcases h with ⟨-, m5, e5, ev, em⟩ | ⟨d, -⟩
      · have K4 := K.c4 (E := mp_E1 W w (mp_gt S od)) (g := mp_gt S od) hT
        rw [← et] at K4
        have k4 := (K.cyc (E := mp_E1 W w (mp_gt S od)) (g := mp_gt S od) hT).2.2
        rw [← et] at k4
        have q6 : m4 o 6 = mp_tot W w room od S 0 4 := a2.2.2.2.1
        rw [o4, q6, dw (by omega) (by omega)] at e5
        obtain ⟨b1, b2⟩ := ch_cnt ho (Or.inr rfl) e5 r1 r2
        rw [em]
        exact Or.inl ⟨ev, y, b1, b2, a2.e6 ho e5, K4, (dc_up_i (by decide)).trans y, by rw [e5, dc_up_k (by omega)]; exact a3, a4.eq (dc_up_i (by decide)) (fun i _ _ => dc_up_k (by decide))⟩
      · exact absurd (by rw [a1]; decide) d
    · rw [if_neg y] at a1
      rcases h with ⟨d, -⟩ | ⟨-, ev, em⟩
      · exact absurd a1 d
      · rw [em]
        exact Or.inr ⟨ev, ⟨r1, r2, Or.inl ⟨a2, a3, a4⟩⟩, fun _ => y⟩
  · rcases h with ⟨d, -⟩ | ⟨-, ev, em⟩
    · exact absurd a1 d
    · rw [em]
      exact Or.inr ⟨ev, ⟨r1, r2, Or.inr ⟨a2, a3⟩⟩, fun q => by rw [a2] at q; exact absurd q (by decide)⟩
/-- cardCycle(k) -/
theorem ch_49l {dk : Int → Int → Int} {n k l2 l3 x0 : Int} {m0 : dc_M} (D : cg_D dk n m0) (Ls : c9_L m0) (k0 : 0 ≤ k) (k1 : k < n) (e2 : l2 = m0 7 k) (e3 : l3 = if k + 1 < n then m0 7 (k + 1) else -1) : ∀ (f c : Nat) (h : Int) (m : dc_M) (v : Int) (m' : dc_M), LM_49 x0 c 42 l2 l3 (nt_c (nt_b (m0 18)) h) m v m' → 61 - h = (f : Int) → 0 ≤ h → (∀ (k : Nat) (i : Int), k ≠ 24 → m k i = m0 k i) → (∀ j, 0 ≤ j → j < h → m0 18 j ≠ -1 → m 24 (nt_c (nt_b (m0 18)) j) = mp_gc dk n k j) → ∃ m1 v2 m2 v3 m3 v4 m4 v5 m5 v6 m6, (∀ (k : Nat) (i : Int), k ≠ 24 → m1 k i = m0 k i) ∧ (∀ j, 0 ≤ j → j < 61 → m0 18 j ≠ -1 → m1 24 (nt_c (nt_b (m0 18)) j) = mp_gc dk n k j) ∧ D_55 0 (m1 17 6) m1 v2 m2 ∧ D_56 0 (m2 17 6) m2 v3 m3 ∧ D_58 m3 v4 m4 ∧ D_56 (m4 17 6) (m4 17 7) m4 v5 m5 ∧ D_60 m5 v6 m6 ∧ ((((v6 : Int) ≠ 0 ∧ (∃ m7, m7 = dc_up m6 (m6 16 11).toNat 5 (dc_w ((m6 (m6 16 11).toNat 5) + 1)) ∧ (v = 1 ∧ m' = m7))) ∨ (¬ ((v6 : Int) ≠ 0) ∧ (v = 0 ∧ m' = m6)))) := by
  obtain ⟨L6, L7, L8, L21, -⟩ := Ls
  intro f
  induction f with
  | zero =>
    intro c h m v m' hh hf ha fr hv
    have e : h = 61 := by omega
    rw [e] at hh hv
    cases c with
    | zero => exact hh.elim
    | succ c =>
      replace hh := lm_49_42.mp hh
      rw [show m 17 6 = nt_c (nt_b (m0 18)) 61 from (fr 17 6 (by decide)).trans L6] at hh
      rcases hh with ⟨-, v2, m2, h2, v3, m3, h3, v4, m4, h4, v5, m5, h5, v6, m6, h6, hh⟩ | ⟨c1, -⟩
      · refine ⟨m, v2, m2, v3, m3, v4, m4, v5, m5, v6, m6, fr, hv, ?_, h3, h4, h5, h6, hh⟩
        rw [show m 17 6 = nt_c (nt_b (m0 18)) 61 from (fr 17 6 (by decide)).trans L6]
        exact h2
      · exfalso; omega
  | succ f ih =>
    intro c h m v m' hh hf ha fr hv
    by_cases z : m0 18 h = -1
    · exact ih c (h + 1) m v m' (by rw [nt_c_n (by omega) (nt_b_n z)]; exact hh) (by omega) (by omega) fr (fun j j0 j1 j2 => by
        by_cases y : j = h
        · rw [y] at j2; exact absurd z j2
        · exact hv j j0 (by omega) j2)
    · cases c with
      | zero => exact hh.elim
      | succ c =>
        have cy := nt_c_y (b := nt_b (m0 18)) ha (nt_b_y z)
        have r := nt_c_r (b := nt_b (m0 18)) ha
        have r2 := nt_c_le (b := nt_b (m0 18)) (h := h + 1) (k := 61) (by omega) (by omega)
        have g21 : m 21 (nt_c (nt_b (m0 18)) h) = h := (fr 21 _ (by decide)).trans (L21 h ha (by omega) z)
        replace hh := lm_49_42.mp hh
        rw [show m 17 6 = nt_c (nt_b (m0 18)) 61 from (fr 17 6 (by decide)).trans L6, g21, show dc_w (nt_c (nt_b (m0 18)) h + 1) = nt_c (nt_b (m0 18)) (h + 1) by rw [dw (by omega) (by omega), cy]] at hh
        rcases hh with ⟨c1, -⟩ | ⟨c1, -, v2, m2, hd, -, m3, em3, hh⟩
        · exfalso; omega
        · have Dm : cg_D dk n m := D.cg (fun k i hk => fr k i (by clear hh hd; omega))
          rw [e2, ← fr 7 k (by decide)] at hd
          obtain ⟨q1, q2⟩ := cg_50 Dm k0 k1 ha (by clear hh hd; omega) (by rw [e3, fr 7 (k + 1) (by decide)]) hd
          clear hd
          rw [q1, q2] at em3
          refine ih c (h + 1) m3 v m' hh (by clear hh; omega) (by clear hh; omega) (fun k i hk => by rw [em3, dc_up_k hk]; exact fr k i hk) (fun j j0 j1 j2 => ?_)
          rw [em3]
          by_cases y : j = h
          · rw [y, dc_up_s]
          · have s := nt_c_le (b := nt_b (m0 18)) (h := j + 1) (k := h) (by clear hh; omega) (by clear hh; omega)
            have s2 := nt_c_y (b := nt_b (m0 18)) (h := j) (by clear hh; omega) (nt_b_y j2)
            rw [dc_up_i (by clear hh; omega)]
            exact hv j j0 (by clear hh; omega) j2
theorem ch_49 {W : List (Int × Int)} {w : Int} {o : Nat} {z : Int} {dk : Int → Int → Int} {n room B C : Int} {m0 m S : dc_M} (G : ch_G o z dk n room m0) (hC : C ≤ 1800000000) (hB : B ≤ 1000) (cc : ch_C W w o z room B C m0 m S) {k : Int} (k0 : 0 ≤ k) (k1 : k < n) {v : Int} {m' : dc_M} (h : D_49 k m v m') : (v = 1 ∧ mp_crd W w dk n room k S 0 0 = 0 ∧ ch_C W w o z room (B + 4) (C + 2) m0 m' (dc_up (mp_crd W w dk n room k S) 0 3 (mp_crd W w dk n room k S 0 3 + 1)) ∧ cd_T (mp_T W w dk n k) m') ∨ (v = 0 ∧ ch_Z W w o z (C + 2) m0 m' (mp_crd W w dk n room k S) ∧ (m' 16 14 = 0 → mp_crd W w dk n room k S 0 0 ≠ 0)) := by
  obtain ⟨f, ⟨N, u, hst, h26⟩, O, K, e0, e14, cs⟩ := cc
  have G2 := G.cg f
  have ho := G2.2.2.2.2.1
  have D := G2.1
  obtain ⟨hb, h⟩ := h
  have hn := D.2.1
  rw [dw (z := k + 1) (by omega) (by omega), D.1] at h
  obtain ⟨l3, c, e3, h⟩ : ∃ l3 c, (l3 = if k + 1 < n then m 7 (k + 1) else -1) ∧ LM_49 k c 42 (m 7 k) l3 0 m v m' := by
    rcases h with ⟨c1, c, h⟩ | ⟨c1, -, c, h⟩
    · exact ⟨-1, c, (if_neg (by omega)).symm, h⟩
    · exact ⟨m 7 (k + 1), c, (if_pos (by omega)).symm, h⟩
  have L6 := N.2.2.1.1
  have L7 := N.2.2.1.2.1
  have c0 : nt_c (nt_b (m 18)) 0 = 0 := nt_c_0
  obtain ⟨m1, v2, m2, v3, m3, v4, m4, v5, m5, v6, m6, f1, hv, h2, h3, h4, h5, h6, h⟩ := ch_49l D N.2.2.1 k0 k1 rfl e3 61 c 0 m v m' (by rw [c0]; exact h) rfl (Int.le_refl 0) (fun _ _ _ => rfl) (fun j j0 j1 => by exfalso; clear h; omega)
  have e18 : m1 18 = m 18 := funext fun i => f1 18 i (by decide)
  have N1 : cb_N W w m1 := N.cg (fun k i hk => f1 k i (by clear h h2 h3 h4 h5 h6; omega))
  have q7 : m1 16 7 = m 16 7 := f1 16 7 (by decide)
  have gcn : ∀ j, 61 ≤ j → mp_gc dk n k j = -1 := fun j j0 => by
    unfold mp_gc
    rw [if_neg (by clear h h2 h3 h4 h5 h6; omega), if_neg (by clear h h2 h3 h4 h5 h6; omega), if_neg (by clear h h2 h3 h4 h5 h6; omega), if_neg (by clear h h2 h3 h4 h5 h6; omega)]
  have out : ∀ j, 61 ≤ j → mp_gc dk n k j < 0 := fun j j0 => by rw [gcn j j0]; decide
  obtain ⟨st, hs, x, X, x8, xk, x7, x26, x9, x10, xf⟩ := cc_pick N1 (g := mp_gc dk n k) (fun j => (mp_gc_r dk n k j).1) (a := 0) (b := 61) (by decide) (by decide) (by decide) nt_c_0.symm ((f1 17 6 (by decide)).trans (by rw [e18]; exact L6)) (fun j j0 j1 j2 => by rw [e18] at j2 ⊢; exact hv j j0 j1 j2) (fun j j0 j1 j2 => out j (by clear h h2 h3 h4 h5 h6; omega)) (by rw [q7]; clear h h2 h3 h4 h5 h6; omega) (fun i i0 i1 => by rw [q7, f1 26 i (by decide)]; exact h26 i i0 i1) h2
  clear h2
  have g18 : m2 18 = m 18 := (funext fun i => xf 18 i (by clear h h3 h4 h5 h6; omega) (by clear h h3 h4 h5 h6; omega) (by decide) (by decide)).trans e18
  have p6 : m2 17 6 = nt_c (nt_b (m2 18)) 61 := by rw [g18, xf 17 6 (by decide) (by decide) (by decide) (by decide), f1 17 6 (by decide)]; exact L6
  obtain ⟨cA, h3⟩ := h3
  have hA : LM_56 0 (m2 17 6) cA 2 (nt_c (nt_b (m2 18)) 0) m2 v3 m3 := h3
  clear h3
  obtain ⟨y1, y2, y3⟩ := cb_gl X (g := mp_gc dk n k) (fun j => (mp_gc_r dk n k j).1) (b := 61) (by decide) p6 x8 61 cA 0 m2 v3 m3 hA rfl (by decide) (fun j j0 j1 j2 => by
    rw [g18] at j2 ⊢
    rw [xf 24 _ (by clear h h4 h5 h6; omega) (by clear h h4 h5 h6; omega) (by decide) (by decide)]
    exact hv j j0 j1 j2) (fun _ _ _ _ _ _ => rfl) (by rw [x7]; exact cb_I.st x26 (fun b b0 b1 => by exfalso; clear h h4 h5 h6; omega)) (cb_J.st x9 x10 (fun b b0 b1 => by exfalso; clear h h4 h5 h6; omega))
  clear hA
  have X3 : cb_X W w m3 x := X.cg (fun k i hk => y1 k i (by clear h h4 h5 h6; omega) (by clear h h4 h5 h6; omega) (by clear h h4 h5 h6; omega) (by clear h h4 h5 h6; omega))
  have z18 : m3 18 = m2 18 := funext fun i => y1 18 i (by clear h h4 h5 h6; omega) (by decide) (by decide) (by decide)
  have zr : cb_r m3 x = cb_r m2 x := cb_r_e z18 (funext fun i => y1 20 i (by clear h h4 h5 h6; omega) (by decide) (by decide) (by decide))
  have z7 : m3 16 7 = m2 16 7 := y1 16 7 (by decide) (by decide) (by decide) (by decide)
  have z8 : m3 16 8 = (x : Int) := (y1 16 8 (by decide) (by decide) (by decide) (by decide)).trans x8
  -- u
  obtain ⟨cB, h4⟩ := h4
  have p63 : m3 17 6 = nt_c (nt_b (m3 18)) 61 := by rw [z18, y1 17 6 (by decide) (by decide) (by decide) (by decide)]; exact p6
  rw [p63] at h4
  obtain ⟨w1, w2⟩ := cg_58 X3 z8 (fun j j0 _ => out j j0) (by rw [z18, zr, z7]; exact y2) 4 cB 61 m3 v4 m4 h4 rfl (Int.le_refl 61) (fun _ _ _ => rfl) (fun j j0 j1 => by exfalso; clear h h4 h5 h6; omega)
  clear h4
  have X4 : cb_X W w m4 x := X3.cg (fun k i hk => w1 k i (by clear h h5 h6; omega))
  have u18 : m4 18 = m3 18 := funext fun i => w1 18 i (by decide)
  have ur : cb_r m4 x = cb_r m3 x := cb_r_e u18 (funext fun i => w1 20 i (by decide))
  obtain ⟨g1, eg1⟩ : ∃ g1, g1 = mp_gu (mp_E W w (ca_k x)) (mp_gc dk n k) := ⟨_, rfl⟩
  rw [← eg1] at w2
  have g1r : ∀ j, -1 ≤ g1 j ∧ g1 j ≤ 15 := fun j => by rw [eg1]; exact mp_gu_r (fun i => mp_gc_r dk n k i) j
  have g1l : ∀ j, ¬ (61 ≤ j ∧ j < 65) → g1 j = mp_gc dk n k j := fun j q => by rw [eg1]; unfold mp_gu; exact if_neg q
  obtain ⟨cC, h5⟩ := h5
  have p64 : m4 17 6 = nt_c (nt_b (m4 18)) 61 := by rw [u18, w1 17 6 (by decide)]; exact p63
  have p74 : m4 17 7 = nt_c (nt_b (m4 18)) 65 := by
    rw [u18, z18, g18, w1 17 7 (by decide), y1 17 7 (by decide) (by decide) (by decide) (by decide), xf 17 7 (by decide) (by decide) (by decide) (by decide), f1 17 7 (by decide)]; exact L7
  have hC5 : LM_56 (m4 17 6) (m4 17 7) cC 2 (nt_c (nt_b (m4 18)) 61) m4 v5 m5 := by rw [← p64]; exact h5
  clear h5
  have v7 : m4 16 7 = m2 16 7 := (w1 16 7 (by decide)).trans z7
  obtain ⟨s1, s2, s3⟩ := cb_gl X4 (g := g1) (fun j => (g1r j).1) (b := 65) (by decide) p74 ((w1 16 8 (by decide)).trans z8) 4 cC 61 m4 v5 m5 hC5 rfl (by decide) (fun j j0 j1 j2 => by rw [u18] at j2 ⊢; exact w2 j j0 j1 j2) (fun _ _ _ _ _ _ => rfl) (by
      rw [u18, z18, ur, zr, v7]
      exact (y2.g (fun b b0 b1 => g1l b (by clear h h6; omega))).cg (fun k i hk => w1 k i (by clear h h6; omega))) (by
      rw [u18, z18, ur, zr]
      exact (y3.g (fun b b0 b1 => g1l b (by clear h h6; omega))).cg (fun i hi => w1 16 i (by decide)))
  clear hC5
  have F5 : ∀ (k : Nat) (i : Int), ¬ (k = 16 ∧ 7 ≤ i ∧ i ≤ 10) → ¬ (k = 17 ∧ i = 4) → k ≠ 20 → k ≠ 24 → k ≠ 26 → k ≠ 27 → k ≠ 28 → m5 k i = m k i := fun k i a1 a2 a3 a4 a5 a6 a7 => (s1 k i (by clear h h6; omega) a5 a6 a7).trans ((w1 k i a4).trans ((y1 k i (by clear h h6; omega) a5 a6 a7).trans ((xf k i a1 a2 a3 a5).trans (f1 k i a4))))
  have X5 : cb_X W w m5 x := X4.cg (fun k i hk => s1 k i (by clear h h6; omega) (by clear h h6; omega) (by clear h h6; omega) (by clear h h6; omega))
  have t18 : m5 18 = m4 18 := funext fun i => s1 18 i (by clear h h6; omega) (by decide) (by decide) (by decide)
  have tr : cb_r m5 x = cb_r m4 x := cb_r_e t18 (funext fun i => s1 20 i (by clear h h6; omega) (by decide) (by decide) (by decide))
  have t7 : m5 16 7 = m4 16 7 := s1 16 7 (by decide) (by decide) (by decide) (by decide)
  have neg96 : ∀ b, 65 ≤ b → b < 96 → g1 b < 0 := fun b b0 b1 => by rw [g1l b (by clear h h6; omega)]; exact out b (by clear h h6; omega)
  have f5 : ch_f o m0 m5 := fun k i y => by
    rw [F5 k i (fun q => y (by unfold ch_t; omega)) (fun q => y (by unfold ch_t; omega)) (fun q => y (by unfold ch_t; omega)) (fun q => y (by unfold ch_t; omega)) (fun q => y (by unfold ch_t; omega)) (fun q => y (by unfold ch_t; omega)) (fun q => y (by unfold ch_t; omega))]
    exact f k i y
  have s26 : ∀ i, 0 ≤ i → i < 60 → m5 26 i ≤ m5 16 7 := fun i i0 i1 => by
    rw [t7]
    rcases s2 i i0 i1 with ⟨a1, -⟩ | ⟨a1, -⟩
    · exact Int.le_of_lt a1
    · rw [a1]; exact Int.le_refl _
  obtain ⟨r1, r2, r3, r4⟩ := ch_end g1r (C := C + 2) G f5 X5 ((s1 16 8 (by decide) (by decide) (by decide) (by decide)).trans ((w1 16 8 (by decide)).trans z8)) (u.cg (fun k i hk => F5 k i (by clear h h6; omega) (by clear h h6; omega) (by clear h h6; omega) (by clear h h6; omega) (by clear h h6; omega) (by clear h h6; omega) (by clear h h6; omega))) (by rw [t7, v7, x7]; clear h h6; omega) s26 (by rw [t18, tr, t7]; exact s2.ex (by decide) neg96) (by rw [t18, tr]; exact s3.ex (by decide) neg96) (O.cg (fun k i k0 k1 => F5 k i (by clear h h6; omega) (by clear h h6; omega) (by clear h h6; omega) (by clear h h6; omega) (by clear h h6; omega) (by clear h h6; omega) (by clear h h6; omega))) K (by clear h h6; omega) e0 ((F5 16 14 (by decide) (by decide) (by decide) (by decide) (by decide) (by decide) (by decide)).trans e14) cs h6
  clear h6
  rw [ch_E xk] at eg1
  rw [ch_E xk] at r3 r4
  have et : mp_crd W w dk n room k S = mp_cyc (mp_E1 W w (mp_gc dk n k)) g1 room S := by rw [eg1]; rfl
  have eT : mp_T W w dk n k = mp_tk (mp_E1 W w (mp_gc dk n k)) g1 := by rw [eg1]; rfl
  rw [← et] at r3
  rw [← eT] at r4
  have hT : ∀ t, -1 ≤ mp_tk (mp_E1 W w (mp_gc dk n k)) g1 t ∧ mp_tk (mp_E1 W w (mp_gc dk n k)) g1 t ≤ 15 := fun t => mp_tk_r (fun a _ _ => (g1r a).2)
  have o6 : (m6 16 11).toNat = o := (G.cg r1).2.1
  rcases r3 with ⟨a1, a2, a3, a4⟩ | ⟨a1, a2, a3⟩
  · by_cases y : mp_crd W w dk n room k S 0 0 = 0
    · rw [if_pos y] at a1
      rcases h with ⟨-, m7, e7, ev, em⟩ | ⟨d, -⟩
      · have K4 := K.c3 (E := mp_E1 W w (mp_gc dk n k)) (g := g1) hT
        rw [← et] at K4
        have k4 := (K.cyc (E := mp_E1 W w (mp_gc dk n k)) (g := g1) hT).2.1
        rw [← et] at k4
        have q5 : m6 o 5 = mp_crd W w dk n room k S 0 3 := a2.2.2.1
        rw [o6, q5, dw (by omega) (by omega)] at e7
        obtain ⟨b1, b2⟩ := ch_cnt ho (Or.inl rfl) e7 r1 r2
        rw [em]
        exact Or.inl ⟨ev, y, ⟨b1, b2, a2.e5 ho e7, K4, (dc_up_i (by decide)).trans y, by rw [e7, dc_up_k (by omega)]; exact a3, a4.eq (dc_up_i (by decide)) (fun i _ _ => dc_up_k (by decide))⟩, (r4 a1).cg (fun i => by rw [e7, dc_up_k (by omega)])⟩
      · exact absurd (by rw [a1]; decide) d
    · rw [if_neg y] at a1
      rcases h with ⟨d, -⟩ | ⟨-, ev, em⟩
      · exact absurd a1 d
      · rw [em]
        exact Or.inr ⟨ev, ⟨r1, r2, Or.inl ⟨a2, a3, a4⟩⟩, fun _ => y⟩
  · rcases h with ⟨d, -⟩ | ⟨-, ev, em⟩
    · exact absurd a1 d
    · rw [em]
      exact Or.inr ⟨ev, ⟨r1, r2, Or.inr ⟨a2, a3⟩⟩, fun q => by rw [a2] at q; exact absurd q (by decide)⟩
