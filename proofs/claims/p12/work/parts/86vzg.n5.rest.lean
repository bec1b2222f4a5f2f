/-! THE CALLS IN PAIRS that change tapes, boards or the JOB -/
theorem pp_144 {t n x1 x2 x3 x4 x5 v v' : Int} {a b c : dc_M} (P : lx_P t a) (ht : 0 ≤ t ∧ t ≤ 600) (hn : 0 ≤ n ∧ n ≤ 740) (n1 : a 1 1 = n) (n2 : a 114 2 = n) (h : D_144 x1 x2 x3 x4 x5 a v b) (h' : D_184 x1 x2 x3 x4 x5 b v' c) : lx_P (t + 1) c := by
  obtain ⟨T, J, B, X, U, S, N⟩ := P
  obtain ⟨q1, q2, -⟩ := cz_feed h (by rw [n1]; exact hn)
  have f := fx_144 h
  have g2 : b 114 2 = n := (f 114 2 (by unfold fx_t; omega)).trans n2
  obtain ⟨r1, r2, -⟩ := rz_feed h' (by rw [g2]; exact hn)
  have g := fy_184 h'
  have et : rz_t b = rz_t a := rz_t_e (funext fun i => f 115 i (by unfold fx_t; omega))
  have e22 : c 2 = b 2 := funext fun i => g 2 i (by unfold fy_t; omega)
  have T2 : lg_T c := by
    refine ⟨?_, ?_⟩
    · rw [e22]
      by_cases z : n ≤ 720
      · rw [q1 (by rw [n1]; exact z), r1 (by rw [g2]; exact z), et, g2, n1, T.1]
      · rw [q2 (by rw [n1]; omega), r2 (by rw [g2]; omega), et, T.1]
    · rw [g 1 8 (by unfold fy_t; omega), f 1 8 (by unfold fx_t; omega), g 114 10 (by unfold fy_t; omega), f 114 10 (by unfold fx_t; omega)]
      exact T.2
  exact lx_P.mk2 T2 (J.go (fun k i z => (g k i (dj_lg_j_fy_t z)).trans (f k i (dj_lg_j_fx_t z)))) (B.go (fun k i z => (g k i (dj_lg_bc_fy_t z)).trans (f k i (dj_lg_bc_fx_t z)))) (X.go (fun k i z => (g k i (dj_lg_xc_fy_t z)).trans (f k i (dj_lg_xc_fx_t z)))) (U.go (fun k i z => (g k i (dj_lg_uc_fy_t z)).trans (f k i (dj_lg_uc_fx_t z)))) (lg_e.s S (by omega) (fun k i z => (g k i (dj_lg_sc_fy_t z)).trans (f k i (dj_lg_sc_fx_t z)))) (Int.le_refl _) (N.go (fun k i z => (g k i (dj_lg_nc_fy_t z)).trans (f k i (dj_lg_nc_fx_t z))))
/-- the boards behind board() -/
theorem lg_board {a m1 m2 : dc_M} (N : lg_B a) {R : pz_E (List (Int × Int))} (c : (∀ (k : Nat) (i : Int), k ≠ 1 → ¬ (k = 0 ∧ (i = 8 ∨ i = 9)) → ¬ (90 ≤ k ∧ k ≤ 95) → m1 k i = a k i) ∧ match R with
    | .inl _ => m1 0 8 = a 0 8 ∧ m1 0 9 = a 0 9 ∧ ∀ (k : Nat) (i : Int), (a 0 8).toNat ≤ k → k ≤ (a 0 8).toNat + 2 → m1 k i = a k i
    | .inr W => m1 0 8 = (((a 0 9).toNat : Nat) : Int) ∧ m1 0 9 = (((a 0 8).toNat : Nat) : Int) ∧ cz_W m1 (a 0 9).toNat W) (r : rd_f m1 m2 ∧ match (generalizing := false) R with
    | .inl _ => rc_f m1 m2
    | .inr W => rz_V m2 0 W) : lg_B m2 := by
  obtain ⟨c1, c2⟩ := c
  obtain ⟨r1, r2⟩ := r
  have two := N.1
  have tb := two.b
  have s2 : ∀ (k : Nat) (i : Int), k < 114 → m2 k i = m1 k i := fun k i hk => r1 k i (by unfold rd_t; omega)
  have hs : ∀ (k : Nat) (i : Int), 64 ≤ k → k ≤ 87 → m2 k i = a k i := fun k i k0 k1 => (s2 _ i (by omega)).trans (c1 _ i (by omega) (by omega) (by omega))
  have h56 : m2 56 1 = a 56 1 := (s2 56 1 (by decide)).trans (c1 56 1 (by decide) (by decide) (by decide))
  have hr : ∀ (k : Nat) (i : Int), (k = 118 ∨ k = 119) → 120 ≤ i → m2 k i = a k i := fun k i hk hi => (r1 k i (by unfold rd_t; omega)).trans (c1 k i (by omega) (by omega) (by omega))
  have hc : ∀ i : Int, 2 ≤ i → m2 120 i = a 120 i := fun i hi => (r1 120 i (by unfold rd_t; omega)).trans (c1 120 i (by decide) (by omega) (by decide))
  have h122 : ∀ i : Int, m2 122 i = a 122 i := fun i => (r1 122 i (by unfold rd_t; omega)).trans (c1 122 i (by decide) (by omega) (by decide))
  cases R with
  | inl f =>
    obtain ⟨d8, d9, d⟩ := c2
    have g8 : m2 0 8 = a 0 8 := (s2 0 8 (by decide)).trans d8
    have g9 : m2 0 9 = a 0 9 := (s2 0 9 (by decide)).trans d9
    have r2' : ∀ (k : Nat) (i : Int), ¬ rc_t k i → m2 k i = m1 k i := r2
    refine N.mk2 (by unfold lx_twoB; rw [g8, g9]; exact two) ?_ hs h56 hr hc h122
    rw [g8]
    refine N.2.1.go (fun j i j0 j1 => (s2 j i (by omega)).trans (d j i j0 j1)) ?_ (fun i i0 i1 => ⟨?_, ?_⟩)
    · exact (r2' 120 0 (by unfold rc_t; omega)).trans (c1 120 0 (by decide) (by omega) (by decide))
    · exact (r2' 118 i (by unfold rc_t; omega)).trans (c1 118 i (by decide) (by omega) (by decide))
    · exact (r2' 119 i (by unfold rc_t; omega)).trans (c1 119 i (by decide) (by omega) (by decide))
  | inr W =>
    obtain ⟨d8, d9, d⟩ := c2
    have g8 : m2 0 8 = (((a 0 9).toNat : Nat) : Int) := (s2 0 8 (by decide)).trans d8
    have g9 : m2 0 9 = (((a 0 8).toNat : Nat) : Int) := (s2 0 9 (by decide)).trans d9
    refine N.mk2 (by unfold lx_twoB; rw [g8, g9, Int.toNat_natCast, Int.toNat_natCast]; rcases two with ⟨t1, t2⟩ | ⟨t1, t2⟩; exact Or.inr ⟨t2, t1⟩; exact Or.inl ⟨t2, t1⟩) ?_ hs h56 hr hc h122
    rw [g8, Int.toNat_natCast]
    exact ⟨W, d.gg (fun j i j0 j1 => s2 j i (by omega)), r2⟩
theorem pp_150 {t n v v' : Int} {a b c : dc_M} (P : lx_P t a) (ht : 0 ≤ t ∧ t ≤ 600) (hn : 0 ≤ n ∧ n ≤ 740) (n1 : a 1 1 = n) (n2 : a 114 2 = n) (h : D_150 a v b) (h' : D_209 b v' c) : v' = v ∧ lx_P (t + 1) c := by
  obtain ⟨T, J, B, X, U, S, N⟩ := P
  have two := B.1
  have tb := two.b
  have k3 : 3 ≤ (a 0 9).toNat := by omega
  have q := cz_board h k3 (by rw [n1]; exact hn)
  have qF := cz_boardF h k3 (by rw [n1]; exact hn)
  have qW := cz_boardW h two (by rw [n1]; exact hn)
  have f : ∀ (k : Nat) (i : Int), ¬ lz_b1 k i → b k i = a k i := fun k i z => qW.1 k i (fun y => z (Or.inl y)) (fun y => z (Or.inr (Or.inl y))) (fun y => z (Or.inr (Or.inr y)))
  have g2 : b 114 2 = n := (f 114 2 (by unfold lz_b1; omega)).trans n2
  have r := rz_board h' (by rw [g2]; exact hn)
  have rF := rz_boardF h' (by rw [g2]; exact hn)
  have rW := rz_boardW h' (by rw [g2]; exact hn)
  have g := fb_209 h'
  have e2 : b 2 = a 2 := funext fun i => f 2 i (by unfold lz_b1; omega)
  have et : rz_t b = rz_t a := rz_t_e (funext fun i => f 115 i (by unfold lz_b1; omega))
  have et2 : rz_t c = rz_t b := rz_t_e (funext fun i => g 115 i (by unfold fb_t; omega))
  rw [n1, T.1] at q qF qW
  rw [et, g2] at r rF rW
  refine ⟨r.trans q.symm, lx_P.mk2 ⟨?_, ?_⟩ (J.go (fun k i z => (g k i (dj_lg_j_fb_t z)).trans (f k i (dj_lg_j_lz_b1 z)))) (lg_board B qW rW) (X.go (fun k i z => (g k i (dj_lg_xc_fb_t z)).trans (f k i (dj_lg_xc_lz_b1 z)))) (U.go (fun k i z => (g k i (dj_lg_uc_fb_t z)).trans (f k i (dj_lg_uc_lz_b1 z)))) (lg_e.s S (by omega) (fun k i z => (g k i (dj_lg_sc_fb_t z)).trans (f k i (dj_lg_sc_lz_b1 z)))) (Int.le_refl _) (N.go (fun k i z => (g k i (dj_lg_nc_fb_t z)).trans (f k i (dj_lg_nc_lz_b1 z))))⟩
  · rw [et2, et, ← T.1, ← e2]
    exact funext fun i => g 2 i (by unfold fb_t; omega)
  · rw [rF, ← qF]
    exact g 1 8 (by unfold fb_t; omega)
theorem lx_oj {a b : dc_M} {k : Nat} (hk : k = 96 ∨ k = 105) (o : ∀ (j : Nat) (i : Int), j ≠ 1 → ¬ (k ≤ j ∧ j ≤ k + 8) → b j i = a j i) {J : pj_J} {k2 : Nat} (h2 : (k = 96 ∧ k2 = 105) ∨ (k = 105 ∧ k2 = 96)) (h : cj_J a k2 J) : cj_J b k2 J := h.g3 (o k2 3 (by omega) (by omega)) (o k2 9 (by omega) (by omega)) (fun q h1 h8 => funext fun i => o (k2 + q) i (by omega) (by omega))
/-- the class's job(): the JOB that stands behind it, its runs -/
theorem cj_jobJ {m : dc_M} {v : Int} {m' : dc_M} (h : D_163 m v m') (hn : 0 ≤ m 1 1 ∧ m 1 1 ≤ 740) (t : lx_two m) (z : m 49 0 = 0) {J0 : pj_J} (ok0 : pj_ok J0) (c0 : cj_J m (m 0 10).toNat J0) (n0 : cn_R J0 m) : lx_two m' ∧ m' 49 0 = 0 ∧ match pj_all (m 2) (m 1 1) with
    | .inl _ => cj_J m' (m' 0 10).toNat J0 ∧ cn_R J0 m'
    | .inr K => pj_ok K ∧ cj_J m' (m' 0 10).toNat K ∧ cn_R K m' := by
  obtain ⟨v1, m1, h1, m2, e2, h⟩ := h
  obtain ⟨k, ek⟩ : ∃ k, k = (m 0 11).toNat := ⟨_, rfl⟩
  have hk : k = 96 ∨ k = 105 := by rcases t with ⟨-, t⟩ | ⟨-, t⟩ <;> omega
  rw [← ek] at h1
  obtain ⟨q, fr, -⟩ := cj_text (by omega) h1 hn
  have o2 : ∀ (j : Nat) (i : Int), j ≠ 1 → ¬ (k ≤ j ∧ j ≤ k + 8) → m2 j i = m j i := fun j i p1 p2 => by rw [e2, dc_up_k p1]; exact fr j i p1 p2
  have g10 : m2 0 10 = m 0 10 := o2 0 10 (by decide) (by omega)
  have g11 : m2 0 11 = m 0 11 := o2 0 11 (by decide) (by omega)
  have g49 : m2 49 0 = m 49 0 := o2 49 0 (by decide) (by omega)
  cases e : pj_all (m 2) (m 1 1) with
  | inl f =>
    obtain ⟨y1, y2, y3⟩ := pz_on_l q e
    rcases h with ⟨d1, -⟩ | ⟨d1, ev, em⟩
    · exact absurd y1 d1
    · rw [em]
      refine ⟨by unfold lx_two; rw [g10, g11]; exact t, g49.trans z, ?_⟩
      show cj_J m2 (m2 0 10).toNat J0 ∧ cn_R J0 m2
      rw [g10]
      refine ⟨lx_oj hk o2 (by rcases t with ⟨t1, t2⟩ | ⟨t1, t2⟩ <;> omega) c0, n0.go (o2 46 1 (by decide) (by omega)) (funext fun i => o2 47 i (by decide) (by omega))⟩
  | inr K =>
    obtain ⟨y1, y2, y3, JK, ok⟩ := pz_on_r q e
    rcases h with ⟨d1, m3, e3, m4, e4, v5, m5, h5, ev, em⟩ | ⟨d1, -⟩
    · have F := cp_80 h5
      have f4 : ∀ (j : Nat) (i : Int), j ≠ 0 → m4 j i = m2 j i := fun j i p => by rw [e4, dc_up_k p, e3, dc_up_k p]
      have i10 : m4 0 10 = (((m 0 11).toNat : Nat) : Int) := by rw [e4, dc_up_s, g11]
      have i11 : m4 0 11 = (((m 0 10).toNat : Nat) : Int) := by rw [e4, dc_up_i (by decide), e3, dc_up_s, g10]
      have j10 : m5 0 10 = m4 0 10 := F 0 10 (by decide)
      have j11 : m5 0 11 = m4 0 11 := F 0 11 (by decide)
      have K2 : cj_J m2 k K := JK.g3 (by rw [e2, dc_up_k (by omega)]) (by rw [e2, dc_up_k (by omega)]) (fun q p1 p8 => funext fun i => by rw [e2, dc_up_k (by omega)])
      have K4 : cj_J m4 k K := K2.g3 (f4 k 3 (by omega)) (f4 k 9 (by omega)) (fun q p1 p8 => funext fun i => f4 (k + q) i (by omega))
      rw [i10, Int.toNat_natCast, ← ek] at h5
      obtain ⟨n5, z5⟩ := cn_part hk ok h5 K4 ((f4 49 0 (by decide)).trans (g49.trans z))
      rw [em]
      refine ⟨?_, z5, ok, ?_, n5⟩
      · unfold lx_two
        rw [j10, j11, i10, i11, Int.toNat_natCast, Int.toNat_natCast]
        rcases t with ⟨t1, t2⟩ | ⟨t1, t2⟩
        · exact Or.inr ⟨t2, t1⟩
        · exact Or.inl ⟨t2, t1⟩
      · rw [j10, i10, Int.toNat_natCast, ← ek]
        exact K4.g3 (F k 3 (by omega)) (F k 9 (by omega)) (fun q p1 p8 => funext fun i => F (k + q) i (by omega))
    · exfalso; omega
theorem pp_163 {t n v v' : Int} {a b c : dc_M} (P : lx_P t a) (ht : 0 ≤ t ∧ t ≤ 600) (hn : 0 ≤ n ∧ n ≤ 740) (n1 : a 1 1 = n) (n2 : a 114 2 = n) (h : D_163 a v b) (h' : D_256 b v' c) : v' = v ∧ lx_P (t + 1) c := by
  obtain ⟨T, ⟨t2, z, J0, okJ, cJ, rJ0, nJ⟩, B, X, U, S, N⟩ := P
  obtain ⟨q, qF, qo⟩ := cj_job h (by rcases t2 with ⟨-, y⟩ | ⟨-, y⟩; exact Or.inr y; exact Or.inl y) (by rw [n1]; exact hn)
  have f : ∀ (k : Nat) (i : Int), ¬ lz_j1 k i → b k i = a k i := fun k i y => qo k i (fun w => y (Or.inl w)) (fun w => y (Or.inr (Or.inl w))) (fun w => y (Or.inr (Or.inr (Or.inl w)))) (fun w => y (Or.inr (Or.inr (Or.inr w))))
  have g2 : b 114 2 = n := (f 114 2 (by unfold lz_j1; omega)).trans n2
  obtain ⟨r, rF, ro, rJ⟩ := rj_job h' (by rw [g2]; exact hn)
  have g : ∀ (k : Nat) (i : Int), ¬ lz_j2 k i → c k i = b k i := fun k i y => ro k i (fun w => y (Or.inl ⟨w.1, by
    have w2 := w.2
    simp only [List.mem_cons, List.not_mem_nil, or_false] at w2
    omega⟩)) (fun w => y (Or.inr w))
  obtain ⟨t1, z1, qJ⟩ := cj_jobJ h (by rw [n1]; exact hn) t2 z okJ cJ nJ
  have e2 : b 2 = a 2 := funext fun i => f 2 i (by unfold lz_j1; omega)
  have et : rz_t b = rz_t a := rz_t_e (funext fun i => f 115 i (by unfold lz_j1; omega))
  have et2 : rz_t c = rz_t b := rz_t_e (funext fun i => g 115 i (by unfold lz_j2; omega))
  rw [n1, T.1] at q qF qJ
  rw [et, g2] at r rF rJ
  have R1 : r0_J b J0 := rJ0.go (fun k i p1 p2 => f k i (by unfold lz_j1; omega))
  have s2 : ∀ (k : Nat) (i : Int), k < 114 → c k i = b k i := fun k i hk => g k i (by unfold lz_j2; omega)
  have t3 : lx_two c := by unfold lx_two; rw [s2 0 10 (by decide), s2 0 11 (by decide)]; exact t1
  have cc : ∀ {K : pj_J}, cj_J b (b 0 10).toNat K → cj_J c (c 0 10).toNat K := fun {K} y => by
    rw [s2 0 10 (by decide)]
    rcases t1 with ⟨w, -⟩ | ⟨w, -⟩
    · rw [w] at y ⊢
      exact y.g3 (s2 96 3 (by decide)) (s2 96 9 (by decide)) (fun q p1 p8 => funext fun i => s2 _ i (by omega))
    · rw [w] at y ⊢
      exact y.g3 (s2 105 3 (by decide)) (s2 105 9 (by decide)) (fun q p1 p8 => funext fun i => s2 _ i (by omega))
  have nn : ∀ {K : pj_J}, cn_R K b → cn_R K c := fun {K} y => y.go (s2 46 1 (by decide)) (funext fun i => s2 47 i (by decide))
  have J2 : ∃ J, lx_JJ J c := by
    cases e : pj_all (rz_t a) n with
    | inl y =>
      rw [e] at qJ rJ
      exact ⟨J0, okJ, cc qJ.1, rJ J0 R1 okJ.1 okJ.2.2.2.1, nn qJ.2⟩
    | inr K =>
      rw [e] at qJ rJ
      exact ⟨K, qJ.1, cc qJ.2.1, rJ, nn qJ.2.2⟩
  refine ⟨r.trans q.symm, lx_P.mk2 ⟨?_, ?_⟩ ⟨t3, (s2 49 0 (by decide)).trans z1, J2⟩ (B.go (fun k i z => (g k i (dj_lg_bc_lz_j2 z)).trans (f k i (dj_lg_bc_lz_j1 z)))) (X.go (fun k i z => (g k i (dj_lg_xc_lz_j2 z)).trans (f k i (dj_lg_xc_lz_j1 z)))) (U.go (fun k i z => (g k i (dj_lg_uc_lz_j2 z)).trans (f k i (dj_lg_uc_lz_j1 z)))) (lg_e.s S (by omega) (fun k i z => (g k i (dj_lg_sc_lz_j2 z)).trans (f k i (dj_lg_sc_lz_j1 z)))) (Int.le_refl _) (N.go (fun k i z => (g k i (dj_lg_nc_lz_j2 z)).trans (f k i (dj_lg_nc_lz_j1 z))))⟩
  · rw [et2, et, ← T.1, ← e2]
    exact funext fun i => g 2 i (by unfold lz_j2; omega)
  · rw [rF, ← qF]
    exact g 1 8 (by unfold lz_j2; omega)
/-- the set of wants behind a run -/
theorem cn_set {J : pj_J} (ok : pj_ok J) {r : Int} {m0 : dc_M} (hC : cn_R J m0) (h0 : 0 ≤ r) (h1 : r < m0 46 1) : ∃ q : Nat, m0 47 r = (q : Int) ∧ q < 256 ∧ pl_fit J q := by
  obtain ⟨F, P, hT, a⟩ := hC
  have l8 := ok.2.2.2.1
  have all2 := (sm_all J.2.2.length l8).2
  have two := pl_two J.2.2.length
  rcases a with ⟨a1, a2, a3⟩ | ⟨a1, a2⟩
  · have hr : ((r.toNat : Nat) : Int) = r := by omega
    have q := a3 r.toNat (by omega)
    rw [hr] at q
    obtain ⟨n1, cd⟩ := pl_ch_P (by omega) hT (by omega) a1 (r := r.toNat) (by omega)
    have i1 := pl_ch_F (by omega) hT (by omega) a1 r.toNat (by omega)
    refine ⟨_, q, ?_, cd.2⟩
    have pc := cd.1
    omega
  · exfalso
    omega
theorem cx_166 {J : pj_J} (ok : pj_ok J) {x : Int} {a b : dc_M} {v : Int} (hC : cn_R J a) (hk : (a 0 10).toNat = 96 ∨ (a 0 10).toNat = 105) (ht : (a 0 8).toNat = 90 ∨ (a 0 8).toNat = 93) (hJ : cj_J a (a 0 10).toNat J) (h : D_166 x a v b) : ∀ (k : Nat) (i : Int), ¬ lz_m1 k i → b k i = a k i := by
  obtain ⟨v1, m5, h1, hc⟩ := h
  obtain ⟨e5, p1⟩ := pn_has h1
  clear h1
  subst e5
  rcases hc with ⟨d1, -, v6, m6, h6, ev, em⟩ | ⟨d1, ev, em⟩
  · rcases p1 with ⟨y, -⟩ | ⟨-, y0, y1⟩
    · exact absurd y d1
    · obtain ⟨q, q1, q2, q3⟩ := cn_set ok hC y0 y1
      rw [q1] at h6
      obtain ⟨-, f6, f7⟩ := cm_make (by rcases ht with ht | ht <;> rw [ht] <;> unfold cm_tb <;> omega) hk ok q2 h6 hJ
      clear h6
      rw [em]
      intro k i y
      unfold lz_m1 at y
      by_cases k46 : k = 46
      · subst k46
        have i1 : i = 1 := by omega
        subst i1
        exact f7 1 (by decide) (by decide) (by decide) (by decide)
      · exact f6 k i k46 (by omega) (by omega) (by omega) (by omega) (by omega)
  · rw [em]
    exact fun _ _ _ => rfl
theorem pp_166 {t n x v v' : Int} {a b c : dc_M} (P : lx_P t a) (ht : 0 ≤ t ∧ t ≤ 600) (hn : 0 ≤ n ∧ n ≤ 740) (n1 : a 1 1 = n) (n2 : a 114 2 = n) (h : D_166 x a v b) (h' : D_265 x b v' c) : v' = v ∧ lx_P (t + 1) c := by
  obtain ⟨T, J, B, X, U, S, N⟩ := P
  have two := B.1
  have tb := two.b
  have t90 : (a 0 8).toNat = 90 ∨ (a 0 8).toNat = 93 := by rcases two with ⟨y, -⟩ | ⟨y, -⟩; exact Or.inl y; exact Or.inr y
  obtain ⟨t2, z, J0, okJ, cJ, rJ, nJ⟩ := J
  have g := fk_265 h'
  have tk : (a 0 10).toNat = 96 ∨ (a 0 10).toNat = 105 := by rcases t2 with ⟨y, -⟩ | ⟨y, -⟩; exact Or.inl y; exact Or.inr y
  have f := cx_166 okJ nJ tk t90 cJ h
  obtain ⟨q1, q2, q3, q4⟩ := pn_makeW okJ nJ tk (by rcases t90 with y | y <;> rw [y] <;> unfold cm_tb <;> omega) cJ h h' (rJ.go (fun k i p1 p2 => f k i (by unfold lz_m1; omega)))
  have s2 : ∀ (k : Nat) (i : Int), k < 114 → c k i = b k i := fun k i hk => g k i (by unfold fk_t; omega)
  have g8 : c 0 8 = a 0 8 := (s2 0 8 (by decide)).trans (f 0 8 (by unfold lz_m1; omega))
  have g9 : c 0 9 = a 0 9 := (s2 0 9 (by decide)).trans (f 0 9 (by unfold lz_m1; omega))
  have B2 : lg_B c := by
    refine B.mk2 (by unfold lx_twoB; rw [g8, g9]; exact two) ?_ (fun k i k0 k1 => (s2 k i (by omega)).trans (f k i (by unfold lz_m1; omega))) ((s2 56 1 (by decide)).trans (f 56 1 (by unfold lz_m1; omega))) (fun k i hk hi => (q3 k i (by omega) (by omega) (by omega) (by omega)).trans (f k i (by unfold lz_m1; omega))) (fun i hi => (q3 120 i (by decide) (by decide) (by omega) (by omega)).trans (f 120 i (by unfold lz_m1; omega))) (fun i => (q3 122 i (by decide) (by decide) (by omega) (by omega)).trans (f 122 i (by unfold lz_m1; omega)))
    rw [g8]
    rcases q4 with ⟨W, w1, w2⟩ | ⟨w1, w2⟩
    · exact ⟨W, w1.gg (fun j i j0 j1 => s2 j i (by omega)), w2⟩
    · exact B.2.1.go (fun j i j0 j1 => (s2 j i (by omega)).trans (w1 j i j0 j1)) ((w2 120 0 (by decide) (by decide)).trans (f 120 0 (by unfold lz_m1; omega))) (fun i i0 i1 => ⟨(w2 118 i (by decide) (by decide)).trans (f 118 i (by unfold lz_m1; omega)), (w2 119 i (by decide) (by decide)).trans (f 119 i (by unfold lz_m1; omega))⟩)
  exact ⟨q1, lx_P.mk2 (T.go (fun k i z => (g k i (dj_lg_tc_fk_t z)).trans (f k i (dj_lg_tc_lz_m1 z)))) (lx_J.go ⟨t2, z, J0, okJ, cJ, rJ, nJ⟩ (fun k i z => (g k i (dj_lg_j_fk_t z)).trans (f k i (dj_lg_j_lz_m1 z)))) B2 (X.go (fun k i z => (g k i (dj_lg_xc_fk_t z)).trans (f k i (dj_lg_xc_lz_m1 z)))) (U.go (fun k i z => (g k i (dj_lg_uc_fk_t z)).trans (f k i (dj_lg_uc_lz_m1 z)))) (lg_e.s S (by omega) (fun k i z => (g k i (dj_lg_sc_fk_t z)).trans (f k i (dj_lg_sc_lz_m1 z)))) (Int.le_refl _) (N.go (fun k i z => (g k i (dj_lg_nc_fk_t z)).trans (f k i (dj_lg_nc_lz_m1 z))))⟩
theorem pp_176 {t n x v v' : Int} {a b c : dc_M} (P : lx_P t a) (ht : 0 ≤ t ∧ t ≤ 600) (hn : 0 ≤ n ∧ n ≤ 740) (n1 : a 1 1 = n) (n2 : a 114 2 = n) (h : D_176 x a v b) (h' : D_272 x b v' c) : v' = v ∧ lx_P (t + 1) c := by
  have P0 := P
  obtain ⟨T, J, B, X, U, S, N⟩ := P
  obtain ⟨two, n2W, n3, s, s1, s2, s3⟩ := B
  have tb := two.b
  have t90 : (a 0 8).toNat = 90 ∨ (a 0 8).toNat = 93 := by rcases two with ⟨y, -⟩ | ⟨y, -⟩; exact Or.inl y; exact Or.inr y
  have Q := ck_keep h two s1 s2
  have R := rk_keep h'
  clear h h'
  rcases Q with ⟨ev, hx, -, yW, y2, y3⟩ | ⟨ev, hx, em⟩
  · rcases R with ⟨ev2, -, -, zW, z2, z3⟩ | ⟨-, hx2, -⟩
    · have f : ∀ (k : Nat) (i : Int), ¬ lz_k1 k i → b k i = a k i := fun k i y => by
        unfold lz_k1 at y
        exact y3 k i (by omega) (by omega)
      have g : ∀ (k : Nat) (i : Int), ¬ lz_k2 k i → c k i = b k i := fun k i y => by
        unfold lz_k2 at y
        exact z3 k i (by omega) (by omega) (by omega) (by omega)
      have g8 : c 0 8 = a 0 8 := (g 0 8 (by unfold lz_k2; omega)).trans (f 0 8 (by unfold lz_k1; omega))
      have g9 : c 0 9 = a 0 9 := (g 0 9 (by unfold lz_k2; omega)).trans (f 0 9 (by unfold lz_k1; omega))
      obtain ⟨P1, P2, P3⟩ := lb_put s s1 x.toNat (by omega)
      have B2 : lg_B c := by
        refine ⟨by unfold lx_twoB; rw [g8, g9]; exact two, ?_, fun k hk => ?_, s ||| 2 ^ x.toNat, P2, (g 56 1 (by unfold lz_k2; omega)).trans y2, fun k hk => ?_⟩
        · rw [g8]
          exact n2W.go (fun j i j0 j1 => (g j i (by unfold lz_k2; omega)).trans (y3 j i (by omega) (by omega))) ((z3 120 0 (by omega) (by omega) (by omega) (by omega)).trans (y3 120 0 (by omega) (by omega))) (fun i i0 i1 => ⟨(z3 118 i (by omega) (by omega) (by omega) (by omega)).trans (y3 118 i (by omega) (by omega)), (z3 119 i (by omega) (by omega) (by omega) (by omega)).trans (y3 119 i (by omega) (by omega))⟩)
        · by_cases e : k = x.toNat
          · obtain ⟨W, w1, w2⟩ := n2W
            have w3 := zW W (w2.ge (y3 120 0 (by omega) (by omega)) (fun i i0 i1 => ⟨y3 118 i (by omega) (by omega), y3 119 i (by omega) (by omega)⟩))
            have w4 := yW W w1
            rw [e, show (2 : Int) + ((x.toNat : Nat) : Int) = 2 + x by omega]
            exact ⟨W, w4.gg (fun j i j0 j1 => g j i (by unfold lz_k2; omega)), w3⟩
          · exact (n3 k hk).go (fun j i j0 j1 => (g j i (by unfold lz_k2; omega)).trans (y3 j i (by omega) (by omega))) ((z3 120 _ (by omega) (by omega) (by omega) (by omega)).trans (y3 120 _ (by omega) (by omega))) (fun i i0 i1 => ⟨(z3 118 i (by omega) (by omega) (by omega) (by omega)).trans (y3 118 i (by omega) (by omega)), (z3 119 i (by omega) (by omega) (by omega) (by omega)).trans (y3 119 i (by omega) (by omega))⟩)
        · rw [P3 k hk]
          by_cases e : k = x.toNat
          · subst e
            rw [if_pos rfl, show ((x.toNat : Nat) : Int) = x by omega]
            exact ⟨fun y => absurd y (by decide), fun y => absurd y z2⟩
          · rw [if_neg e, z3 122 _ (by omega) (by omega) (by omega) (by omega), y3 122 _ (by omega) (by omega)]
            exact s3 k hk
      exact ⟨ev2.trans ev.symm, lx_P.mk2 (T.go (fun k i z => (g k i (dj_lg_tc_lz_k2 z)).trans (f k i (dj_lg_tc_lz_k1 z)))) (J.go (fun k i z => (g k i (dj_lg_j_lz_k2 z)).trans (f k i (dj_lg_j_lz_k1 z)))) B2 (X.go (fun k i z => (g k i (dj_lg_xc_lz_k2 z)).trans (f k i (dj_lg_xc_lz_k1 z)))) (U.go (fun k i z => (g k i (dj_lg_uc_lz_k2 z)).trans (f k i (dj_lg_uc_lz_k1 z)))) (lg_e.s S (by omega) (fun k i z => (g k i (dj_lg_sc_lz_k2 z)).trans (f k i (dj_lg_sc_lz_k1 z)))) (Int.le_refl _) (N.go (fun k i z => (g k i (dj_lg_nc_lz_k2 z)).trans (f k i (dj_lg_nc_lz_k1 z))))⟩
    · exact absurd hx hx2
  · subst em
    rcases R with ⟨-, hx2, -⟩ | ⟨ev2, -, g⟩
    · exact absurd hx2 hx
    · exact ⟨ev2.trans ev.symm, P0.qu (fun k i z => g k i (dj_lg_all_lz_0 z))⟩
theorem pp_177 {t n x v v' : Int} {a b c : dc_M} (P : lx_P t a) (ht : 0 ≤ t ∧ t ≤ 600) (hn : 0 ≤ n ∧ n ≤ 740) (n1 : a 1 1 = n) (n2 : a 114 2 = n) (h : D_177 x a v b) (h' : D_274 x b v' c) : v' = v ∧ lx_P (t + 1) c := by
  have P0 := P
  obtain ⟨T, J, B, X, U, S, N⟩ := P
  have B0 := B
  obtain ⟨two, n2W, n3, s, s1, s2, s3⟩ := B
  have tb := two.b
  have t90 : (a 0 8).toNat = 90 ∨ (a 0 8).toNat = 93 := by rcases two with ⟨y, -⟩ | ⟨y, -⟩; exact Or.inl y; exact Or.inr y
  have Q := ck_use h two s1 s2
  have R := rk_use h'
  clear h h'
  have hold : b 122 x = a 122 x → (0 ≤ x ∧ x < 8) → (lb_b s x.toNat ≠ 0 ↔ b 122 x ≠ 0) := fun e hx => by
    have y := s3 x.toNat (by omega)
    rw [show ((x.toNat : Nat) : Int) = x by omega] at y
    rw [e]
    exact ⟨fun z w => z (y.mpr w), fun z w => z (y.mp w)⟩
  rcases Q with ⟨⟨hx, hb⟩, ev, -, yW, y3⟩ | ⟨hx, ev, em⟩
  · obtain ⟨W, w1, w2⟩ := n3 x.toNat (by omega)
    rw [show (2 : Int) + ((x.toNat : Nat) : Int) = 2 + x by omega] at w2
    have e120 : ∀ i : Int, b 120 i = a 120 i := fun i => y3 120 i (by omega)
    rcases R with ⟨-, ev2, -, zW, z3⟩ | ⟨hx2, -, -⟩
    · have f : ∀ (k : Nat) (i : Int), ¬ lz_k1 k i → b k i = a k i := fun k i y => by
        unfold lz_k1 at y
        exact y3 k i (by omega)
      have g : ∀ (k : Nat) (i : Int), ¬ lz_k2 k i → c k i = b k i := fun k i y => by
        unfold lz_k2 at y
        exact z3 k i (by omega) (by omega) (by omega)
      have g8 : c 0 8 = a 0 8 := (g 0 8 (by unfold lz_k2; omega)).trans (f 0 8 (by unfold lz_k1; omega))
      have g9 : c 0 9 = a 0 9 := (g 0 9 (by unfold lz_k2; omega)).trans (f 0 9 (by unfold lz_k1; omega))
      have B2 : lg_B c := by
        refine B0.mk2 (by unfold lx_twoB; rw [g8, g9]; exact two) ?_ (fun k i k0 k1 => (g k i (by unfold lz_k2; omega)).trans (y3 k i (by omega))) ((g 56 1 (by unfold lz_k2; omega)).trans (y3 56 1 (by omega))) (fun k i hk hi => (z3 k i (by omega) (by omega) (by omega)).trans (y3 k i (by omega))) (fun i hi => (z3 120 i (by omega) (by omega) (by omega)).trans (e120 i)) (fun i => (z3 122 i (by omega) (by omega) (by omega)).trans (y3 122 i (by omega)))
        rw [g8]
        exact ⟨W, (yW W w1).gg (fun j i j0 j1 => g j i (by unfold lz_k2; omega)), zW W (w2.ge (e120 _) (fun i i0 i1 => ⟨y3 118 i (by omega), y3 119 i (by omega)⟩))⟩
      refine ⟨?_, lx_P.mk2 (T.go (fun k i z => (g k i (dj_lg_tc_lz_k2 z)).trans (f k i (dj_lg_tc_lz_k1 z)))) (J.go (fun k i z => (g k i (dj_lg_j_lz_k2 z)).trans (f k i (dj_lg_j_lz_k1 z)))) B2 (X.go (fun k i z => (g k i (dj_lg_xc_lz_k2 z)).trans (f k i (dj_lg_xc_lz_k1 z)))) (U.go (fun k i z => (g k i (dj_lg_uc_lz_k2 z)).trans (f k i (dj_lg_uc_lz_k1 z)))) (lg_e.s S (by omega) (fun k i z => (g k i (dj_lg_sc_lz_k2 z)).trans (f k i (dj_lg_sc_lz_k1 z)))) (Int.le_refl _) (N.go (fun k i z => (g k i (dj_lg_nc_lz_k2 z)).trans (f k i (dj_lg_nc_lz_k1 z))))⟩
      rw [ev2, ev, e120, w1.1, w2.1]
    · exact absurd ⟨hx, (hold (y3 122 x (by omega)) hx).mp hb⟩ hx2
  · subst em
    rcases R with ⟨⟨hx2, hb2⟩, -⟩ | ⟨-, ev2, g⟩
    · exact absurd ⟨hx2, (hold rfl hx2).mpr hb2⟩ hx
    · exact ⟨ev2.trans ev.symm, P0.qu (fun k i z => g k i (dj_lg_all_lz_0 z))⟩
/-! same(): how far the class counts the lines that a wall would have -/
theorem sm_97 {m : dc_M} {v : Int} {m' : dc_M} (h : D_97 40 m v m') (h0 : 0 ≤ m 40 1 ∧ m 40 1 ≤ 1000) : m' 40 1 = m 40 1 + 1 := by
  have key : ∀ (c : Nat) (l : Int) (m : dc_M) (v : Int) (m' : dc_M), LM_97 40 c 17 l m v m' → 0 ≤ m 40 1 ∧ m 40 1 ≤ 1000 → m' 40 1 = m 40 1 + 1 := by
    intro c
    induction c with
    | zero => intro l m v m' h; exact h.elim
    | succ c ih =>
      intro l m v m' h h0
      replace h := lm_97_17.mp h
      rcases h with ⟨-, m1, e1, -, em⟩ | ⟨-, -, m1, e1, h⟩
      · rw [em, e1, dc_up_s]
        exact dc_w_eq (by unfold sv_I; omega)
      · have g : m1 40 1 = m 40 1 := by rw [e1, dc_up_k (by decide)]
        rw [← g]
        exact ih _ m1 v m' h (by rw [g]; exact h0)
  rcases h with ⟨-, m1, e1, -, em⟩ | ⟨-, c, h⟩
  · rw [em, e1, dc_up_s]
    exact dc_w_eq (by unfold sv_I; omega)
  · exact key c _ m v m' h h0
theorem sm_98 {x0 x1 : Int} {m : dc_M} {v : Int} {m' : dc_M} (h : D_98 40 x0 x1 m v m') : m' 40 1 = m 40 1 := by
  rcases h with ⟨-, -, em⟩ | ⟨-, ⟨-, -, em⟩ | ⟨-, ⟨-, -, em⟩ | ⟨-, ⟨-, -, em⟩ | ⟨-, -, m1, e1, -, em⟩⟩⟩⟩
  · rw [em]
  · rw [em]
  · rw [em]
  · rw [em]
  · rw [em, e1, dc_up_k (by decide)]
theorem sm_91 {k1 : Nat} {x2 x3 : Int} {m : dc_M} {v : Int} {m' : dc_M} (h : D_91 k1 x2 x3 m v m') : 0 ≤ v ∧ v ≤ 3 := by
  have key : ∀ (c : Nat) (l4 l5 : Int) (m : dc_M) (v : Int) (m' : dc_M), LM_91 k1 x2 x3 c 6 l4 l5 m v m' → 0 ≤ l4 ∧ l4 ≤ 3 → 0 ≤ v ∧ v ≤ 3 := by
    intro c
    induction c with
    | zero => intro l4 l5 m v m' h; exact h.elim
    | succ c ih =>
      intro l4 l5 m v m' h h0
      replace h := lm_91_6.mp h
      rcases h with ⟨-, ev, em⟩ | ⟨c5, g5, h⟩
      · rw [ev]; exact h0
      · rcases h with ⟨-, h⟩ | ⟨-, v1, m1, -, v2, m2, -, h⟩
        · exact ih _ _ m v m' h h0
        · rcases h with ⟨-, h⟩ | ⟨-, h⟩
          · exact ih _ _ m2 v m' h h0
          · exact ih _ _ m2 v m' h (by clear h; omega)
  obtain ⟨c, h⟩ := h
  exact key c 0 1 m v m' h (by decide)
theorem sm_92 {k1 : Nat} {x1 x2 : Int} {m : dc_M} {v : Int} {m' : dc_M} (h : D_92 k1 x1 x2 40 m v m') (h0 : 0 ≤ m 40 1 ∧ m 40 1 ≤ 900) : m 40 1 ≤ m' 40 1 ∧ m' 40 1 ≤ m 40 1 + 1 := by
  have key : ∀ c : Nat, (∀ (l5 l6 l7 l8 : Int) (m : dc_M) (v : Int) (m' : dc_M), LM_92 k1 x1 x2 40 c 9 l5 l6 l7 l8 m v m' → 0 ≤ m 40 1 ∧ m 40 1 ≤ 901 ∧ (l5 = 0 → m 40 1 ≤ 900) → m 40 1 ≤ m' 40 1 ∧ m' 40 1 ≤ m 40 1 + 1 ∧ (l5 ≠ 0 → m' 40 1 = m 40 1)) ∧ (∀ (l5 l6 l7 l8 : Int) (m : dc_M) (v : Int) (m' : dc_M), LM_92 k1 x1 x2 40 c 54 l5 l6 l7 l8 m v m' → 0 ≤ m 40 1 ∧ m 40 1 ≤ 901 ∧ (l5 = 0 → m 40 1 ≤ 900) → m 40 1 ≤ m' 40 1 ∧ m' 40 1 ≤ m 40 1 + 1 ∧ (l5 ≠ 0 → m' 40 1 = m 40 1)) := by
    intro c
    induction c with
    | zero => exact ⟨fun _ _ _ _ _ _ _ h => h.elim, fun _ _ _ _ _ _ _ h => h.elim⟩
    | succ c ih =>
      obtain ⟨ih9, ih54⟩ := ih
      refine ⟨fun l5 l6 l7 l8 m v m' h h0 => ?_, fun l5 l6 l7 l8 m v m' h h0 => ?_⟩
      · replace h := lm_92_9.mp h
        rcases h with ⟨-, -, em⟩ | ⟨-, h⟩
        · rw [em]
          exact ⟨Int.le_refl _, by omega, fun _ => rfl⟩
        · rcases h with ⟨-, h⟩ | ⟨-, -, h⟩
          · exact ih9 _ _ _ _ m v m' h h0
          · rcases h with ⟨-, -, h⟩ | ⟨-, h⟩
            · exact ih9 _ _ _ _ m v m' h h0
            · rcases h with ⟨-, h⟩ | ⟨c5, v2, m2, h2, h⟩
              · exact ih54 _ _ _ _ m v m' h h0
              · have c5' : l5 = 0 := Decidable.not_not.mp c5
                have hb := h0.2.2 c5'
                have e := sm_97 h2 (by clear h h2; omega)
                obtain ⟨-, -, i3⟩ := ih54 _ _ _ _ m2 v m' h ⟨by clear h h2; omega, by clear h h2; omega, fun z => absurd z (by decide)⟩
                have i3 := i3 (by decide)
                clear h h2
                exact ⟨by omega, by omega, fun z => absurd c5' z⟩
      · replace h := lm_92_54.mp h
        obtain ⟨-, h⟩ := h
        rcases h with ⟨-, -, m1, e1, -, h⟩ | ⟨-, -, -, v2, m2, h2, v3, m3, h3, h⟩
        · have g : m1 40 1 = m 40 1 := by rw [e1, dc_up_k (by decide)]
          rw [← g]
          exact ih9 _ _ _ _ m1 v m' h (by rw [g]; exact h0)
        · have g2 : m2 40 1 = m 40 1 := fz_54 h2 40 1 (by unfold fz_t; omega)
          have g3 : m3 40 1 = m 40 1 := (sm_98 h3).trans g2
          rw [← g3]
          exact ih54 _ _ _ _ m3 v m' h (by rw [g3]; exact h0)
  obtain ⟨c, h⟩ := h
  obtain ⟨q1, q2, -⟩ := (key c).1 0 1 0 0 m v m' h ⟨h0.1, by clear h; omega, fun _ => h0.2⟩
  exact ⟨q1, q2⟩
theorem sm_89 {k1 : Nat} {x1 : Int} {m : dc_M} {v : Int} {m' : dc_M} (h : D_89 k1 x1 40 m v m') : 0 ≤ m' 40 1 := by
  have key : ∀ c : Nat, (∀ (l5 l6 l7 l8 l9 : Int) (m : dc_M) (v : Int) (m' : dc_M), LM_89 k1 x1 40 c 17 l5 l6 l7 l8 l9 m v m' → 0 ≤ l5 → l5 ≤ 40 → 0 ≤ m 40 1 → m 40 1 ≤ 4 * l5 → 0 ≤ m' 40 1) ∧ (∀ (l5 l6 l7 l8 l9 : Int) (m : dc_M) (v : Int) (m' : dc_M), LM_89 k1 x1 40 c 38 l5 l6 l7 l8 l9 m v m' → 0 ≤ l5 → l5 < 40 → 0 ≤ m 40 1 → m 40 1 ≤ 4 * l5 → 0 ≤ m' 40 1) ∧ (∀ (l5 l6 l7 l8 l9 : Int) (m : dc_M) (v : Int) (m' : dc_M), LM_89 k1 x1 40 c 111 l5 l6 l7 l8 l9 m v m' → 0 ≤ l5 → l5 < 40 → l8 ≤ 3 → 1 ≤ l9 → l9 ≤ 4 → 0 ≤ m 40 1 → m 40 1 ≤ 4 * l5 + (l9 - 1) → 0 ≤ m' 40 1) := by
    intro c
    induction c with
    | zero => exact ⟨fun _ _ _ _ _ _ _ _ h => h.elim, fun _ _ _ _ _ _ _ _ h => h.elim, fun _ _ _ _ _ _ _ _ h => h.elim⟩
    | succ c ih =>
      obtain ⟨i17, i38, i111⟩ := ih
      refine ⟨fun l5 l6 l7 l8 l9 m v m' h a0 a1 b0 b1 => ?_, fun l5 l6 l7 l8 l9 m v m' h a0 a1 b0 b1 => ?_, fun l5 l6 l7 l8 l9 m v m' h a0 a1 a8 a9 a10 b0 b1 => ?_⟩
      · replace h := lm_89_17.mp h
        rcases h with ⟨-, -, em⟩ | ⟨-, g, h⟩
        · rw [em]; exact b0
        · exact i38 _ _ _ _ _ m v m' h a0 g.2 b0 b1
      · replace h := lm_89_38.mp h
        rcases h with ⟨-, h⟩ | ⟨-, v2, m2, h2, h⟩
        · rcases h with ⟨-, -, v2, m2, h2, h⟩ | ⟨-, h⟩
          · have g2 : m2 40 1 = m 40 1 := fz_91 h2 40 1 (by unfold fz_t; omega)
            have q := sm_91 h2
            clear h2
            exact i111 _ _ _ _ _ m2 v m' h a0 a1 q.2 (by decide) (by decide) (by rw [g2]; exact b0) (by rw [g2]; clear h; omega)
          · exact i111 _ _ _ _ _ m v m' h a0 a1 (by decide) (by decide) (by decide) b0 (by clear h; omega)
        · have g2 : m2 40 1 = m 40 1 := fz_90 h2 40 1 (by unfold fz_t; omega)
          exact i38 _ _ _ _ _ m2 v m' h a0 a1 (by rw [g2]; exact b0) (by rw [g2]; exact b1)
      · replace h := lm_89_111.mp h
        rcases h with ⟨c9, h⟩ | ⟨c9, v2, m2, h2, h⟩
        · have w : dc_w (l5 + 1) = l5 + 1 := dc_w_eq (by unfold sv_I; clear h; omega)
          rw [w] at h
          exact i17 _ _ _ _ _ m v m' h (by clear h; omega) (by clear h; omega) b0 (by clear h; omega)
        · have w : dc_w (l9 + 1) = l9 + 1 := dc_w_eq (by unfold sv_I; clear h h2; omega)
          rw [w] at h
          obtain ⟨q1, q2⟩ := sm_92 h2 (by clear h h2; omega)
          clear h2
          exact i111 _ _ _ _ _ m2 v m' h a0 a1 a8 (by clear h; omega) (by clear h; omega) (by clear h; omega) (by clear h; omega)
  obtain ⟨m1, e1, m2, e2, c, h⟩ := h
  have g1 : m1 40 1 = 0 := by rw [e1, dc_up_s]
  have g2 : m2 40 1 = 0 := by
    rw [e2]
    exact (if_neg (fun z => absurd z.1 (by decide))).trans g1
  exact (key c).1 _ _ _ _ _ m2 v m' h (by decide) (by decide) (by rw [g2]; decide) (by rw [g2]; decide)
theorem sm_169 {N : Int → Int} {B : Int → Int → Int → Int} (V : ∀ b k c, bx_v (B b k c)) {W : List (Int × Int)} {C : Int} {m : dc_M} (hb : bx_C N B m) (hk : 90 ≤ (m 0 8).toNat) (hW : cz_W m (m 0 8).toNat W) (hC : C + 320 ≤ 1800000000) (S : ck_S C m) {x y v : Int} {m' : dc_M} (h : D_169 x y m v m') : ck_S (C + 320) m' ∧ ∀ (k : Nat) (i : Int), ¬ lz_ck k i → m' k i = m k i := by
  have rf : ck_S (C + 320) m ∧ ∀ (k : Nat) (i : Int), ¬ lz_ck k i → m k i = m k i := ⟨S.cg (by omega) (fun _ _ _ => rfl), fun _ _ _ => rfl⟩
  obtain ⟨v1, m1, h1, h⟩ := h
  obtain ⟨e1, q1⟩ := ck_box h1
  clear h1
  subst e1
  rcases h with ⟨-, -, em⟩ | ⟨c1, v2, m2, h2, h⟩
  · rw [em]; exact rf
  · have hx : 0 ≤ x ∧ x < 8 := by
      rcases q1 with ⟨-, q1⟩ | ⟨q1, -⟩
      · exact q1
      · exact absurd q1 c1
    obtain ⟨e2, -⟩ := pn_has h2
    clear h2
    subst e2
    rcases h with ⟨-, v3, m3, h3, -, v4, m4, h4, v5, m5, h5, h⟩ | ⟨-, -, em⟩
    · obtain ⟨D3, f3⟩ := bx_23 hb V hx.1 hx.2 h3
      clear h3
      have f4 := fs_89 h4
      have l4 := sm_89 h4
      clear h4
      have f34 : ∀ (k : Nat) (i : Int), ¬ ((k = 40 ∧ i = 1) ∨ k = 41 ∨ k = 55 ∨ (k = 3 ∧ i = 4) ∨ k = 7) → m4 k i = m2 k i := fun k i z => (f4 k i (by unfold fs_t; omega)).trans (f3 k i (by omega) (by omega))
      have D4 : cg_D (B x) (N x) m4 := D3.cg (fun k i hk => f4 k i (by unfold fs_t; omega))
      have e8 : m4 0 8 = m2 0 8 := f34 0 8 (by omega)
      have W4 : cz_W m4 (m4 0 8).toNat W := by
        rw [e8]
        exact hW.gg (fun j i j0 j1 => f34 j i (by omega))
      have S4 : ck_S C m4 := S.cg (Int.le_refl C) (fun k i z => f34 k i (by omega))
      have fin : ck_S (C + 320) m5 ∧ ∀ (k : Nat) (i : Int), ¬ lz_ck k i → m5 k i = m2 k i := by
        obtain ⟨v6, m6, h6, h5⟩ := h5
        obtain ⟨S6, f6⟩ := cv_130 (by rw [e8]; omega) W4 D4 l4 hC S4 h6
        clear h6
        have e5 : m5 = m6 := by
          rcases h5 with ⟨-, -, em⟩ | ⟨-, ⟨-, -, em⟩ | ⟨-, -, em⟩⟩
          · exact em
          · exact em
          · exact em
        rw [e5]
        refine ⟨S6, fun k i z => (f6 k i (fun y => z (by unfold ck_t at y; unfold lz_ck; omega))).trans (f34 k i (fun y => z (by unfold lz_ck; omega)))⟩
      have e6 : m' = m5 := by
        rcases h with ⟨-, -, em⟩ | ⟨-, -, em⟩
        · exact em
        · exact em
      rw [e6]
      exact fin
    · rw [em]; exact rf
theorem sm_271 {N : Int → Int} {B : Int → Int → Int → Int} (V : ∀ b k c, bx_v (B b k c)) {W : List (Int × Int)} {m : dc_M} (hb : bx_R N B m) (hW : rz_V m 0 W) {x y v : Int} {m' : dc_M} (h : D_271 x y m v m') : ∀ (k : Nat) (i : Int), ¬ lz_sm k i → m' k i = m k i := by
  obtain ⟨m1, e1, v2, m2, h2, v3, m3, h3, h⟩ := h
  have f1 : ∀ (k : Nat) (i : Int), ¬ lz_sm k i → m1 k i = m k i := fun k i z => by
    rw [e1]
    exact if_neg (fun w => z (by unfold lz_sm; omega))
  have f2 := fj_263 h2
  have f3 := fw_190 h3
  clear h2 h3
  have f13 : ∀ (k : Nat) (i : Int), ¬ lz_sm k i → m3 k i = m k i := fun k i z => (f3 k i (fun w => z (by unfold fw_t at w; unfold lz_sm; omega))).trans ((f2 k i (fun w => z (by unfold fj_t at w; unfold lz_sm; omega))).trans (f1 k i z))
  clear f1 f2 f3
  rcases h with ⟨-, -, em⟩ | ⟨-, h⟩
  · rw [em]; exact f13
  · rcases h with ⟨-, v4, m4, h4, m5, e5, hx, v6, m6, h6, v7, m7, h7, -, h⟩ | ⟨-, -, em⟩
    · have f4 := fw_266 h4
      clear h4
      have f15 : ∀ (k : Nat) (i : Int), ¬ lz_sm k i → m5 k i = m k i := fun k i z => by
        rw [e5]
        refine (if_neg (fun w => z (by unfold lz_sm; omega))).trans ((f4 k i (fun w => z (by unfold fw_t at w; unfold lz_sm; omega))).trans (f13 k i z))
      clear f4 f13
      have nx := hb.1 x hx.1 hx.2
      have b5 : bx_R N B m5 := hb.cg (fun k i hk => f15 k i (by unfold lz_sm mr_t mr_k; omega))
      rw [(b5.1 x hx.1 hx.2).1] at h6
      obtain ⟨D6, f6⟩ := rx_load b5 V hx.1 hx.2 (Int.le_refl 0) nx.2.1 (by omega) (by omega) h6
      clear h6
      have V6 : rz_V m6 0 W := rm_V hW (fun k i hk => (f6 k i (by omega) (by omega)).trans (f15 k i (by unfold lz_sm mr_t mr_k; omega)))
      obtain ⟨-, -, -, f7⟩ := r7_play h7 V6 rfl D6 (by decide)
      clear h7
      have f17 : ∀ (k : Nat) (i : Int), ¬ lz_sm k i → m7 k i = m k i := fun k i z => (f7 k i (fun w => z (Or.inr (Or.inr (Or.inr w))))).trans ((f6 k i (fun w => z (by unfold lz_sm; omega)) (fun w => z (by unfold lz_sm; omega))).trans (f15 k i z))
      have e : m' = m7 := by
        rcases h with ⟨-, -, em⟩ | ⟨-, -, h⟩
        · exact em
        · rcases h with ⟨-, c, h⟩ | ⟨-, -, em⟩
          · have key : ∀ (c : Nat) (l3 l4 l5 : Int) (m : dc_M) (v : Int) (m' : dc_M), LM_271 x y c 81 l3 l4 l5 m v m' → m' = m := by
              intro c
              induction c with
              | zero => intro l3 l4 l5 m v m' h; exact h.elim
              | succ c ih =>
                intro l3 l4 l5 m v m' h
                replace h := lm_271_81.mp h
                rcases h with ⟨-, -, em⟩ | ⟨-, -, -, h⟩
                · exact em
                · rcases h with ⟨-, h⟩ | ⟨-, -, em⟩
                  · exact ih _ _ _ m v m' h
                  · exact em
            exact key c _ _ _ m7 v m' h
          · exact em
      rw [e]
      exact f17
    · rw [em]; exact f13
theorem pp_169 {t n x y v v' : Int} {a b c : dc_M} (P : lx_P t a) (ht : 0 ≤ t ∧ t ≤ 600) (hn : 0 ≤ n ∧ n ≤ 740) (n1 : a 1 1 = n) (n2 : a 114 2 = n) (h : D_169 x y a v b) (h' : D_271 x y b v' c) : lx_P (t + 1) c := by
  have P0 := P
  obtain ⟨T, J, B, ⟨Nn, Bb, V, x1, x2⟩, U, S, N⟩ := P
  have tb := B.1.b
  obtain ⟨W, w1, w2⟩ := B.2.1
  obtain ⟨S1, f⟩ := sm_169 V x1 tb.1 w1 (by omega) S h
  have w2b : rz_V b 0 W := rm_V w2 (fun k i hk => f k i (by unfold lz_ck; omega))
  have x2b : bx_R Nn Bb b := x2.cg (fun k i hk => f k i (by unfold lz_ck; omega))
  have g := sm_271 V x2b w2b h'
  exact P0.q2 (fun k i z => (g k i (dj_lg_al2_lz_sm z)).trans (f k i (dj_lg_al2_lz_ck z))) (lg_e.s S1 (Int.le_refl _) (fun k i z => g k i (dj_lg_sc_lz_sm z))) (by omega)
