/-! WHAT STANDS BETWEEN TWO CALLS, all of it, over the plain memory: tapes and faults, the JOB and its runs, the boards, the boxes, the last run, the clock, the figures told -/
def lg_e (Q : Nat → Int → Prop) (a b : dc_M) : Prop := ∀ (k : Nat) (i : Int), Q k i → b k i = a k i
theorem lg_e.tr {Q : Nat → Int → Prop} {a b c : dc_M} (h : lg_e Q a b) (g : lg_e Q b c) : lg_e Q a c := fun k i z => (g k i z).trans (h k i z)
theorem lg_e.of {Q F : Nat → Int → Prop} {a b : dc_M} (h : ∀ (k : Nat) (i : Int), ¬ F k i → b k i = a k i) (d : ∀ (k : Nat) (i : Int), Q k i → ¬ F k i) : lg_e Q a b := fun k i z => h k i (d k i z)
/-- tapes and faults -/
def lg_tc (k : Nat) (i : Int) : Prop := k = 2 ∨ k = 115 ∨ (k = 1 ∧ i = 8) ∨ (k = 114 ∧ i = 10)
def lg_T (m : dc_M) : Prop := m 2 = rz_t m ∧ m 1 8 = m 114 10
theorem rz_t_e {a b : dc_M} (e : b 115 = a 115) : rz_t b = rz_t a := funext fun i => by unfold rz_t; rw [e]
theorem lg_T.go {a b : dc_M} (h : lg_T a) (f : lg_e lg_tc a b) : lg_T b := by
  have e2 : b 2 = a 2 := funext fun i => f 2 i (Or.inl rfl)
  have e5 : b 115 = a 115 := funext fun i => f 115 i (Or.inr (Or.inl rfl))
  refine ⟨by rw [e2, rz_t_e e5]; exact h.1, ?_⟩
  rw [f 1 8 (Or.inr (Or.inr (Or.inl ⟨rfl, rfl⟩))), f 114 10 (Or.inr (Or.inr (Or.inr ⟨rfl, rfl⟩)))]
  exact h.2
/-- the JOBS -/
def lx_two (m : dc_M) : Prop := ((m 0 10).toNat = 96 ∧ (m 0 11).toNat = 105) ∨ ((m 0 10).toNat = 105 ∧ (m 0 11).toNat = 96)
def lx_JJ (J : pj_J) (m : dc_M) : Prop := pj_ok J ∧ cj_J m (m 0 10).toNat J ∧ r0_J m J ∧ cn_R J m
def lx_J (m : dc_M) : Prop := lx_two m ∧ m 49 0 = 0 ∧ ∃ J, lx_JJ J m
def lg_j (k : Nat) (i : Int) : Prop := (97 ≤ k ∧ k ≤ 104) ∨ (106 ≤ k ∧ k ≤ 113) ∨ k = 47 ∨ k = 49 ∨ (152 ≤ k ∧ k ≤ 159) ∨ (k = 0 ∧ (i = 10 ∨ i = 11)) ∨ ((k = 96 ∨ k = 105) ∧ (i = 3 ∨ i = 9)) ∨ (k = 46 ∧ i = 1)
theorem cn_R.go {J : pj_J} {a b : dc_M} (h : cn_R J a) (e1 : b 46 1 = a 46 1) (e2 : b 47 = a 47) : cn_R J b := by
  obtain ⟨F, P, hT, q⟩ := h
  refine ⟨F, P, hT, ?_⟩
  rw [e1, e2]
  exact q
theorem cj_J.g3 {J : pj_J} {a b : dc_M} {k : Nat} (h : cj_J a k J) (e3 : b k 3 = a k 3) (e9 : b k 9 = a k 9) (g : ∀ q : Nat, 1 ≤ q → q ≤ 8 → b (k + q) = a (k + q)) : cj_J b k J := by
  obtain ⟨⟨a0, a1⟩, b0, w0, w1⟩ := h
  refine ⟨⟨e3.trans a0, fun i hi => ?_⟩, fun o p1 p3 => ?_, e9.trans w0, fun i hi => ?_⟩
  · rw [g 1 (by decide) (by decide), g 2 (by decide) (by decide), g 3 (by decide) (by decide)]; exact a1 i hi
  · rw [g 4 (by decide) (by decide)]; exact b0 o p1 p3
  · rw [g 5 (by decide) (by decide), g 6 (by decide) (by decide), g 7 (by decide) (by decide), g 8 (by decide) (by decide)]; exact w1 i hi
theorem lx_J.go {a b : dc_M} (h : lx_J a) (f : lg_e lg_j a b) : lx_J b := by
  obtain ⟨t, z, J, ok, c, r, n⟩ := h
  have e10 : b 0 10 = a 0 10 := f 0 10 (by unfold lg_j; omega)
  have e11 : b 0 11 = a 0 11 := f 0 11 (by unfold lg_j; omega)
  refine ⟨?_, (f 49 0 (by unfold lg_j; omega)).trans z, J, ok, ?_, r.go (fun k i k1 k2 => f k i (by unfold lg_j; omega)), n.go (f 46 1 (by unfold lg_j; omega)) (funext fun i => f 47 i (by unfold lg_j; omega))⟩
  · unfold lx_two; rw [e10, e11]; exact t
  · rw [e10]
    rcases t with ⟨t, -⟩ | ⟨t, -⟩
    · rw [t] at c ⊢
      exact c.g3 (f 96 3 (by unfold lg_j; omega)) (f 96 9 (by unfold lg_j; omega)) (fun q h1 h8 => funext fun i => f _ i (by unfold lg_j; omega))
    · rw [t] at c ⊢
      exact c.g3 (f 105 3 (by unfold lg_j; omega)) (f 105 9 (by unfold lg_j; omega)) (fun q h1 h8 => funext fun i => f _ i (by unfold lg_j; omega))
/-- the boards: the plugged one, the shelf, which places are kept -/
def lg_bc (k : Nat) (i : Int) : Prop := (k = 0 ∧ (i = 8 ∨ i = 9)) ∨ (64 ≤ k ∧ k ≤ 87) ∨ (90 ≤ k ∧ k ≤ 95) ∨ (k = 56 ∧ i = 1) ∨ ((k = 118 ∨ k = 119) ∧ (i < 60 ∨ 120 ≤ i)) ∨ (k = 120 ∧ i ≠ 1) ∨ k = 122
def lg_W (m : dc_M) (k : Nat) (s : Int) : Prop := ∃ W, cz_W m k W ∧ rz_V m s W
def lg_B (m : dc_M) : Prop := lx_twoB m ∧ lg_W m (m 0 8).toNat 0 ∧ (∀ k : Nat, k < 8 → lg_W m (64 + 3 * k) (2 + (k : Int))) ∧ ∃ s : Nat, s < 256 ∧ m 56 1 = (s : Int) ∧ ∀ k : Nat, k < 8 → (lb_b s k = 0 ↔ m 122 (k : Int) = 0)
theorem rz_V.ge {a b : dc_M} {s : Int} {W : List (Int × Int)} (h : rz_V a s W) (e : b 120 s = a 120 s) (f : ∀ i, 60 * s ≤ i → i < 60 * s + 60 → b 118 i = a 118 i ∧ b 119 i = a 119 i) : rz_V b s W := by
  refine ⟨e.trans h.1, h.2.1, fun i hi => ?_⟩
  have l := h.2.1
  obtain ⟨f1, f2⟩ := f (60 * s + (i : Int)) (by omega) (by omega)
  rw [f1, f2]
  exact h.2.2 i hi
theorem lg_W.go {a b : dc_M} {k : Nat} {s : Int} (h : lg_W a k s) (f : ∀ (j : Nat) (i : Int), k ≤ j → j ≤ k + 2 → b j i = a j i) (e : b 120 s = a 120 s) (g : ∀ i, 60 * s ≤ i → i < 60 * s + 60 → b 118 i = a 118 i ∧ b 119 i = a 119 i) : lg_W b k s := by
  obtain ⟨W, w1, w2⟩ := h
  exact ⟨W, w1.gg f, w2.ge e g⟩
theorem lx_twoB.b {m : dc_M} (t : lx_twoB m) : 90 ≤ (m 0 8).toNat ∧ (m 0 8).toNat ≤ 93 ∧ 90 ≤ (m 0 9).toNat ∧ (m 0 9).toNat ≤ 93 := by
  rcases t with ⟨t1, t2⟩ | ⟨t1, t2⟩ <;> omega
/-- all but the plugged board stay -/
theorem lg_B.mk2 {a b : dc_M} (N : lg_B a) (two : lx_twoB b) (h0 : lg_W b (b 0 8).toNat 0) (hs : ∀ (k : Nat) (i : Int), 64 ≤ k → k ≤ 87 → b k i = a k i) (h56 : b 56 1 = a 56 1) (hr : ∀ (k : Nat) (i : Int), (k = 118 ∨ k = 119) → 120 ≤ i → b k i = a k i) (hc : ∀ i : Int, 2 ≤ i → b 120 i = a 120 i) (h122 : ∀ i : Int, b 122 i = a 122 i) : lg_B b := by
  obtain ⟨-, -, n3, s, s1, s2, s3⟩ := N
  refine ⟨two, h0, fun k hk => (n3 k hk).go (fun j i j0 j1 => hs j i (by omega) (by omega)) (hc _ (by omega)) (fun i i0 i1 => ⟨hr 118 i (Or.inl rfl) (by omega), hr 119 i (Or.inr rfl) (by omega)⟩), s, s1, h56.trans s2, fun k hk => ?_⟩
  rw [h122]
  exact s3 k hk
theorem lg_B.go {a b : dc_M} (N : lg_B a) (f : lg_e lg_bc a b) : lg_B b := by
  have e8 : b 0 8 = a 0 8 := f 0 8 (by unfold lg_bc; omega)
  have e9 : b 0 9 = a 0 9 := f 0 9 (by unfold lg_bc; omega)
  have two := N.1
  have tb := two.b
  have two2 : lx_twoB b := by unfold lx_twoB; rw [e8, e9]; exact two
  refine N.mk2 two2 ?_ (fun k i k0 k1 => f k i (by unfold lg_bc; omega)) (f 56 1 (by unfold lg_bc; omega)) (fun k i hk hi => f k i (by unfold lg_bc; omega)) (fun i hi => f 120 i (by unfold lg_bc; omega)) (fun i => f 122 i (by unfold lg_bc; omega))
  rw [e8]
  have two3 : (a 0 8).toNat = 90 ∨ (a 0 8).toNat = 93 := by rcases two with ⟨t1, -⟩ | ⟨t1, -⟩; exact Or.inl t1; exact Or.inr t1
  exact N.2.1.go (fun j i j0 j1 => f j i (by unfold lg_bc; omega)) (f 120 0 (by unfold lg_bc; omega)) (fun i i0 i1 => ⟨f 118 i (by unfold lg_bc; omega), f 119 i (by unfold lg_bc; omega)⟩)
/-- the boxes -/
def lg_xc (k : Nat) (i : Int) : Prop := (4 ≤ k ∧ k ≤ 6) ∨ k = 116 ∨ k = 117
def lg_X (m : dc_M) : Prop := ∃ N B, (∀ b k c, bx_v (B b k c)) ∧ bx_C N B m ∧ bx_R N B m
theorem lg_X.go {a b : dc_M} (h : lg_X a) (f : lg_e lg_xc a b) : lg_X b := by
  obtain ⟨N, B, V, h1, h2⟩ := h
  exact ⟨N, B, V, h1.cg (fun k i hk => f k i (by unfold lg_xc; omega)), h2.cg (fun k i hk => f k i (by unfold lg_xc; omega))⟩
/-- the last run -/
def lg_uc (k : Nat) (i : Int) : Prop := (k = 0 ∧ i = 12) ∨ (11 ≤ k ∧ k ≤ 15) ∨ (k = 114 ∧ i = 44) ∨ mr_s 1 k i
def lg_F (m F : dc_M) : Prop := co_0 11 m F ∧ mr_O 1 m F ∧ (0 ≤ F 0 1 ∧ F 0 1 ≤ 60) ∧ 0 ≤ F 0 2 ∧ F 0 2 ≤ 40
def lg_U (m : dc_M) : Prop := (m 0 12 = 0 ∧ m 114 44 = 0 ∧ m 12 1 = 0) ∨ (m 0 12 = 1 ∧ m 114 44 = 1 ∧ ∃ F, lg_F m F)
theorem lg_U.go {a b : dc_M} (h : lg_U a) (f : lg_e lg_uc a b) : lg_U b := by
  have e1 : b 0 12 = a 0 12 := f 0 12 (Or.inl ⟨rfl, rfl⟩)
  have e2 : b 114 44 = a 114 44 := f 114 44 (Or.inr (Or.inr (Or.inl ⟨rfl, rfl⟩)))
  have e3 : b 12 1 = a 12 1 := f 12 1 (Or.inr (Or.inl ⟨by decide, by decide⟩))
  unfold lg_U
  rw [e1, e2, e3]
  rcases h with h | ⟨h1, h2, F, g1, g2, g3, g4⟩
  · exact Or.inl h
  · exact Or.inr ⟨h1, h2, F, g1.cg (fun k i k0 k1 => f k i (Or.inr (Or.inl ⟨k0, k1⟩))), g2.cg g3.2 g4.2 (fun k i z => f k i (Or.inr (Or.inr (Or.inr z)))), g3, g4⟩
/-- the clock -/
def lg_sc (k : Nat) (i : Int) : Prop := (k = 16 ∧ i = 7) ∨ k = 26
/-- the figures told -/
def lg_nc (k : Nat) (i : Int) : Prop := (k = 29 ∧ (i = 8 ∨ i = 9 ∨ i = 11)) ∨ k = 44 ∨ (k = 0 ∧ i = 13) ∨ (k = 114 ∧ (i = 47 ∨ i = 54 ∨ i = 56 ∨ i = 57)) ∨ k = 144
def lg_N (m : dc_M) : Prop := (m 29 11 = m 114 54 ∧ (0 ≤ m 29 11 ∧ m 29 11 ≤ 40) ∧ ∀ j, 0 ≤ j → j < m 29 11 → m 44 j = m 144 j) ∧ (m 29 8 = m 114 56 ∧ m 29 9 = m 114 57) ∧ m 0 13 = m 114 47
theorem lg_N.un {a b : dc_M} (h : lg_N a) (e1 : b 29 11 = a 29 11) (e2 : b 114 54 = a 114 54) (e3 : ∀ j, b 44 j = a 44 j) (e4 : ∀ j, b 144 j = a 144 j) : b 29 11 = b 114 54 ∧ (0 ≤ b 29 11 ∧ b 29 11 ≤ 40) ∧ ∀ j, 0 ≤ j → j < b 29 11 → b 44 j = b 144 j := by
  rw [e1, e2]
  refine ⟨h.1.1, h.1.2.1, fun j j0 j1 => ?_⟩
  rw [e3, e4]
  exact h.1.2.2 j j0 j1
theorem lg_N.go {a b : dc_M} (h : lg_N a) (f : lg_e lg_nc a b) : lg_N b := by
  refine ⟨h.un (f 29 11 (by unfold lg_nc; omega)) (f 114 54 (by unfold lg_nc; omega)) (fun j => f 44 j (by unfold lg_nc; omega)) (fun j => f 144 j (by unfold lg_nc; omega)), ⟨?_, ?_⟩, ?_⟩
  · rw [f 29 8 (by unfold lg_nc; omega), f 114 56 (by unfold lg_nc; omega)]; exact h.2.1.1
  · rw [f 29 9 (by unfold lg_nc; omega), f 114 57 (by unfold lg_nc; omega)]; exact h.2.1.2
  · rw [f 0 13 (by unfold lg_nc; omega), f 114 47 (by unfold lg_nc; omega)]; exact h.2.2
/-- all of it, at the t-th call -/
def lx_P (t : Int) (m : dc_M) : Prop := lg_T m ∧ lx_J m ∧ lg_B m ∧ lg_X m ∧ lg_U m ∧ ck_S (1000000 * t) m ∧ lg_N m
theorem lx_P.mk2 {t : Int} {c : dc_M} (T : lg_T c) (J : lx_J c) (B : lg_B c) (X : lg_X c) (U : lg_U c) {C : Int} (S : ck_S C c) (hC : C ≤ 1000000 * t + 1000000) (N : lg_N c) : lx_P (t + 1) c := ⟨T, J, B, X, U, S.cg (by omega) (fun _ _ _ => rfl), N⟩
theorem lx_P.by0 {t : Int} {a : dc_M} (P : lx_P t a) : ∀ i, 0 ≤ a 2 i ∧ a 2 i ≤ 255 := fun i => by
  rw [P.1.1]
  exact rz_t_r
theorem lx_P.k8 {t : Int} {a : dc_M} (P : lx_P t a) : 45 < (a 0 8).toNat := by
  have := P.2.2.1.1.b
  omega
def lg_al2 (k : Nat) (i : Int) : Prop := lg_tc k i ∨ lg_j k i ∨ lg_bc k i ∨ lg_xc k i ∨ lg_uc k i ∨ lg_nc k i
def lg_all (k : Nat) (i : Int) : Prop := lg_al2 k i ∨ lg_sc k i
theorem lg_e.s {C D : Int} {a b : dc_M} (S : ck_S C a) (h : C ≤ D) (f : lg_e lg_sc a b) : ck_S D b := S.cg h (fun k i z => f k i z)
/-- a call that leaves all that is looked at but the clock -/
theorem lx_P.q2 {t : Int} {a c : dc_M} (P : lx_P t a) (f : lg_e lg_al2 a c) {C : Int} (S : ck_S C c) (hC : C ≤ 1000000 * t + 1000000) : lx_P (t + 1) c := by
  obtain ⟨T, J, B, X, U, -, N⟩ := P
  exact lx_P.mk2 (T.go (fun k i z => f k i (Or.inl z))) (J.go (fun k i z => f k i (Or.inr (Or.inl z)))) (B.go (fun k i z => f k i (Or.inr (Or.inr (Or.inl z))))) (X.go (fun k i z => f k i (Or.inr (Or.inr (Or.inr (Or.inl z)))))) (U.go (fun k i z => f k i (Or.inr (Or.inr (Or.inr (Or.inr (Or.inl z))))))) S hC (N.go (fun k i z => f k i (Or.inr (Or.inr (Or.inr (Or.inr (Or.inr z)))))))
/-- a call that leaves all that is looked at -/
theorem lx_P.qu {t : Int} {a c : dc_M} (P : lx_P t a) (f : lg_e lg_all a c) : lx_P (t + 1) c := P.q2 (fun k i z => f k i (Or.inl z)) (lg_e.s P.2.2.2.2.2.1 (Int.le_refl _) (fun k i z => f k i (Or.inr z))) (by omega)
theorem lg_al2.el {k : Nat} {i : Int} {Q : Prop} (z : lg_al2 k i) (h1 : lg_tc k i → Q) (h2 : lg_j k i → Q) (h3 : lg_bc k i → Q) (h4 : lg_xc k i → Q) (h5 : lg_uc k i → Q) (h7 : lg_nc k i → Q) : Q := by
  rcases z with z | z | z | z | z | z
  · exact h1 z
  · exact h2 z
  · exact h3 z
  · exact h4 z
  · exact h5 z
  · exact h7 z
