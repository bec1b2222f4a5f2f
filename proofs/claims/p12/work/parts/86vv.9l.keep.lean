/-! BOARDS kept and used: the class -/
def lx_twoB (m : dc_M) : Prop := ((m 0 8).toNat = 90 ∧ (m 0 9).toNat = 93) ∨ ((m 0 8).toNat = 93 ∧ (m 0 9).toNat = 90)
theorem c1_copy {k0 k1 : Nat} (hne : k0 + 2 < k1 ∨ k1 + 2 < k0) {m : dc_M} {v : Int} {m' : dc_M} (h : D_1 k0 k1 m v m') : m' k0 2 = m k1 2 ∧ (∀ W, cz_W m k1 W → cz_W m' k0 W) ∧ (∀ (k : Nat) (i : Int), k ≠ k0 → k ≠ k0 + 1 → k ≠ k0 + 2 → m' k i = m k i) ∧ ∀ i : Int, i ≠ 2 → m' k0 i = m k0 i := by
  obtain ⟨m1, e1, g1, m2, e2, g2, m3, e3, -, em⟩ := h
  have c1 : m1 k0 2 = m k1 2 := by rw [e1, dc_up_s]
  rw [c1] at e2 g1
  have c2 : m2 k0 2 = m k1 2 := by rw [e2, dc_cpy_k (by omega), c1]
  rw [c2] at e3 g2
  have c3 : m3 k0 2 = m k1 2 := by rw [e3, dc_cpy_k (by omega), c2]
  rw [em]
  refine ⟨c3, fun W hW => ⟨c3.trans hW.1, hW.2.1, fun i hi => ?_⟩, fun k i h0 h1 h2 => by rw [e3, dc_cpy_k h2, e2, dc_cpy_k h1, e1, dc_up_k h0], fun i hi => by rw [e3, dc_cpy_k (by omega), e2, dc_cpy_k (by omega), e1, dc_up_i hi]⟩
  have l := hW.1
  obtain ⟨y1, y2⟩ := hW.2.2 i hi
  constructor
  · rw [e3, dc_cpy_k (by omega), e2, dc_cpy_i (by omega) (by omega), e1, dc_up_k (by omega), show (0 : Int) + ((i : Int) - 0) = (i : Int) by omega]
    exact y1
  · rw [e3, dc_cpy_i (by omega) (by omega), e2, dc_cpy_k (by omega), e1, dc_up_k (by omega), show (0 : Int) + ((i : Int) - 0) = (i : Int) by omega]
    exact y2
theorem cz_W.gg {m m' : dc_M} {k : Nat} {W : List (Int × Int)} (h : cz_W m k W) (f : ∀ (j : Nat) (i : Int), k ≤ j → j ≤ k + 2 → m' j i = m j i) : cz_W m' k W := ⟨(f k 2 (Nat.le_refl _) (by omega)).trans h.1, h.2.1, fun i hi => ⟨(f (k + 1) i (by omega) (by omega)).trans (h.2.2 i hi).1, (f (k + 2) i (by omega) (Nat.le_refl _)).trans (h.2.2 i hi).2⟩⟩
theorem c102 {x : Int} {m : dc_M} {v : Int} {m' : dc_M} (h : D_102 x m v m') : m' = m ∧ ((v = 1 ∧ 0 ≤ x ∧ x < 8) ∨ (v = 0 ∧ ¬ (0 ≤ x ∧ x < 8))) := by
  rcases h with ⟨c, ev, em⟩ | ⟨c, h⟩
  · exact ⟨em, Or.inr ⟨ev, by omega⟩⟩
  · rcases h with ⟨c2, ev, em⟩ | ⟨c2, ev, em⟩
    · exact ⟨em, Or.inr ⟨ev, by omega⟩⟩
    · exact ⟨em, Or.inl ⟨ev, by omega, by omega⟩⟩
/-! places kept, as bits -/
def lb_b (s k : Nat) : Nat := s / 2 ^ k % 2
theorem lb_get : ∀ s : Nat, s < 256 → ∀ x : Nat, x < 8 → sv_g (sv_u (sv_g (ae_shr (sv_u (s : Nat)) (sv_u (x : Nat)))) &&& sv_u 1) = ((lb_b s x : Nat) : Int) := by decide +kernel
theorem lb_put : ∀ s : Nat, s < 256 → ∀ x : Nat, x < 8 → sv_g (sv_u (s : Nat) ||| sv_u (sv_g (ae_shl (sv_u 1) (sv_u (x : Nat))))) = ((s ||| 2 ^ x : Nat) : Int) ∧ (s ||| 2 ^ x) < 256 ∧ ∀ k : Nat, k < 8 → lb_b (s ||| 2 ^ x) k = if k = x then 1 else lb_b s k := by decide +kernel
theorem c103 {x : Int} {m : dc_M} {v : Int} {m' : dc_M} (h : D_103 x m v m') {s : Nat} (hs : s < 256) (e : m 56 1 = (s : Nat)) : m' = m ∧ ((v = 1 ∧ (0 ≤ x ∧ x < 8) ∧ lb_b s x.toNat ≠ 0) ∨ (v = 0 ∧ ¬ ((0 ≤ x ∧ x < 8) ∧ lb_b s x.toNat ≠ 0))) := by
  obtain ⟨v1, m1, h1, h⟩ := h
  obtain ⟨e1, q⟩ := c102 h1
  clear h1
  subst e1
  rcases h with ⟨c, ev, em⟩ | ⟨c, h⟩
  · rcases q with ⟨q, -⟩ | ⟨-, q⟩
    · exfalso; omega
    · exact ⟨em, Or.inr ⟨ev, fun z => q z.1⟩⟩
  · rcases q with ⟨-, q⟩ | ⟨q, -⟩
    · have b := lb_get s hs x.toNat (by omega)
      rw [show ((x.toNat : Nat) : Int) = x by omega] at b
      rw [e, b] at h
      rcases h with ⟨c2, ev, em⟩ | ⟨c2, ev, em⟩
      · exact ⟨em, Or.inr ⟨ev, fun z => z.2 (by omega)⟩⟩
      · exact ⟨em, Or.inl ⟨ev, q, fun z => c2 (by rw [z]; rfl)⟩⟩
    · exact absurd q c
/-- keep(x) -/
theorem ck_keep {x : Int} {m : dc_M} {v : Int} {m' : dc_M} (h : D_176 x m v m') (two : lx_twoB m) {s : Nat} (hs : s < 256) (e : m 56 1 = (s : Nat)) : (v = 1 ∧ (0 ≤ x ∧ x < 8) ∧ m' (64 + 3 * x.toNat) 2 = m (m 0 8).toNat 2 ∧ (∀ W, cz_W m (m 0 8).toNat W → cz_W m' (64 + 3 * x.toNat) W) ∧ m' 56 1 = ((s ||| 2 ^ x.toNat : Nat) : Int) ∧ ∀ (k : Nat) (i : Int), ¬ (64 + 3 * x.toNat ≤ k ∧ k ≤ 64 + 3 * x.toNat + 2) → ¬ (k = 56 ∧ i = 1) → m' k i = m k i) ∨ (v = 0 ∧ ¬ (0 ≤ x ∧ x < 8) ∧ m' = m) := by
  obtain ⟨v1, m1, h1, h⟩ := h
  obtain ⟨e1, q⟩ := c102 h1
  clear h1
  subst e1
  rcases h with ⟨c, v2, m2, ⟨hx, v3, m3, h3, m4, e4, -, em2⟩, ev, em⟩ | ⟨c, ev, em⟩
  · refine Or.inl ⟨ev, hx, ?_⟩
    obtain ⟨y1, y2, y3, -⟩ := c1_copy (by clear h3; rcases two with ⟨t, -⟩ | ⟨t, -⟩ <;> omega) h3
    clear h3
    have g : m3 56 1 = (s : Nat) := (y3 56 1 (by omega) (by omega) (by omega)).trans e
    have p := (lb_put s hs x.toNat (by omega)).1
    rw [show ((x.toNat : Nat) : Int) = x by omega] at p
    rw [g, p] at e4
    rw [em, em2]
    refine ⟨by rw [e4, dc_up_k (by omega)]; exact y1, fun W hW => ?_, by rw [e4, dc_up_s], fun k i z1 z2 => ?_⟩
    · obtain ⟨w1, w2, w3⟩ := y2 W hW
      exact ⟨by rw [e4, dc_up_k (by omega)]; exact w1, w2, fun i hi => by rw [e4, dc_up_k (by omega), dc_up_k (by omega)]; exact w3 i hi⟩
    · rw [e4]
      exact (if_neg z2).trans (y3 k i (by omega) (by omega) (by omega))
  · refine Or.inr ⟨ev, ?_, em⟩
    rcases q with ⟨q, -⟩ | ⟨-, q⟩
    · exfalso; omega
    · exact q
/-- use(x) -/
theorem ck_use {x : Int} {m : dc_M} {v : Int} {m' : dc_M} (h : D_177 x m v m') (two : lx_twoB m) {s : Nat} (hs : s < 256) (e : m 56 1 = (s : Nat)) : (((0 ≤ x ∧ x < 8) ∧ lb_b s x.toNat ≠ 0) ∧ v = m (64 + 3 * x.toNat) 2 ∧ m' (m 0 8).toNat 2 = m (64 + 3 * x.toNat) 2 ∧ (∀ W, cz_W m (64 + 3 * x.toNat) W → cz_W m' (m 0 8).toNat W) ∧ ∀ (k : Nat) (i : Int), ¬ ((m 0 8).toNat ≤ k ∧ k ≤ (m 0 8).toNat + 2) → m' k i = m k i) ∨ (¬ ((0 ≤ x ∧ x < 8) ∧ lb_b s x.toNat ≠ 0) ∧ v = -1 ∧ m' = m) := by
  obtain ⟨v1, m1, h1, h⟩ := h
  obtain ⟨e1, q⟩ := c103 h1 hs e
  clear h1
  subst e1
  rcases h with ⟨c, hx, v3, m3, h3, ev, em⟩ | ⟨c, ev, em⟩
  · refine Or.inl ⟨?_, ?_⟩
    · rcases q with ⟨-, q⟩ | ⟨q, -⟩
      · exact q
      · exact absurd q c
    · obtain ⟨y1, y2, y3, -⟩ := c1_copy (by clear h3; rcases two with ⟨t, -⟩ | ⟨t, -⟩ <;> omega) h3
      clear h3
      have g : m3 0 8 = m1 0 8 := y3 0 8 (by rcases two with ⟨t, -⟩ | ⟨t, -⟩ <;> omega) (by omega) (by omega)
      rw [em]
      exact ⟨by rw [ev, g]; exact y1, y1, y2, fun k i z => y3 k i (by omega) (by omega) (by omega)⟩
  · refine Or.inr ⟨?_, ev, em⟩
    rcases q with ⟨q, -⟩ | ⟨-, q⟩
    · exfalso; omega
    · exact q
/-- board(): what it leaves -/
theorem cz_boardW {m : dc_M} {v : Int} {m' : dc_M} (h : D_150 m v m') (two : lx_twoB m) (hn : 0 ≤ m 1 1 ∧ m 1 1 ≤ 740) : (∀ (k : Nat) (i : Int), k ≠ 1 → ¬ (k = 0 ∧ (i = 8 ∨ i = 9)) → ¬ (90 ≤ k ∧ k ≤ 95) → m' k i = m k i) ∧ match pz_all (m 2) (m 1 1) with
    | .inl _ => m' 0 8 = m 0 8 ∧ m' 0 9 = m 0 9 ∧ ∀ (k : Nat) (i : Int), (m 0 8).toNat ≤ k → k ≤ (m 0 8).toNat + 2 → m' k i = m k i
    | .inr W => m' 0 8 = (((m 0 9).toNat : Nat) : Int) ∧ m' 0 9 = (((m 0 8).toNat : Nat) : Int) ∧ cz_W m' (m 0 9).toNat W := by
  obtain ⟨v1, m1, hd, m2, e2, h⟩ := h
  have q := cz_text (by clear h hd; rcases two with ⟨-, t⟩ | ⟨-, t⟩ <;> omega) hd hn
  have fr : cz_G (m 0 9).toNat m m1 := by
    cases e : pz_all (m 2) (m 1 1) with
    | inl f => exact (pz_on_l q e).2.1
    | inr W => exact (pz_on_r q e).2.1
  clear hd
  have f2 : ∀ (k : Nat) (i : Int), k ≠ 1 → ¬ ((m 0 9).toNat ≤ k ∧ k ≤ (m 0 9).toNat + 2) → m2 k i = m k i := fun k i h1 h2 => by rw [e2, dc_up_k h1]; exact fr.1 k i h1 (by omega) (by omega) (by omega)
  have g8 : m2 0 8 = m 0 8 := f2 0 8 (by decide) (by clear h; rcases two with ⟨-, t⟩ | ⟨-, t⟩ <;> omega)
  have g9 : m2 0 9 = m 0 9 := f2 0 9 (by decide) (by clear h; rcases two with ⟨-, t⟩ | ⟨-, t⟩ <;> omega)
  cases e : pz_all (m 2) (m 1 1) with
  | inl f =>
    obtain ⟨y1, -⟩ := pz_on_l q e
    rcases h with ⟨d1, -⟩ | ⟨d1, -, em⟩
    · exact absurd y1 d1
    · rw [em]
      exact ⟨fun k i h1 _ h3 => f2 k i h1 (by rcases two with ⟨-, t⟩ | ⟨-, t⟩ <;> omega), g8, g9, fun k i h1 h2 => f2 k i (by rcases two with ⟨t, -⟩ | ⟨t, -⟩ <;> omega) (by rcases two with ⟨t1, t⟩ | ⟨t1, t⟩ <;> omega)⟩
  | inr W =>
    obtain ⟨y1, -, -, -, y5⟩ := pz_on_r q e
    rcases h with ⟨d1, m3, e3, m4, e4, -, em⟩ | ⟨d1, -⟩
    · rw [em]
      have f4 : ∀ (k : Nat) (i : Int), ¬ (k = 0 ∧ (i = 8 ∨ i = 9)) → m4 k i = m2 k i := fun k i z => by
        rw [e4]
        refine (if_neg (fun y => z ⟨y.1, Or.inl y.2⟩)).trans ?_
        rw [e3]
        exact if_neg (fun y => z ⟨y.1, Or.inr y.2⟩)
      refine ⟨fun k i h1 h2 h3 => (f4 k i h2).trans (f2 k i h1 (by rcases two with ⟨-, t⟩ | ⟨-, t⟩ <;> omega)), by rw [e4, dc_up_s, g9], by rw [e4, dc_up_i (by decide), e3, dc_up_s, g8], ?_⟩
      have k3 : 3 ≤ (m 0 9).toNat := by rcases two with ⟨-, t⟩ | ⟨-, t⟩ <;> omega
      exact y5.gg (fun j i h1 h2 => by rw [f4 j i (by omega), e2, dc_up_k (by omega)])
    · exfalso; omega
/-! the reference -/
theorem rk_keep {x : Int} {m : dc_M} {v : Int} {m' : dc_M} (h : D_272 x m v m') : (v = 1 ∧ (0 ≤ x ∧ x < 8) ∧ m' 120 (2 + x) = m 120 0 ∧ (∀ W, rz_V m 0 W → rz_V m' (2 + x) W) ∧ m' 122 x ≠ 0 ∧ ∀ (k : Nat) (i : Int), ¬ (k = 114 ∧ i = 0) → ¬ ((k = 118 ∨ k = 119) ∧ 60 * (2 + x) ≤ i ∧ i < 60 * (2 + x) + 60) → ¬ (k = 120 ∧ i = 2 + x) → ¬ (k = 122 ∧ i = x) → m' k i = m k i) ∨ (v = 0 ∧ ¬ (0 ≤ x ∧ x < 8) ∧ ∀ (k : Nat) (i : Int), ¬ (k = 114 ∧ i = 0) → m' k i = m k i) := by
  obtain ⟨m1, e1, v2, m2, h2, h⟩ := h
  obtain ⟨x2, y2⟩ := rz_in h2
  clear h2
  subst x2
  have f1 : ∀ (k : Nat) (i : Int), ¬ (k = 114 ∧ i = 0) → m2 k i = m k i := fun k i z => by rw [e1]; exact if_neg z
  rcases h with ⟨c, v3, m3, h3, hx, m4, e4, ev, em⟩ | ⟨c, ev, em⟩
  · have w : dc_w (2 + x) = 2 + x := dc_w_eq (by unfold sv_I; clear h3; omega)
    rw [w] at h3
    obtain ⟨q1, q2, q3⟩ := rz_copyV (by clear h3; omega) h3
    clear h3
    have z1 : dc_z 1 ≠ 0 := by decide
    rw [em]
    refine Or.inl ⟨ev, hx, ?_, fun W hW => ?_, by rw [e4, dc_up_s]; exact z1, fun k i a b c d => ?_⟩
    · rw [e4, dc_up_k (by decide), q2, f1 120 0 (by decide)]
    · obtain ⟨w1, w2, w3⟩ := q1 W ⟨(f1 120 0 (by decide)).trans hW.1, hW.2.1, fun i hi => by rw [f1 118 _ (by simp), f1 119 _ (by simp)]; exact hW.2.2 i hi⟩
      exact ⟨by rw [e4, dc_up_k (by decide)]; exact w1, w2, fun i hi => by rw [e4, dc_up_k (by decide), dc_up_k (by decide)]; exact w3 i hi⟩
    · rw [e4]
      exact (if_neg d).trans ((q3 k i b c).trans (f1 k i a))
  · rw [em]
    refine Or.inr ⟨ev, ?_, f1⟩
    rcases y2 with ⟨-, z⟩ | ⟨z, -⟩
    · intro y; exact z ⟨y.1, by omega⟩
    · exfalso; omega
theorem rk_use {x : Int} {m : dc_M} {v : Int} {m' : dc_M} (h : D_274 x m v m') : (((0 ≤ x ∧ x < 8) ∧ m 122 x ≠ 0) ∧ v = m 120 (2 + x) ∧ m' 120 0 = m 120 (2 + x) ∧ (∀ W, rz_V m (2 + x) W → rz_V m' 0 W) ∧ ∀ (k : Nat) (i : Int), ¬ (k = 114 ∧ i = 0) → ¬ ((k = 118 ∨ k = 119) ∧ 0 ≤ i ∧ i < 60) → ¬ (k = 120 ∧ i = 0) → m' k i = m k i) ∨ (¬ ((0 ≤ x ∧ x < 8) ∧ m 122 x ≠ 0) ∧ v = -1 ∧ ∀ (k : Nat) (i : Int), ¬ (k = 114 ∧ i = 0) → m' k i = m k i) := by
  obtain ⟨m1, e1, v2, m2, h2, h⟩ := h
  have f1 : ∀ (k : Nat) (i : Int), ¬ (k = 114 ∧ i = 0) → m1 k i = m k i := fun k i z => by rw [e1]; exact if_neg z
  have t : m2 = m1 ∧ ((v2 = 1 ∧ (0 ≤ x ∧ x < 8) ∧ m 122 x ≠ 0) ∨ (v2 = 0 ∧ ¬ ((0 ≤ x ∧ x < 8) ∧ m 122 x ≠ 0))) := by
    obtain ⟨v3, m3, h3, h2⟩ := h2
    obtain ⟨x3, y3⟩ := rz_in h3
    clear h3 h
    subst x3
    rcases h2 with ⟨c, ev, em⟩ | ⟨c, hx, h2⟩
    · refine ⟨em, Or.inr ⟨ev, fun z => ?_⟩⟩
      rcases y3 with ⟨-, y⟩ | ⟨y, -⟩
      · exact y ⟨z.1.1, by omega⟩
      · omega
    · rw [f1 122 x (by simp)] at h2
      rcases h2 with ⟨d, ev, em⟩ | ⟨d, ev, em⟩
      · exact ⟨em, Or.inr ⟨ev, fun z => z.2 d⟩⟩
      · exact ⟨em, Or.inl ⟨ev, hx, d⟩⟩
  obtain ⟨e2, t⟩ := t
  clear h2
  subst e2
  rcases h with ⟨c, v3, m3, h3, -, ev, em⟩ | ⟨c, ev, em⟩
  · rcases t with ⟨-, hx, hb⟩ | ⟨t, -⟩
    · have w : dc_w (2 + x) = 2 + x := dc_w_eq (by unfold sv_I; clear h3; omega)
      rw [w] at h3
      obtain ⟨q1, q2, q3⟩ := rz_copyV (by clear h3; omega) h3
      clear h3
      rw [f1 120 _ (by simp)] at q2
      rw [em]
      refine Or.inl ⟨⟨hx, hb⟩, ev.trans q2, q2, fun W hW => q1 W ⟨(f1 120 _ (by simp)).trans hW.1, hW.2.1, fun i hi => by rw [f1 118 _ (by simp), f1 119 _ (by simp)]; exact hW.2.2 i hi⟩, fun k i a b c => ?_⟩
      exact (q3 k i (by omega) c).trans (f1 k i a)
    · exact absurd t c
  · rw [em]
    refine Or.inr ⟨?_, ev, f1⟩
    rcases t with ⟨t, -⟩ | ⟨-, t⟩
    · exfalso; omega
    · exact t
