/-! WHICH FACTS FOLLOW -/
noncomputable def sx_an {α : Type} (p : α → Bool) (l : List α) : Bool := List.rec (motive := fun _ => Bool) false (fun q _ ih => or (p q) ih) l
theorem sx_an_ok {α : Type} {p : α → Bool} : ∀ {l : List α}, sx_an p l = true → ∃ q ∈ l, p q = true
  | [], h => by cases h
  | x :: l, h => by
    have h : or (p x) (sx_an p l) = true := h
    rw [Bool.or_eq_true] at h
    rcases h with h | h
    · exact ⟨x, List.mem_cons_self .., h⟩
    · obtain ⟨q, h1, h2⟩ := sx_an_ok h
      exact ⟨q, List.mem_cons_of_mem _ h1, h2⟩
/-- a symbol is known to be a thing of a type: as a field's value -/
noncomputable def sx_ev (r t : Nat) (F : List sv_F) : Bool := sx_an (fun q => and (Nat.beq q.2.1 1) (and (Nat.beq q.2.2.1 t) (sv_same q.2.2.2 (0, [(r, 1)])))) F
/-- a place of a row lies between two forms -/
noncomputable def sx_pm (a : sv_A) (r t : Nat) (i lo hi : sv_L) (M : List sv_M) : Bool := sx_an (fun m => and (Nat.beq m.1 r) (and (Nat.beq m.2.1 t) (and (sv_same m.2.2.1 i) (and (sx_ge a m.2.2.2 lo) (sx_ge a hi m.2.2.2))))) M
/-- by a fact with bound e2 -/
noncomputable def sx_x0 (S : sv_S) (q : sv_Q) (e2 : sv_L) : Bool := or (sx_ge S.1 e2 q.2.2.2.2.2.1) (and (sv_ac 1 e2 fun e => sx_ge S.1 e q.2.2.2.2.2.1) (sv_ma (Int.ofNat q.2.2.2.1) e2 q.2.2.2.2.1 fun i => sx_pm S.1 q.2.1.1 q.2.1.2 i q.2.2.2.2.2.2.1 q.2.2.2.2.2.2.2 S.2.2.2.2.1))
noncomputable def sx_x1 (S : sv_S) (q : sv_Q) (e2 : sv_L) : Bool := or (sx_ge S.1 e2 q.2.2.2.2.2.1) (and (sv_ac 1 e2 fun e => sx_ge S.1 e q.2.2.2.2.2.1) (sx_an (fun m => and (Nat.beq m.1 q.2.1.1) (and (Nat.beq m.2.1 q.2.1.2) (and (sv_same m.2.2.1 e2) (sv_ma 1 m.2.2.2 q.2.2.2.2.1 fun i => sx_pm S.1 q.2.2.1.1 q.2.2.1.2 i q.2.2.2.2.2.2.1 q.2.2.2.2.2.2.2 S.2.2.2.2.1)))) S.2.2.2.2.1))
noncomputable def sx_hd (p q : sv_Q) : Bool := and (Nat.beq p.1 q.1) (and (Nat.beq p.2.1.1 q.2.1.1) (and (Nat.beq p.2.1.2 q.2.1.2) (and (Nat.beq p.2.2.1.1 q.2.2.1.1) (and (Nat.beq p.2.2.1.2 q.2.2.1.2) (and (Nat.beq p.2.2.2.1 q.2.2.2.1) (sv_same p.2.2.2.2.1 q.2.2.2.2.1))))))
noncomputable def sx_en (tt : List sv_T) (S : sv_S) (q : sv_Q) : Bool := match q.1 with
  | 0 => or (sx_an (fun p => and (sx_hd p q) (and (sx_ge S.1 p.2.2.2.2.2.2.1 q.2.2.2.2.2.2.1) (and (sx_ge S.1 q.2.2.2.2.2.2.2 p.2.2.2.2.2.2.2) (sx_x0 S q p.2.2.2.2.2.1)))) S.2.2.2.2.2) (and (sx_ev q.2.1.1 q.2.1.2 S.2.2.2.1) (and (sx_ev q.2.2.1.1 q.2.2.1.2 S.2.2.2.1) (or (sx_x0 S q (0, [])) (match ae_nth tt q.2.1.2 with
    | some T => and (Nat.beq T.1 1) (and (sx_ge S.1 (T.2.2.2.1, []) q.2.2.2.2.2.2.1) (sx_ge S.1 q.2.2.2.2.2.2.2 (T.2.2.2.2.1, [])))
    | none => false))))
  | 1 => or (sx_an (fun p => and (sx_hd p q) (and (sx_ge S.1 p.2.2.2.2.2.2.1 q.2.2.2.2.2.2.1) (and (sx_ge S.1 q.2.2.2.2.2.2.2 p.2.2.2.2.2.2.2) (sx_x1 S q p.2.2.2.2.2.1)))) S.2.2.2.2.2) (and (sx_ev q.2.1.1 q.2.1.2 S.2.2.2.1) (and (sx_ev q.2.2.1.1 q.2.2.1.2 S.2.2.2.1) (sx_ge S.1 (0, []) q.2.2.2.2.2.1)))
  | _ => sx_an (fun p => and (sx_hd p q) (and (sv_same p.2.2.2.2.2.1 q.2.2.2.2.2.1) (and (sv_same p.2.2.2.2.2.2.1 q.2.2.2.2.2.2.1) (sv_same p.2.2.2.2.2.2.2 q.2.2.2.2.2.2.2)))) S.2.2.2.2.2
section
variable {ty : Nat → Option Nat} {tt : List sv_T} {op : Nat → ae_H → Nat → Nat → Int → Int → Int → Int → Prop} {ρ : Nat → Int} {h : ae_H} {S : sv_S}
theorem sx_ev_ok {r t n : Nat} {F : List sv_F} (hF : ∀ q ∈ F, sv_Fk ty ρ n h q) (hs : sx_ev r t F = true) : r < n ∧ ∃ k : Nat, ρ r = k ∧ ty k = some t := by
  obtain ⟨q, hq, hc⟩ := sx_an_ok hs
  rw [Bool.and_eq_true, Bool.and_eq_true] at hc
  obtain ⟨key, kd, t', e⟩ := q
  have e1 : kd = 1 := Nat.eq_of_beq_eq_true hc.1
  have e2 : t' = t := Nat.eq_of_beq_eq_true hc.2.1
  have e3 : e = (0, [(r, 1)]) := sv_same_ok hc.2.2
  subst e1 e2 e3
  obtain ⟨-, k, ci, fs, c, -, -, -, -, hw, k2, g1, -, g3⟩ := hF _ hq
  refine ⟨hw (r, 1) (List.mem_singleton.mpr rfl), k2, ?_, g3⟩
  have : sv_ev ρ ((0, [(r, 1)]) : sv_L) = ρ r := by show (0 : Int) + (1 * ρ r + 0) = ρ r; omega
  rw [← this]; exact g1
theorem sx_pm_ok {r t n k : Nat} {i lo hi : sv_L} {M : List sv_M} {a : sv_A} (ha : sv_ak ρ a) (hM : ∀ q ∈ M, sv_Mk ty ρ n h q) (hr : ρ r = k) (hs : sx_pm a r t i lo hi M = true) : ∃ (tag len A I : Nat), ae_hg h k = some (.inl (tag, len, .inl A)) ∧ sv_ev ρ i = I ∧ I < len ∧ sv_ev ρ lo ≤ sv_g (ae_rd 32 A I) ∧ sv_g (ae_rd 32 A I) ≤ sv_ev ρ hi := by
  obtain ⟨m, hm, hc⟩ := sx_an_ok hs
  rw [Bool.and_eq_true, Bool.and_eq_true, Bool.and_eq_true, Bool.and_eq_true] at hc
  obtain ⟨c1, c2, c3, c4, c5⟩ := hc
  have c1 := Nat.eq_of_beq_eq_true c1
  have c3 := sv_same_ok c3
  obtain ⟨-, -, -, km, tag, len, A, I, m1, m2, m3, m4, m5, m6⟩ := hM m hm
  rw [c1] at m1
  have ek : km = k := by omega
  subst ek
  rw [c3] at m4
  exact ⟨tag, len, A, I, m3, m4, m5, by rw [← m6]; exact sx_ge_ok ha c4, by rw [← m6]; exact sx_ge_ok ha c5⟩
/-- kind 0: what holds below e2 holds below the bound of q -/
theorem sx_x0_ok {q : sv_Q} {e2 : sv_L} {n k : Nat} (ha : sv_ak ρ S.1) (hM : ∀ m ∈ S.2.2.2.2.1, sv_Mk ty ρ n h m) (hr : ρ q.2.1.1 = k) (hs : sx_x0 S q e2 = true)
    (h2 : ∀ (tag len A : Nat), ae_hg h k = some (.inl (tag, len, .inl A)) → ∀ j i : Nat, (j : Int) < sv_ev ρ e2 → (i : Int) = q.2.2.2.1 * j + sv_ev ρ q.2.2.2.2.1 → i < len → sv_ev ρ q.2.2.2.2.2.2.1 ≤ sv_g (ae_rd 32 A i) ∧ sv_g (ae_rd 32 A i) ≤ sv_ev ρ q.2.2.2.2.2.2.2) :
    ∀ (tag len A : Nat), ae_hg h k = some (.inl (tag, len, .inl A)) → ∀ j i : Nat, (j : Int) < sv_ev ρ q.2.2.2.2.2.1 → (i : Int) = q.2.2.2.1 * j + sv_ev ρ q.2.2.2.2.1 → i < len → sv_ev ρ q.2.2.2.2.2.2.1 ≤ sv_g (ae_rd 32 A i) ∧ sv_g (ae_rd 32 A i) ≤ sv_ev ρ q.2.2.2.2.2.2.2 := by
  intro tag len A hg j i hj hi hil
  unfold sx_x0 at hs
  rw [Bool.or_eq_true, Bool.and_eq_true] at hs
  rcases hs with hs | ⟨h3, h4⟩
  · have := sx_ge_ok ha hs
    exact h2 tag len A hg j i (by omega) hi hil
  · obtain ⟨e1, p1, -, p3⟩ := sv_ac_ok 1 e2
    rw [p3] at h3
    have h3 := sx_ge_ok ha h3
    rw [p1] at h3
    rw [sv_ma_f] at h4
    by_cases hlt : (j : Int) < sv_ev ρ e2
    · exact h2 tag len A hg j i hlt hi hil
    · obtain ⟨tag2, len2, A2, I, g1, g2, g3, g4, g5⟩ := sx_pm_ok ha hM hr h4
      rw [hg] at g1
      cases g1
      rw [sv_mf_ev] at g2
      have ej : sv_ev ρ e2 = (j : Int) := by omega
      rw [ej] at g2
      have g2 : (q.2.2.2.1 : Int) * (j : Int) + sv_ev ρ q.2.2.2.2.1 = I := g2
      have eI : I = i := by omega
      subst eI
      exact ⟨g4, g5⟩
theorem sx_x1_ok {q : sv_Q} {e2 : sv_L} {n k k2 : Nat} (ha : sv_ak ρ S.1) (hM : ∀ m ∈ S.2.2.2.2.1, sv_Mk ty ρ n h m) (hr : ρ q.2.1.1 = k) (hr2 : ρ q.2.2.1.1 = k2) (hs : sx_x1 S q e2 = true)
    (h2 : ∀ (tag len A tag2 len2 A2 : Nat), ae_hg h k = some (.inl (tag, len, .inl A)) → ae_hg h k2 = some (.inl (tag2, len2, .inl A2)) → ∀ j i : Nat, (j : Int) < sv_ev ρ e2 → j < len → (i : Int) = sv_g (ae_rd 32 A j) + sv_ev ρ q.2.2.2.2.1 → i < len2 → sv_ev ρ q.2.2.2.2.2.2.1 ≤ sv_g (ae_rd 32 A2 i) ∧ sv_g (ae_rd 32 A2 i) ≤ sv_ev ρ q.2.2.2.2.2.2.2) :
    ∀ (tag len A tag2 len2 A2 : Nat), ae_hg h k = some (.inl (tag, len, .inl A)) → ae_hg h k2 = some (.inl (tag2, len2, .inl A2)) → ∀ j i : Nat, (j : Int) < sv_ev ρ q.2.2.2.2.2.1 → j < len → (i : Int) = sv_g (ae_rd 32 A j) + sv_ev ρ q.2.2.2.2.1 → i < len2 → sv_ev ρ q.2.2.2.2.2.2.1 ≤ sv_g (ae_rd 32 A2 i) ∧ sv_g (ae_rd 32 A2 i) ≤ sv_ev ρ q.2.2.2.2.2.2.2 := by
  intro tag len A tag2 len2 A2 hg hg2 j i hj hjl hi hil
  unfold sx_x1 at hs
  rw [Bool.or_eq_true, Bool.and_eq_true] at hs
  rcases hs with hs | ⟨h3, h4⟩
  · have := sx_ge_ok ha hs
    exact h2 tag len A tag2 len2 A2 hg hg2 j i (by omega) hjl hi hil
  · obtain ⟨e1, p1, -, p3⟩ := sv_ac_ok 1 e2
    rw [p3] at h3
    have h3 := sx_ge_ok ha h3
    rw [p1] at h3
    by_cases hlt : (j : Int) < sv_ev ρ e2
    · exact h2 tag len A tag2 len2 A2 hg hg2 j i hlt hjl hi hil
    · obtain ⟨m, hm, hc⟩ := sx_an_ok h4
      rw [Bool.and_eq_true, Bool.and_eq_true, Bool.and_eq_true, sv_ma_f] at hc
      obtain ⟨c1, c2, c3, c4⟩ := hc
      have c1 := Nat.eq_of_beq_eq_true c1
      have c3 := sv_same_ok c3
      obtain ⟨-, -, -, km, tg, ln, Am, I, m1, m2, m3, m4, m5, m6⟩ := hM m hm
      rw [c1] at m1
      have ek : km = k := by omega
      subst ek
      rw [hg] at m3
      cases m3
      rw [c3] at m4
      have eI : I = j := by omega
      subst eI
      obtain ⟨tag3, len3, A3, I3, g1, g2, g3, g4, g5⟩ := sx_pm_ok ha hM hr2 c4
      rw [hg2] at g1
      cases g1
      rw [sv_mf_ev, m6] at g2
      have eI : I3 = i := by omega
      subst eI
      exact ⟨g4, g5⟩
theorem sx_hd_ok {p q : sv_Q} (hs : sx_hd p q = true) : p.1 = q.1 ∧ p.2.1 = q.2.1 ∧ p.2.2.1 = q.2.2.1 ∧ p.2.2.2.1 = q.2.2.2.1 ∧ p.2.2.2.2.1 = q.2.2.2.2.1 := by
  unfold sx_hd at hs
  simp only [Bool.and_eq_true] at hs
  obtain ⟨h1, h2, h3, h4, h5, h6, h7⟩ := hs
  exact ⟨Nat.eq_of_beq_eq_true h1, Prod.ext (Nat.eq_of_beq_eq_true h2) (Nat.eq_of_beq_eq_true h3), Prod.ext (Nat.eq_of_beq_eq_true h4) (Nat.eq_of_beq_eq_true h5), Nat.eq_of_beq_eq_true h6, sv_same_ok h7⟩
theorem sx_en_ok {q : sv_Q} (ha : sv_ak ρ S.1) (hty : sv_hk ty tt h) (hH : sv_Hk ty op ρ S.1.1 h S.2.2.2.1 S.2.2.2.2.1 S.2.2.2.2.2) (hw : sv_wf S.1.1 q.2.2.2.2.1 ∧ sv_wf S.1.1 q.2.2.2.2.2.1 ∧ sv_wf S.1.1 q.2.2.2.2.2.2.1 ∧ sv_wf S.1.1 q.2.2.2.2.2.2.2) (hs : sx_en tt S q = true) : sv_Qk ty op ρ S.1.1 h q := by
  obtain ⟨kd, r1, r2, sd, f1, f2, f3, f4⟩ := q
  obtain ⟨w1, w2, w3, w4⟩ := hw
  match kd, hs with
  | 0, hs =>
    have hs : or (sx_an (fun p => and (sx_hd p (0, r1, r2, sd, f1, f2, f3, f4)) (and (sx_ge S.1 p.2.2.2.2.2.2.1 f3) (and (sx_ge S.1 f4 p.2.2.2.2.2.2.2) (sx_x0 S (0, r1, r2, sd, f1, f2, f3, f4) p.2.2.2.2.2.1)))) S.2.2.2.2.2) (and (sx_ev r1.1 r1.2 S.2.2.2.1) (and (sx_ev r2.1 r2.2 S.2.2.2.1) (or (sx_x0 S (0, r1, r2, sd, f1, f2, f3, f4) (0, [])) (match ae_nth tt r1.2 with
      | some T => and (Nat.beq T.1 1) (and (sx_ge S.1 (T.2.2.2.1, []) f3) (sx_ge S.1 f4 (T.2.2.2.2.1, [])))
      | none => false)))) = true := hs
    rw [Bool.or_eq_true] at hs
    rcases hs with hs | hs
    · obtain ⟨p, hp, hc⟩ := sx_an_ok hs
      rw [Bool.and_eq_true, Bool.and_eq_true, Bool.and_eq_true] at hc
      obtain ⟨c1, c2, c3, c4⟩ := hc
      obtain ⟨e1, e2, e3, e4, e5⟩ := sx_hd_ok c1
      have c2 := sx_ge_ok ha c2
      have c3 := sx_ge_ok ha c3
      obtain ⟨⟨q1, q2, -⟩, k, k2, z1, z2, z3, z4, z5⟩ := hH.2.2 p hp
      rw [e1] at z5
      rw [e2] at q1 z1 z2
      rw [e3] at q2 z3 z4
      have z5 : ∀ (tag len A : Nat), ae_hg h k = some (.inl (tag, len, .inl A)) → ∀ j i : Nat, (j : Int) < sv_ev ρ p.2.2.2.2.2.1 → (i : Int) = p.2.2.2.1 * j + sv_ev ρ p.2.2.2.2.1 → i < len → sv_ev ρ p.2.2.2.2.2.2.1 ≤ sv_g (ae_rd 32 A i) ∧ sv_g (ae_rd 32 A i) ≤ sv_ev ρ p.2.2.2.2.2.2.2 := z5
      rw [e4, e5] at z5
      refine ⟨⟨q1, q2, w1, w2, w3, w4⟩, k, k2, z1, z2, z3, z4, ?_⟩
      exact sx_x0_ok (q := (0, r1, r2, sd, f1, f2, f3, f4)) ha hH.2.1 z1 c4 (fun tag len A hg j i hj hi hil => by
        obtain ⟨g1, g2⟩ := z5 tag len A hg j i hj hi hil
        exact ⟨Int.le_trans c2 g1, Int.le_trans g2 c3⟩)
    · rw [Bool.and_eq_true, Bool.and_eq_true, Bool.or_eq_true] at hs
      obtain ⟨s1, s2, s3⟩ := hs
      obtain ⟨q1, k, z1, z2⟩ := sx_ev_ok hH.1 s1
      obtain ⟨q2, k2, z3, z4⟩ := sx_ev_ok hH.1 s2
      refine ⟨⟨q1, q2, w1, w2, w3, w4⟩, k, k2, z1, z2, z3, z4, ?_⟩
      rcases s3 with s3 | s3
      · exact sx_x0_ok (q := (0, r1, r2, sd, f1, f2, f3, f4)) ha hH.2.1 z1 s3 (fun tag len A hg j i hj hi hil => by rw [sv_ev0] at hj; omega)
      · split at s3
        · next T eT =>
          rw [ae_nth_eq] at eT
          rw [Bool.and_eq_true, Bool.and_eq_true] at s3
          obtain ⟨A, g1, g2⟩ := sv_hk_a hty z2 eT (Nat.eq_of_beq_eq_true s3.1)
          have c2 := sx_ge_ok ha s3.2.1
          have c3 := sx_ge_ok ha s3.2.2
          rw [sv_ev0] at c2 c3
          intro tag len A2 hg j i hj hi hil
          rw [g1] at hg
          cases hg
          obtain ⟨b1, b2, -⟩ := g2 i hil
          exact ⟨Int.le_trans c2 b1, Int.le_trans b2 c3⟩
        · cases s3
  | 1, hs =>
    have hs : or (sx_an (fun p => and (sx_hd p (1, r1, r2, sd, f1, f2, f3, f4)) (and (sx_ge S.1 p.2.2.2.2.2.2.1 f3) (and (sx_ge S.1 f4 p.2.2.2.2.2.2.2) (sx_x1 S (1, r1, r2, sd, f1, f2, f3, f4) p.2.2.2.2.2.1)))) S.2.2.2.2.2) (and (sx_ev r1.1 r1.2 S.2.2.2.1) (and (sx_ev r2.1 r2.2 S.2.2.2.1) (sx_ge S.1 (0, []) f2))) = true := hs
    rw [Bool.or_eq_true] at hs
    rcases hs with hs | hs
    · obtain ⟨p, hp, hc⟩ := sx_an_ok hs
      rw [Bool.and_eq_true, Bool.and_eq_true, Bool.and_eq_true] at hc
      obtain ⟨c1, c2, c3, c4⟩ := hc
      obtain ⟨e1, e2, e3, e4, e5⟩ := sx_hd_ok c1
      have c2 := sx_ge_ok ha c2
      have c3 := sx_ge_ok ha c3
      obtain ⟨⟨q1, q2, -⟩, k, k2, z1, z2, z3, z4, z5⟩ := hH.2.2 p hp
      rw [e1] at z5
      rw [e2] at q1 z1 z2
      rw [e3] at q2 z3 z4
      have z5 : ∀ (tag len A tag2 len2 A2 : Nat), ae_hg h k = some (.inl (tag, len, .inl A)) → ae_hg h k2 = some (.inl (tag2, len2, .inl A2)) → ∀ j i : Nat, (j : Int) < sv_ev ρ p.2.2.2.2.2.1 → j < len → (i : Int) = sv_g (ae_rd 32 A j) + sv_ev ρ p.2.2.2.2.1 → i < len2 → sv_ev ρ p.2.2.2.2.2.2.1 ≤ sv_g (ae_rd 32 A2 i) ∧ sv_g (ae_rd 32 A2 i) ≤ sv_ev ρ p.2.2.2.2.2.2.2 := z5
      rw [e5] at z5
      refine ⟨⟨q1, q2, w1, w2, w3, w4⟩, k, k2, z1, z2, z3, z4, ?_⟩
      exact sx_x1_ok (q := (1, r1, r2, sd, f1, f2, f3, f4)) ha hH.2.1 z1 z3 c4 (fun tag len A tag2 len2 A2 hg hg2 j i hj hjl hi hil => by
        obtain ⟨g1, g2⟩ := z5 tag len A tag2 len2 A2 hg hg2 j i hj hjl hi hil
        exact ⟨Int.le_trans c2 g1, Int.le_trans g2 c3⟩)
    · rw [Bool.and_eq_true, Bool.and_eq_true] at hs
      obtain ⟨s1, s2, s3⟩ := hs
      obtain ⟨q1, k, z1, z2⟩ := sx_ev_ok hH.1 s1
      obtain ⟨q2, k2, z3, z4⟩ := sx_ev_ok hH.1 s2
      have c3 := sx_ge_ok ha s3
      rw [sv_ev0] at c3
      refine ⟨⟨q1, q2, w1, w2, w3, w4⟩, k, k2, z1, z2, z3, z4, ?_⟩
      intro tag len A tag2 len2 A2 hg hg2 j i hj
      have hj : (j : Int) < sv_ev ρ f2 := hj
      omega
  | m + 2, hs =>
    have hs : sx_an (fun p => and (sx_hd p (m + 2, r1, r2, sd, f1, f2, f3, f4)) (and (sv_same p.2.2.2.2.2.1 f2) (and (sv_same p.2.2.2.2.2.2.1 f3) (sv_same p.2.2.2.2.2.2.2 f4)))) S.2.2.2.2.2 = true := hs
    obtain ⟨p, hp, hc⟩ := sx_an_ok hs
    rw [Bool.and_eq_true, Bool.and_eq_true, Bool.and_eq_true] at hc
    obtain ⟨c1, c2, c3, c4⟩ := hc
    obtain ⟨e1, e2, e3, e4, e5⟩ := sx_hd_ok c1
    have c2 := sv_same_ok c2
    have c3 := sv_same_ok c3
    have c4 := sv_same_ok c4
    have hp2 := hH.2.2 p hp
    obtain ⟨kd, p1, p2, ps, g1, g2, g3, g4⟩ := p
    have e1 : kd = m + 2 := e1
    have e2 : p1 = r1 := e2
    have e3 : p2 = r2 := e3
    have e4 : ps = sd := e4
    have e5 : g1 = f1 := e5
    have c2 : g2 = f2 := c2
    have c3 : g3 = f3 := c3
    have c4 : g4 = f4 := c4
    subst e1 e2 e3 e4 e5 c2 c3 c4
    exact hp2
end
