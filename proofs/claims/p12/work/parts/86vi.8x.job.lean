/-! PLAN's calls leave all but PLAN's own alone (printed by wip/p21/g8x.py) -/
def cp_P (m m' : dc_M) : Prop := m 46 10 = 50 → (m' 46 10 = 50 ∧ ∀ (k : Nat) (i : Int), ¬ (46 ≤ k ∧ k ≤ 54) → m' k i = m k i)
theorem cp_P.rf {m : dc_M} : cp_P m m := fun e => ⟨e, fun _ _ _ => rfl⟩
theorem cp_P.tr {a b c : dc_M} (h : cp_P a b) (g : cp_P b c) : cp_P a c := fun e => by
  obtain ⟨e1, f1⟩ := h e
  obtain ⟨e2, f2⟩ := g e1
  exact ⟨e2, fun k i hk => (f2 k i hk).trans (f1 k i hk)⟩
theorem cp_P.up {a m m1 : dc_M} {k : Nat} {i v : Int} (h : cp_P a m) (e : m1 = dc_up m k i v) (hk : 47 ≤ k ∧ k ≤ 54) : cp_P a m1 := h.tr (fun e0 => ⟨by rw [e, dc_up_k (by omega)]; exact e0, fun k' i' z => by rw [e, dc_up_k (by omega)]⟩)
theorem cp_P.uf {a m m1 : dc_M} {i v : Int} (h : cp_P a m) (e : m1 = dc_up m 46 i v) (hi : i ≠ 10) : cp_P a m1 := h.tr (fun e0 => ⟨by rw [e, dc_up_i (fun z => hi z.symm)]; exact e0, fun k' i' z => by rw [e, dc_up_k (by omega)]⟩)
theorem cp_83 {x0 x1 : Int} {m : dc_M} {v : Int} {m' : dc_M} (h : D_83 x0 x1 m v m') : cp_P m m' := fun e0 => by
  obtain ⟨v1, m1, h1, m2, e2, -, em⟩ := h
  rw [e0] at h1
  have P1 : cp_P m m1 := by
    rcases h1 with ⟨-, -, m3, e3, -, m4, e4, m5, e5, -, em1⟩ | ⟨-, -, em1⟩
    · rw [em1]; exact ((cp_P.rf.up e3 (by decide)).up e4 (by decide)).up e5 (by decide)
    · rw [em1]; exact cp_P.rf
  rw [em]
  exact (P1.uf e2 (by decide)) e0
theorem cp_88 {x0 : Int} {m : dc_M} {v : Int} {m' : dc_M} (h : D_88 x0 m v m') : cp_P m m' := by
  have key : ∀ (c : Nat) (l2 : Int) (m : dc_M) (v : Int) (m' : dc_M), LM_88 x0 c 2 l2 m v m' → cp_P m m' := by
    intro c
    induction c with
    | zero => intro l2 m v m' h; exact h.elim
    | succ c ih =>
      intro l2 m v m' h
      replace h := lm_88_2.mp h
      rcases h with ⟨-, h⟩ | ⟨-, -, h⟩
      · rcases h with ⟨-, h⟩ | ⟨-, m9, e9, -, em⟩
        · rcases h with ⟨-, -, -, -, m9, e9, -, em⟩ | ⟨-, -, m7, e7, -, m8, e8, m9, e9, v5, m5, h5, -, -, -, m6, e6, -, em⟩
          · rw [em]; exact cp_P.rf.up e9 (by decide)
          · rw [em]; exact ((((cp_P.rf.up e7 (by decide)).up e8 (by decide)).uf e9 (by decide)).tr (cp_83 h5)).up e6 (by decide)
        · rw [em]; exact cp_P.rf.uf e9 (by decide)
      · rcases h with ⟨-, h⟩ | ⟨-, -, h⟩
        · exact ih _ _ _ _ h
        · rcases h with ⟨-, h⟩ | ⟨-, h⟩
          · rcases h with ⟨-, h⟩ | ⟨-, m9, e9, -, em⟩
            · rcases h with ⟨-, -, -, -, m9, e9, -, em⟩ | ⟨-, -, m7, e7, -, m8, e8, m9, e9, v5, m5, h5, -, -, -, m6, e6, -, em⟩
              · rw [em]; exact cp_P.rf.up e9 (by decide)
              · rw [em]; exact ((((cp_P.rf.up e7 (by decide)).up e8 (by decide)).uf e9 (by decide)).tr (cp_83 h5)).up e6 (by decide)
            · rw [em]; exact cp_P.rf.uf e9 (by decide)
          · exact ih _ _ _ _ h
  obtain ⟨c, h⟩ := h
  exact key c _ _ _ _ h
theorem cp_84 {k1 : Nat} {m : dc_M} {v : Int} {m' : dc_M} (h : D_84 k1 m v m') : cp_P m m' := by
  have key : ∀ (c : Nat) (l2 l3 : Int) (m : dc_M) (v : Int) (m' : dc_M), LM_84 k1 c 4 l2 l3 m v m' → cp_P m m' := by
    intro c
    induction c with
    | zero => intro l2 l3 m v m' h; exact h.elim
    | succ c ih =>
      intro l2 l3 m v m' h
      replace h := lm_84_4.mp h
      rcases h with ⟨-, -, em⟩ | ⟨-, -, h⟩
      · rw [em]; exact cp_P.rf
      · rcases h with ⟨-, h⟩ | ⟨-, v1, m1, h1, v2, m2, h2, v3, m3, h3, h⟩
        · exact ih _ _ _ _ _ h
        · exact (((cp_83 h1).tr (cp_83 h2)).tr (cp_83 h3)).tr (ih _ _ _ _ _ h)
  obtain ⟨c, h⟩ := h
  exact key c _ _ _ _ _ h
theorem cp_86 {k1 : Nat} {x1 x2 : Int} {m : dc_M} {v : Int} {m' : dc_M} (h : D_86 k1 x1 x2 m v m') : cp_P m m' := by
  have key : ∀ (c : Nat) (l4 l5 l6 : Int) (m : dc_M) (v : Int) (m' : dc_M), LM_86 k1 x1 x2 c 43 l4 l5 l6 m v m' → cp_P m m' := by
    intro c
    induction c with
    | zero => intro l4 l5 l6 m v m' h; exact h.elim
    | succ c ih =>
      intro l4 l5 l6 m v m' h
      replace h := lm_86_43.mp h
      obtain ⟨-, h⟩ := h
      rcases h with ⟨-, -, h⟩ | ⟨-, v1, m1, h1, h⟩
      · rcases h with ⟨-, v1, m1, h1, h⟩ | ⟨-, v1, m1, h1, -, em⟩
        · rcases h with ⟨-, -, em⟩ | ⟨-, v2, m2, h2, v3, m3, h3, v4, m4, h4, -, em⟩
          · rw [em]; exact cp_88 h1
          · rw [em]; exact (((cp_88 h1).tr (cp_83 h2)).tr (cp_83 h3)).tr (cp_83 h4)
        · rw [em]; exact cp_83 h1
      · exact (cp_83 h1).tr (ih _ _ _ _ _ _ h)
  obtain ⟨-, h⟩ := h
  rcases h with ⟨-, -, c, h⟩ | ⟨-, v0, m0, h0, -, h⟩
  · exact key c _ _ _ _ _ _ h
  · refine (cp_83 h0).tr ?_
    rcases h with ⟨-, v1, m1, h1, h⟩ | ⟨-, v1, m1, h1, -, em⟩
    · rcases h with ⟨-, -, em⟩ | ⟨-, v2, m2, h2, v3, m3, h3, v4, m4, h4, -, em⟩
      · rw [em]; exact cp_88 h1
      · rw [em]; exact (((cp_88 h1).tr (cp_83 h2)).tr (cp_83 h3)).tr (cp_83 h4)
    · rw [em]; exact cp_83 h1
theorem cp_87 {k1 : Nat} {x1 x2 : Int} {m : dc_M} {v : Int} {m' : dc_M} (h : D_87 k1 x1 x2 m v m') : cp_P m m' := by
  have key : ∀ (c : Nat) (l4 l5 : Int) (m : dc_M) (v : Int) (m' : dc_M), LM_87 k1 x1 x2 c 23 l4 l5 m v m' → cp_P m m' := by
    intro c
    induction c with
    | zero => intro l4 l5 m v m' h; exact h.elim
    | succ c ih =>
      intro l4 l5 m v m' h
      replace h := lm_87_23.mp h
      rcases h with ⟨-, v1, m1, h1, -, em⟩ | ⟨-, h⟩
      · rw [em]; exact cp_83 h1
      · rcases h with ⟨-, v1, m1, h1, -, em⟩ | ⟨-, v1, m1, h1, h⟩
        · rw [em]; exact cp_83 h1
        · rcases h with ⟨-, m2, e2, h⟩ | ⟨-, m2, e2, h⟩ <;>
          · rcases h with ⟨-, h⟩ | ⟨-, v3, m3, h3, v4, m4, h4, m5, e5, h⟩
            · exact ((cp_88 h1).uf e2 (by decide)).tr (ih _ _ _ _ _ h)
            · exact (((((cp_88 h1).uf e2 (by decide)).tr (cp_83 h3)).tr (cp_83 h4)).uf e5 (by decide)).tr (ih _ _ _ _ _ h)
  obtain ⟨-, -, c, h⟩ := h
  exact key c _ _ _ _ _ h
theorem cp_85 {k1 : Nat} {x1 x2 : Int} {m : dc_M} {v : Int} {m' : dc_M} (h : D_85 k1 x1 x2 m v m') : cp_P m m' := by
  have key : ∀ (c : Nat) (l4 l5 : Int) (m : dc_M) (v : Int) (m' : dc_M), LM_85 k1 x1 x2 c 6 l4 l5 m v m' → cp_P m m' := by
    intro c
    induction c with
    | zero => intro l4 l5 m v m' h; exact h.elim
    | succ c ih =>
      intro l4 l5 m v m' h
      replace h := lm_85_6.mp h
      rcases h with ⟨-, -, em⟩ | ⟨-, h⟩
      · rw [em]; exact cp_P.rf
      · rcases h with ⟨-, -, em⟩ | ⟨-, h⟩
        · rw [em]; exact cp_P.rf
        · rcases h with ⟨-, h⟩ | ⟨-, h⟩
          · exact ih _ _ _ _ _ h
          · rcases h with ⟨-, v1, m1, h1, h⟩ | ⟨-, v1, m1, h1, h⟩
            · exact (cp_87 h1).tr (ih _ _ _ _ _ h)
            · exact (cp_86 h1).tr (ih _ _ _ _ _ h)
  obtain ⟨c, h⟩ := h
  exact key c _ _ _ _ _ h
/-- all but PLAN's own -/
def cp_Q (m m' : dc_M) : Prop := ∀ (k : Nat) (i : Int), ¬ (46 ≤ k ∧ k ≤ 54) → m' k i = m k i
theorem cp_Q.rf {m : dc_M} : cp_Q m m := fun _ _ _ => rfl
theorem cp_Q.tr {a b c : dc_M} (h : cp_Q a b) (g : cp_Q b c) : cp_Q a c := fun k i z => (g k i z).trans (h k i z)
theorem cp_Q.up {a m m1 : dc_M} {k : Nat} {i v : Int} (h : cp_Q a m) (e : m1 = dc_up m k i v) (hk : 46 ≤ k ∧ k ≤ 54) : cp_Q a m1 := fun k' i' z => by rw [e, dc_up_k (by omega)]; exact h k' i' z
theorem cp_82 {k1 : Nat} {x1 : Int} {m : dc_M} {v : Int} {m' : dc_M} (h : D_82 k1 x1 50 m v m') : cp_Q m m' := by
  obtain ⟨m1, e1, m2, e2, m3, e3, m4, e4, v5, m5, ⟨-, h5⟩, h⟩ := h
  have r1 : m1 46 10 = 50 := by rw [e1, dc_up_s]; rfl
  rw [r1] at e2
  have q4 : cp_Q m m4 := (((cp_Q.rf.up e1 (by decide)).up e2 (by decide)).up e3 (by decide)).up e4 (by decide)
  have r4 : m4 46 10 = 50 := by rw [e4, dc_up_i (by decide), e3, dc_up_i (by decide), e2, dc_up_k (by decide), r1]
  rcases h with ⟨-, m6, e6, -, em⟩ | ⟨-, m6, e6, v7, m7, h7, v8, m8, h8, v9, m9, h9, -, em⟩
  · rw [em]; rw [h5] at e6; exact q4.up e6 (by decide)
  · rw [h5] at e6
    have P : cp_P m4 m9 := (((cp_P.rf.uf e6 (by decide)).tr (cp_84 h7)).tr (cp_85 h8)).tr (cp_85 h9)
    rw [em]; exact q4.tr (P r4).2
theorem cp_81 {x0 : Int} {m : dc_M} {v : Int} {m' : dc_M} (h : D_81 x0 m v m') : m' = m := by
  have key : ∀ (c : Nat) (l2 l3 l4 l5 : Int) (m : dc_M) (v : Int) (m' : dc_M), LM_81 x0 c 15 l2 l3 l4 l5 m v m' → m' = m := by
    intro c
    induction c with
    | zero => intro l2 l3 l4 l5 m v m' h; exact h.elim
    | succ c ih =>
      intro l2 l3 l4 l5 m v m' h
      replace h := lm_81_15.mp h
      rcases h with ⟨-, h⟩ | ⟨-, h⟩
      · rcases h with ⟨-, -, em⟩ | ⟨-, -, em⟩
        · exact em
        · exact em
      · rcases h with ⟨-, h⟩ | ⟨-, -, h⟩
        · exact ih _ _ _ _ _ _ _ h
        · rcases h with ⟨-, h⟩ | ⟨-, -, h⟩
          · exact ih _ _ _ _ _ _ _ h
          · rcases h with ⟨-, h⟩ | ⟨-, -, h⟩
            · exact ih _ _ _ _ _ _ _ h
            · exact ih _ _ _ _ _ _ _ h
  obtain ⟨c, h⟩ := h
  exact key c _ _ _ _ _ _ _ h
theorem cp_80 {k1 : Nat} {m : dc_M} {v : Int} {m' : dc_M} (h : D_80 k1 m v m') : cp_Q m m' := by
  have key2 : ∀ (c : Nat) (l2 l3 : Int) (m : dc_M) (v : Int) (m' : dc_M), LM_80 k1 c 82 l2 l3 m v m' → cp_Q m m' := by
    intro c
    induction c with
    | zero => intro l2 l3 m v m' h; exact h.elim
    | succ c ih =>
      intro l2 l3 m v m' h
      replace h := lm_80_82.mp h
      rcases h with ⟨-, -, em⟩ | ⟨-, h⟩
      · rw [em]; exact fun _ _ _ => rfl
      · rcases h with ⟨-, -, em⟩ | ⟨-, h⟩
        · rw [em]; exact fun _ _ _ => rfl
        · rcases h with ⟨-, -, em⟩ | ⟨-, v1, m1, h1, -, m2, e2, h⟩
          · rw [em]; exact fun _ _ _ => rfl
          · have e1 := cp_81 h1
            subst e1
            have q2 : cp_Q m1 m2 := cp_Q.up (fun _ _ _ => rfl) e2 (by decide)
            rcases h with ⟨-, m3, e3, h⟩ | ⟨-, m3, e3, h⟩
            · exact (q2.up e3 (by decide)).tr (ih _ _ _ _ _ h)
            · exact (q2.up e3 (by decide)).tr (ih _ _ _ _ _ h)
  have key1 : ∀ (c : Nat) (l2 l3 : Int) (m : dc_M) (v : Int) (m' : dc_M), LM_80 k1 c 11 l2 l3 m v m' → cp_Q m m' := by
    intro c
    induction c with
    | zero => intro l2 l3 m v m' h; exact h.elim
    | succ c ih =>
      intro l2 l3 m v m' h
      replace h := lm_80_11.mp h
      rcases h with ⟨-, m1, e1, h⟩ | ⟨-, v1, m1, h1, -, m2, e2, v3, m3, h3, h⟩
      · exact (cp_Q.up (fun _ _ _ => rfl) e1 (by decide)).tr (key2 c _ _ _ _ _ h)
      · have q2 : cp_Q m m2 := (cp_82 h1).up e2 (by decide)
        have e3 := cp_81 h3
        subst e3
        rcases h with ⟨-, -, -, m4, e4, h⟩ | ⟨-, -, m4, e4, h⟩
        · exact (q2.up e4 (by decide)).tr (ih _ _ _ _ _ h)
        · exact (q2.up e4 (by decide)).tr (ih _ _ _ _ _ h)
  obtain ⟨c, h⟩ := h
  exact key1 c _ _ _ _ _ h
/-! the class's job() -/
theorem cj_ty2 {k : Nat} (h : sv_ty k = some 2) : k = 96 ∨ k = 105 := by
  have hl : k < 174 := (List.getElem?_eq_some_iff.mp h).1
  have key : ∀ k, k < 174 → sv_tys[k]? = some 2 → k = 96 ∨ k = 105 := by decide +kernel
  exact key k hl h
/-- what job() leaves of all but JOBS, PLAN and the reader -/
def cj_o (m m' : dc_M) : Prop := ∀ (k : Nat) (i : Int), ¬ (k = 0 ∧ (i = 10 ∨ i = 11)) → k ≠ 1 → ¬ (96 ≤ k ∧ k ≤ 113) → ¬ (46 ≤ k ∧ k ≤ 54) → m' k i = m k i
theorem cj_job {m : dc_M} {v : Int} {m' : dc_M} (h : D_163 m v m') (hk : (m 0 11).toNat = 96 ∨ (m 0 11).toNat = 105) (hn : 0 ≤ m 1 1 ∧ m 1 1 ≤ 740) : v = pj_ans (pj_all (m 2) (m 1 1)) ∧ m' 1 8 = pz_flt (pj_all (m 2) (m 1 1)) ∧ cj_o m m' := by
  obtain ⟨v1, m1, h1, m2, e2, h⟩ := h
  obtain ⟨k, ek⟩ : ∃ k, k = (m 0 11).toNat := ⟨_, rfl⟩
  rw [← ek] at h1 hk
  obtain ⟨q, fr, -⟩ := cj_text (by omega) h1 hn
  have rb := pj_rd_b (t := m 2) hn.1 301 _ 0 pj_ok_0 (by decide) hn.1
  have o2 : ∀ (j : Nat) (i : Int), j ≠ 1 → ¬ (96 ≤ j ∧ j ≤ 113) → m2 j i = m j i := fun j i p1 p2 => by rw [e2, dc_up_k p1]; exact fr j i p1 (by omega)
  cases e : pj_all (m 2) (m 1 1) with
  | inl f =>
    obtain ⟨y1, y2, y3⟩ := pz_on_l q e
    have fb : pz_fb (m 1 1) f := pz_on_l rb e
    unfold pz_fb at fb
    rcases h with ⟨d1, -⟩ | ⟨d1, ev, em⟩
    · exact absurd y1 d1
    · rw [em]
      refine ⟨?_, ?_, fun j i _ p1 p2 _ => o2 j i p1 p2⟩
      · rw [ev, e2, dc_up_i (by decide), y3, dc_w_eq (by unfold sv_I; omega)]; rfl
      · rw [e2, dc_up_i (by decide), y2]; rfl
  | inr K =>
    obtain ⟨y1, y2, y3, JK, ok⟩ := pz_on_r q e
    rcases h with ⟨d1, m3, e3, m4, e4, v5, m5, h5, ev, em⟩ | ⟨d1, -⟩
    · have F := cp_80 h5
      have g0 : m2 0 11 = m 0 11 := o2 0 11 (by decide) (by decide)
      have g10 : (m5 0 10).toNat = k := by
        rw [F 0 10 (by decide), e4, dc_up_s, Int.toNat_natCast, g0]; exact ek.symm
      have f4 : ∀ (j : Nat) (i : Int), j ≠ 0 → m4 j i = m2 j i := fun j i p => by rw [e4, dc_up_k p, e3, dc_up_k p]
      rw [em]
      refine ⟨?_, ?_, fun j i p0 p1 p2 p3 => ?_⟩
      · rw [ev, g10, F k 9 (by omega), f4 k 9 (by omega), e2, dc_up_k (by omega), JK.2.2.1]; rfl
      · rw [F 1 8 (by decide), f4 1 8 (by decide), e2, dc_up_i (by decide), y2]; rfl
      · rw [F j i p3, ← o2 j i p1 p2]
        by_cases z : j = 0
        · subst z
          rw [e4, dc_up_i (by omega), e3, dc_up_i (by omega)]
        · exact f4 j i z
    · exfalso; omega
/-! both boards, with their faults -/
theorem cz_boardF {m : dc_M} {v : Int} {m' : dc_M} (h : D_150 m v m') (hk : 3 ≤ (m 0 9).toNat) (hn : 0 ≤ m 1 1 ∧ m 1 1 ≤ 740) : m' 1 8 = pz_flt (pz_all (m 2) (m 1 1)) := by
  obtain ⟨v1, m1, hd, m2, e2, h⟩ := h
  have q := cz_text hk hd hn
  cases e : pz_all (m 2) (m 1 1) with
  | inl f =>
    obtain ⟨q1, q2, q3, q4⟩ := pz_on_l q e
    rcases h with ⟨c1, -⟩ | ⟨c1, ev, em⟩
    · exact absurd q1 c1
    · rw [em, e2, dc_up_i (by decide), q3]; rfl
  | inr W =>
    obtain ⟨q1, q2, q3, q4, q5⟩ := pz_on_r q e
    rcases h with ⟨c1, m3, e3, m4, e4, ev, em⟩ | ⟨c1, -⟩
    · rw [em, e4, dc_up_k (by decide), e3, dc_up_k (by decide), e2, dc_up_i (by decide), q3]; rfl
    · exfalso; omega
theorem rz_copyF {x y : Int} : ∀ (c : Nat) (l : Int) (m : dc_M) (v : Int) (m' : dc_M), LM_208 x y c 14 l m v m' → ∀ i, m' 114 i = m 114 i := by
  intro c
  induction c with
  | zero => intro l m v m' h; exact h.elim
  | succ c ih =>
    intro l m v m' h i
    replace h := lm_208_14.mp h
    rcases h with ⟨c1, -, em⟩ | ⟨c1, -, -, m1, e1, -, -, m2, e2, h⟩
    · rw [em]
    · rw [ih _ m2 v m' h i, e2, dc_up_k (by decide), e1, dc_up_k (by decide)]
theorem rz_boardlF {t : Int → Int} {n : Int} : ∀ (c : Nat) (l : Int) (m : dc_M) (v : Int) (m' : dc_M), LM_209 c 30 l m v m' → 0 ≤ l → (∀ x, 0 ≤ x → x < l → x < 217 → m 121 x = 0) → rz_B m t n 700 → m 114 4 = 0 → m 120 1 = 0 → m 114 10 = 0 → m' 114 10 = pz_flt (pz_all t n) := by
  intro c
  induction c with
  | zero => intro l m v m' h; exact h.elim
  | succ c ih =>
    intro l m v m' h h0 hz B h4 h120 h10
    replace h := lm_209_30.mp h
    rcases h with ⟨c1, v1, m1, ⟨cn, hn⟩, v2, m2, ⟨cr, hr⟩, h⟩ | ⟨c1, -, m1, e1, h⟩
    · have b := B.2.2.2
      obtain ⟨F1, T1⟩ := rz_nextl cn 0 0 m v1 m1 hn B (by (try clear h); (try clear hr); omega) (by (try clear h); (try clear hr); omega)
      rw [h4] at T1
      have S1 : rz_S m1 t n 700 0 := ⟨B.go F1 (by decide) (by decide), T1, by (try clear h); (try clear hr); omega, by (try clear h); (try clear hr); omega⟩
      have W1 : rz_W m1 [] := ⟨by rw [F1 120 1 (Or.inl (by decide)), h120]; rfl, by show 0 ≤ 60; decide, fun i hi => (by cases hi), fun x y1 y2 => by rw [F1 121 x (Or.inl (by decide)), hz x y1 (by (try clear h); (try clear hr); omega) y2]; rfl, fun x => by show (0 : Int) ≤ _; split <;> decide⟩
      have q := rz_read cr m1 v2 m2 [] 0 61 hr rfl S1 W1
      unfold pz_all
      cases e : pz_rd t n 61 [] 0 with
      | inl f =>
        obtain ⟨q1, q2⟩ := pz_on_l q e
        rcases h with ⟨c2, -⟩ | ⟨c2, ev, em⟩
        · exact absurd q1 c2
        · rw [em]; exact q2.1
      | inr W =>
        obtain ⟨q1, q2, q3⟩ := pz_on_r q e
        rcases h with ⟨c2, v3, m3, ⟨-, -, m4, e4, cc, hc⟩, -, ev, em⟩ | ⟨c2, -⟩
        · rw [em, rz_copyF cc _ m4 v3 m3 hc 10, e4, dc_up_k (by decide), q3, F1.fi (by decide), h10]; rfl
        · exact absurd (show v2 ≠ 0 by rw [q1]; decide) c2
    · rw [dc_w_eq (by unfold sv_I; (try clear h); omega)] at h
      refine ih (l + 1) m1 v m' h (by (try clear h); omega) (fun x y1 y2 y3 => ?_) ?_ (by rw [e1, dc_up_k (by decide)]; exact h4) (by rw [e1, dc_up_k (by decide)]; exact h120) (by rw [e1, dc_up_k (by decide)]; exact h10)
      · by_cases z : x = l
        · rw [e1, z, dc_up_s]
        · rw [e1, dc_up_i z]; exact hz x y1 (by (try clear h); omega) y3
      · refine ⟨fun i => by rw [← B.1 i]; unfold rz_t; rw [e1, dc_up_k (by decide)], by rw [e1, dc_up_k (by decide)]; exact B.2.1, by rw [e1, dc_up_k (by decide)]; exact B.2.2.1, B.2.2.2⟩
theorem rz_boardF {m : dc_M} {v : Int} {m' : dc_M} (h : D_209 m v m') (hn : 0 ≤ m 114 2 ∧ m 114 2 ≤ 740) : m' 114 10 = pz_flt (pz_all (rz_t m) (m 114 2)) := by
  obtain ⟨m1, e1, v2, m5, ⟨m2, e2, m3, e3, m4, e4, -, e5⟩, m6, e6, m7, e7, -, m8, e8, c, h⟩ := h
  subst e5
  have g2 : m1 114 2 = m 114 2 := by rw [e1, dc_up_i (by decide)]
  have f5 : ∀ i, m8 115 i = m 115 i := fun i => by rw [e8, dc_up_k (by decide), e7, dc_up_k (by decide), e6, dc_up_k (by decide), e4, dc_up_k (by decide), e3, dc_up_k (by decide), e2, dc_up_k (by decide), e1, dc_up_k (by decide)]
  refine rz_boardlF c 0 m8 v m' h (by decide) (fun x y1 y2 => by omega) ⟨fun i => by unfold rz_t; rw [f5], ?_, ?_, hn⟩ ?_ ?_ ?_
  · rw [e8, dc_up_k (by decide), e7, dc_up_i (by decide), e6, dc_up_i (by decide), e4, dc_up_i (by decide), e3, dc_up_i (by decide), e2, dc_up_s, g2]
  · rw [e8, dc_up_k (by decide), e7, dc_up_s]
  · rw [e8, dc_up_k (by decide), e7, dc_up_i (by decide), e6, dc_up_i (by decide), e4, dc_up_s]
  · rw [e8, dc_up_s]
  · rw [e8, dc_up_k (by decide), e7, dc_up_i (by decide), e6, dc_up_s]
