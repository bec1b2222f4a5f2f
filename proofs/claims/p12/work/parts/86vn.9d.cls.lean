/-! A RUN's BOARD: the class (printed by wip/p22/g9d.py) -/
/-- all but PLAN's own fields and relays, and the board at tb -/
def cm_fr (tb : Nat) (m m' : dc_M) : Prop := (∀ (k : Nat) (i : Int), k ≠ 46 → k ≠ 53 → k ≠ 54 → k ≠ tb → k ≠ tb + 1 → k ≠ tb + 2 → m' k i = m k i) ∧ ∀ i : Int, i ≠ 7 → i ≠ 8 → i ≠ 9 → m' 46 i = m 46 i
theorem cm_fr.rf {tb : Nat} {m : dc_M} : cm_fr tb m m := ⟨fun _ _ _ _ _ _ _ _ => rfl, fun _ _ _ _ => rfl⟩
theorem cm_fr.tr {tb : Nat} {a b c : dc_M} (h : cm_fr tb a b) (g : cm_fr tb b c) : cm_fr tb a c := ⟨fun k i h1 h2 h3 h4 h5 h6 => (g.1 k i h1 h2 h3 h4 h5 h6).trans (h.1 k i h1 h2 h3 h4 h5 h6), fun i h1 h2 h3 => (g.2 i h1 h2 h3).trans (h.2 i h1 h2 h3)⟩
/-- where a board may lie -/
abbrev cm_tb (tb : Nat) : Prop := tb = 50 ∨ (64 ≤ tb ∧ tb ≤ 93)
/-- what is not made stays so -/
def cm_Z (tb : Nat) (m m' : dc_M) : Prop := m 46 10 = (tb : Int) → (m' 46 10 = (tb : Int) ∧ (m 46 9 = 0 → m' 46 9 = 0) ∧ cm_fr tb m m')
theorem cm_Z.rf {tb : Nat} {m : dc_M} : cm_Z tb m m := fun e => ⟨e, id, cm_fr.rf⟩
theorem cm_Z.tr {tb : Nat} {a b c : dc_M} (h : cm_Z tb a b) (g : cm_Z tb b c) : cm_Z tb a c := fun e => by
  obtain ⟨e1, z1, f1⟩ := h e
  obtain ⟨e2, z2, f2⟩ := g e1
  exact ⟨e2, fun z => z2 (z1 z), f1.tr f2⟩
theorem cm_Z.up {tb : Nat} {a m m1 : dc_M} {k : Nat} {i v : Int} (h : cm_Z tb a m) (e : m1 = dc_up m k i v) (hk : k = 53 ∨ k = 54) : cm_Z tb a m1 := h.tr (fun e0 => ⟨by rw [e, dc_up_k (by omega)]; exact e0, fun z => by rw [e, dc_up_k (by omega)]; exact z, fun k' i' h1 h2 h3 _ _ _ => by rw [e, dc_up_k (by omega)], fun i' _ _ _ => by rw [e, dc_up_k (by omega)]⟩)
theorem cm_Z.uf {tb : Nat} {a m m1 : dc_M} {i v : Int} (h : cm_Z tb a m) (e : m1 = dc_up m 46 i v) (hi : i = 7 ∨ i = 8) : cm_Z tb a m1 := h.tr (fun e0 => ⟨by rw [e, dc_up_i (by omega)]; exact e0, fun z => by rw [e, dc_up_i (by omega)]; exact z, fun k' i' h1 _ _ _ _ _ => by rw [e, dc_up_k h1], fun i' h7 h8 _ => by rw [e, dc_up_i (by omega)]⟩)
theorem cm_Z.u9 {tb : Nat} {a m m1 : dc_M} {v : Int} (h : cm_Z tb a m) (e : m1 = dc_up m 46 9 v) (hv : m 46 9 = 0 → v = 0) : cm_Z tb a m1 := h.tr (fun e0 => ⟨by rw [e, dc_up_i (by decide)]; exact e0, fun z => by rw [e, dc_up_s]; exact hv z, fun k' i' h1 _ _ _ _ _ => by rw [e, dc_up_k h1], fun i' _ _ h9 => by rw [e, dc_up_i h9]⟩)
theorem cm_and0 (x y : Int) (h : x = 0) : sv_g (sv_u x &&& sv_u y) = 0 := by
  subst h
  rw [show sv_u 0 = 0 by decide, Nat.zero_and]
  decide
theorem cm_and1 {y : Int} (h : y = 0 ∨ y = 1) : sv_g (sv_u 1 &&& sv_u y) = y := by
  rcases h with e | e <;> subst e <;> decide
theorem cm_2fr {tb : Nat} {a b : Int} {m : dc_M} {v : Int} {m' : dc_M} (h : D_2 tb a b m v m') : (v = 0 ∨ v = 1) ∧ ∀ (k : Nat) (i : Int), k ≠ tb → k ≠ tb + 1 → k ≠ tb + 2 → m' k i = m k i := by
  rcases h with ⟨-, -, m3, e3, -, m4, e4, m5, e5, ev, em⟩ | ⟨-, ev, em⟩
  · exact ⟨Or.inr ev, fun k i h1 h2 h3 => by rw [em, e5, dc_up_k h1, e4, dc_up_k h3, e3, dc_up_k h2]⟩
  · exact ⟨Or.inl ev, fun k i _ _ _ => by rw [em]⟩
theorem cm_83 {tb : Nat} (ht : cm_tb tb) {x0 x1 : Int} {m : dc_M} {v : Int} {m' : dc_M} (h : D_83 x0 x1 m v m') : cm_Z tb m m' := fun e0 => by
  obtain ⟨v1, m1, h1, m2, e2, -, em⟩ := h
  rw [e0, Int.toNat_natCast] at h1
  obtain ⟨-, f1⟩ := cm_2fr h1
  clear h1
  rw [em]
  exact ⟨by rw [e2, dc_up_i (by decide), f1 46 10 (by omega) (by omega) (by omega)]; exact e0, fun z => by rw [e2, dc_up_s]; exact cm_and0 _ _ z, fun k i k1 k2 k3 k4 k5 k6 => by rw [e2, dc_up_k k1, f1 k i k4 k5 k6], fun i k7 k8 k9 => by rw [e2, dc_up_i k9, f1 46 i (by omega) (by omega) (by omega)]⟩
theorem cm_88 {tb : Nat} (ht : cm_tb tb) {x0 : Int} {m : dc_M} {v : Int} {m' : dc_M} (h : D_88 x0 m v m') : cm_Z tb m m' := by
  have key : ∀ (c : Nat) (l2 : Int) (m : dc_M) (v : Int) (m' : dc_M), LM_88 x0 c 2 l2 m v m' → cm_Z tb m m' := by
    intro c
    induction c with
    | zero => intro l2 m v m' h; exact h.elim
    | succ c ih =>
      intro l2 m v m' h
      replace h := lm_88_2.mp h
      rcases h with ⟨-, h⟩ | ⟨-, -, h⟩
      · rcases h with ⟨-, h⟩ | ⟨-, m9, e9, -, em⟩
        · rcases h with ⟨-, -, -, -, m9, e9, -, em⟩ | ⟨-, -, m7, e7, -, m8, e8, m9, e9, v5, m5, h5, -, -, -, m6, e6, -, em⟩
          · rw [em]; exact cm_Z.rf.up e9 (by decide)
          · rw [em]; exact ((((cm_Z.rf.up e7 (by decide)).up e8 (by decide)).uf e9 (by decide)).tr (cm_83 ht h5)).up e6 (by decide)
        · rw [em]; exact cm_Z.rf.u9 e9 (fun _ => rfl)
      · rcases h with ⟨-, h⟩ | ⟨-, -, h⟩
        · exact ih _ _ _ _ h
        · rcases h with ⟨-, h⟩ | ⟨-, h⟩
          · rcases h with ⟨-, h⟩ | ⟨-, m9, e9, -, em⟩
            · rcases h with ⟨-, -, -, -, m9, e9, -, em⟩ | ⟨-, -, m7, e7, -, m8, e8, m9, e9, v5, m5, h5, -, -, -, m6, e6, -, em⟩
              · rw [em]; exact cm_Z.rf.up e9 (by decide)
              · rw [em]; exact ((((cm_Z.rf.up e7 (by decide)).up e8 (by decide)).uf e9 (by decide)).tr (cm_83 ht h5)).up e6 (by decide)
            · rw [em]; exact cm_Z.rf.u9 e9 (fun _ => rfl)
          · exact ih _ _ _ _ h
  obtain ⟨c, h⟩ := h
  exact key c _ _ _ _ h
theorem cm_84 {tb : Nat} (ht : cm_tb tb) {k1 : Nat} {m : dc_M} {v : Int} {m' : dc_M} (h : D_84 k1 m v m') : cm_Z tb m m' := by
  have key : ∀ (c : Nat) (l2 l3 : Int) (m : dc_M) (v : Int) (m' : dc_M), LM_84 k1 c 4 l2 l3 m v m' → cm_Z tb m m' := by
    intro c
    induction c with
    | zero => intro l2 l3 m v m' h; exact h.elim
    | succ c ih =>
      intro l2 l3 m v m' h
      replace h := lm_84_4.mp h
      rcases h with ⟨-, -, em⟩ | ⟨-, -, h⟩
      · rw [em]; exact cm_Z.rf
      · rcases h with ⟨-, h⟩ | ⟨-, v1, m1, h1, v2, m2, h2, v3, m3, h3, h⟩
        · exact ih _ _ _ _ _ h
        · exact (((cm_83 ht h1).tr (cm_83 ht h2)).tr (cm_83 ht h3)).tr (ih _ _ _ _ _ h)
  obtain ⟨c, h⟩ := h
  exact key c _ _ _ _ _ h
theorem cm_86 {tb : Nat} (ht : cm_tb tb) {k1 : Nat} {x1 x2 : Int} {m : dc_M} {v : Int} {m' : dc_M} (h : D_86 k1 x1 x2 m v m') : cm_Z tb m m' := by
  have key : ∀ (c : Nat) (l4 l5 l6 : Int) (m : dc_M) (v : Int) (m' : dc_M), LM_86 k1 x1 x2 c 43 l4 l5 l6 m v m' → cm_Z tb m m' := by
    intro c
    induction c with
    | zero => intro l4 l5 l6 m v m' h; exact h.elim
    | succ c ih =>
      intro l4 l5 l6 m v m' h
      replace h := lm_86_43.mp h
      obtain ⟨-, h⟩ := h
      rcases h with ⟨-, -, h⟩ | ⟨-, v1, m1, h1, h⟩
      · rcases h with ⟨-, v1, m1, h1, h⟩ | ⟨-, v1, m1, h1, -, em⟩
        · rcases h with ⟨-, -, em⟩ | ⟨-, v2, m2, h2, v3, m3, h3, v4, m4, h4, -, em⟩
          · rw [em]; exact cm_88 ht h1
          · rw [em]; exact (((cm_88 ht h1).tr (cm_83 ht h2)).tr (cm_83 ht h3)).tr (cm_83 ht h4)
        · rw [em]; exact cm_83 ht h1
      · exact (cm_83 ht h1).tr (ih _ _ _ _ _ _ h)
  obtain ⟨-, h⟩ := h
  rcases h with ⟨-, -, c, h⟩ | ⟨-, v0, m0, h0, -, h⟩
  · exact key c _ _ _ _ _ _ h
  · refine (cm_83 ht h0).tr ?_
    rcases h with ⟨-, v1, m1, h1, h⟩ | ⟨-, v1, m1, h1, -, em⟩
    · rcases h with ⟨-, -, em⟩ | ⟨-, v2, m2, h2, v3, m3, h3, v4, m4, h4, -, em⟩
      · rw [em]; exact cm_88 ht h1
      · rw [em]; exact (((cm_88 ht h1).tr (cm_83 ht h2)).tr (cm_83 ht h3)).tr (cm_83 ht h4)
    · rw [em]; exact cm_83 ht h1
theorem cm_87 {tb : Nat} (ht : cm_tb tb) {k1 : Nat} {x1 x2 : Int} {m : dc_M} {v : Int} {m' : dc_M} (h : D_87 k1 x1 x2 m v m') : cm_Z tb m m' := by
  have key : ∀ (c : Nat) (l4 l5 : Int) (m : dc_M) (v : Int) (m' : dc_M), LM_87 k1 x1 x2 c 23 l4 l5 m v m' → cm_Z tb m m' := by
    intro c
    induction c with
    | zero => intro l4 l5 m v m' h; exact h.elim
    | succ c ih =>
      intro l4 l5 m v m' h
      replace h := lm_87_23.mp h
      rcases h with ⟨-, v1, m1, h1, -, em⟩ | ⟨-, h⟩
      · rw [em]; exact cm_83 ht h1
      · rcases h with ⟨-, v1, m1, h1, -, em⟩ | ⟨-, v1, m1, h1, h⟩
        · rw [em]; exact cm_83 ht h1
        · rcases h with ⟨-, m2, e2, h⟩ | ⟨-, m2, e2, h⟩ <;>
          · rcases h with ⟨-, h⟩ | ⟨-, v3, m3, h3, v4, m4, h4, m5, e5, h⟩
            · exact ((cm_88 ht h1).u9 e2 (fun z => cm_and0 _ _ z)).tr (ih _ _ _ _ _ h)
            · exact (((((cm_88 ht h1).u9 e2 (fun z => cm_and0 _ _ z)).tr (cm_83 ht h3)).tr (cm_83 ht h4)).uf e5 (by decide)).tr (ih _ _ _ _ _ h)
  obtain ⟨-, -, c, h⟩ := h
  exact key c _ _ _ _ _ h
theorem cm_85 {tb : Nat} (ht : cm_tb tb) {k1 : Nat} {x1 x2 : Int} {m : dc_M} {v : Int} {m' : dc_M} (h : D_85 k1 x1 x2 m v m') : cm_Z tb m m' := by
  have key : ∀ (c : Nat) (l4 l5 : Int) (m : dc_M) (v : Int) (m' : dc_M), LM_85 k1 x1 x2 c 6 l4 l5 m v m' → cm_Z tb m m' := by
    intro c
    induction c with
    | zero => intro l4 l5 m v m' h; exact h.elim
    | succ c ih =>
      intro l4 l5 m v m' h
      replace h := lm_85_6.mp h
      rcases h with ⟨-, -, em⟩ | ⟨-, h⟩
      · rw [em]; exact cm_Z.rf
      · rcases h with ⟨-, -, em⟩ | ⟨-, h⟩
        · rw [em]; exact cm_Z.rf
        · rcases h with ⟨-, h⟩ | ⟨-, h⟩
          · exact ih _ _ _ _ _ h
          · rcases h with ⟨-, v1, m1, h1, h⟩ | ⟨-, v1, m1, h1, h⟩
            · exact (cm_87 ht h1).tr (ih _ _ _ _ _ h)
            · exact (cm_86 ht h1).tr (ih _ _ _ _ _ h)
  obtain ⟨c, h⟩ := h
  exact key c _ _ _ _ _ h
/-! what is laid -/
def cm_R (m : dc_M) (R : List (Int × Int)) : Prop := m 46 7 = (R.length : Int) ∧ ∀ i : Nat, i < R.length → m 53 (i : Nat) = pl_hub (R.getD i (0, 0)).1 ∧ m 54 (i : Nat) = (R.getD i (0, 0)).2
def cm_S (tb : Nat) (m : dc_M) (s : pl_S) : Prop := pl_ok s ∧ m 46 10 = (tb : Int) ∧ ((m 46 9 = 1 ∧ cz_W m tb s.1 ∧ cm_R m s.2.1 ∧ m 46 8 = s.2.2.2 ∧ s.2.2.1 = false ∧ 0 ≤ s.2.2.2 ∧ s.2.2.2 ≤ 12) ∨ (m 46 9 = 0 ∧ pl_bad s))
theorem cm_S.not {tb : Nat} {m m' : dc_M} {s s' : pl_S} (S : cm_S tb m s) (h0 : m 46 9 = 0) (hz : cm_Z tb m m') (hm : (pl_bad s → pl_bad s') ∧ (pl_ok s → pl_ok s')) : cm_S tb m' s' := by
  obtain ⟨ok, e10, S⟩ := S
  obtain ⟨z1, z2, -⟩ := hz e10
  rcases S with ⟨c, -⟩ | ⟨-, b⟩
  · exfalso; omega
  · exact ⟨hm.2 ok, z1, Or.inr ⟨z2 h0, hm.1 b⟩⟩
theorem cm_lk {tb : Nat} (ht : cm_tb tb) {a b : Int} {m : dc_M} {v : Int} {m' : dc_M} {Wl : List (Int × Int)} (h : D_83 a b m v m') (e10 : m 46 10 = (tb : Int)) (c1 : m 46 9 = 1) (W : cz_W m tb Wl) : ((m' 46 9 = 1 ∧ Wl.length < 60 ∧ cz_W m' tb (Wl ++ [(a, b)])) ∨ (m' 46 9 = 0 ∧ Wl.length = 60)) ∧ (∀ (k : Nat) (i : Int), k ≠ 46 → k ≠ tb → k ≠ tb + 1 → k ≠ tb + 2 → m' k i = m k i) ∧ ∀ i : Int, i ≠ 9 → m' 46 i = m 46 i := by
  obtain ⟨v1, m1, h1, m2, e2, -, em⟩ := h
  rw [e10, Int.toNat_natCast] at h1
  obtain ⟨w01, f1⟩ := cm_2fr h1
  rw [c1, cm_and1 w01] at e2
  subst em
  refine ⟨?_, fun k i k1 k2 k3 k4 => by rw [e2, dc_up_k k1, f1 k i k2 k3 k4], fun i hi => by rw [e2, dc_up_i hi, f1 46 i (by ((try clear h); (try clear h1); (try clear h2); (try clear h3); (try clear h4); (try clear h5); (try clear h6); (try clear h7); (try clear h8); (try clear h9); omega)) (by ((try clear h); (try clear h1); (try clear h2); (try clear h3); (try clear h4); (try clear h5); (try clear h6); (try clear h7); (try clear h8); (try clear h9); omega)) (by ((try clear h); (try clear h1); (try clear h2); (try clear h3); (try clear h4); (try clear h5); (try clear h6); (try clear h7); (try clear h8); (try clear h9); omega))]⟩
  by_cases h60 : Wl.length < 60
  · obtain ⟨y1, W1, -⟩ := cz_add h1 W h60
    refine Or.inl ⟨by rw [e2, dc_up_s, y1], h60, ?_⟩
    obtain ⟨w1, w2, w3⟩ := W1
    refine ⟨by rw [e2, dc_up_k (by ((try clear h); (try clear h1); (try clear h2); (try clear h3); (try clear h4); (try clear h5); (try clear h6); (try clear h7); (try clear h8); (try clear h9); omega))]; exact w1, w2, fun i hi => ?_⟩
    rw [e2, dc_up_k (by ((try clear h); (try clear h1); (try clear h2); (try clear h3); (try clear h4); (try clear h5); (try clear h6); (try clear h7); (try clear h8); (try clear h9); omega)), dc_up_k (by ((try clear h); (try clear h1); (try clear h2); (try clear h3); (try clear h4); (try clear h5); (try clear h6); (try clear h7); (try clear h8); (try clear h9); omega))]; exact w3 i hi
  · have hl : Wl.length = 60 := by have := W.2.1; ((try clear h); (try clear h1); (try clear h2); (try clear h3); (try clear h4); (try clear h5); (try clear h6); (try clear h7); (try clear h8); (try clear h9); omega)
    rcases h1 with ⟨d1, -⟩ | ⟨d1, ev, -⟩
    · exfalso; rw [W.1] at d1; ((try clear h); (try clear h1); (try clear h2); (try clear h3); (try clear h4); (try clear h5); (try clear h6); (try clear h7); (try clear h8); (try clear h9); omega)
    · exact Or.inr ⟨by rw [e2, dc_up_s]; exact ev, hl⟩
theorem cm_link {tb : Nat} (ht : cm_tb tb) {a b a' b' : Int} {m : dc_M} {v : Int} {m' : dc_M} {s : pl_S} (h : D_83 a b m v m') (S : cm_S tb m s) (hab : m 46 9 = 1 → a = a' ∧ b = b') : cm_S tb m' (pl_lay s a' b') := by
  by_cases h0 : m 46 9 = 0
  · exact S.not h0 (cm_83 ht h) (pl_lay_mo a' b' s)
  · obtain ⟨ok, e10, S⟩ := S
    have Z := cm_83 ht h e10
    rcases S with ⟨c1, W, R, B, T, b0, b1⟩ | ⟨c1, -⟩
    · obtain ⟨ea, eb⟩ := hab c1
      subst ea eb
      obtain ⟨q, f1, f46⟩ := cm_lk ht h e10 c1 W
      refine ⟨ok, Z.1, ?_⟩
      rcases q with ⟨q1, q2, q3⟩ | ⟨q1, q2⟩
      · refine Or.inl ⟨q1, q3, ⟨by rw [f46 7 (by decide)]; exact R.1, fun i hi => ?_⟩, by rw [f46 8 (by decide)]; exact B, T, b0, b1⟩
        rw [f1 53 _ (by decide) (by ((try clear h); (try clear h1); (try clear h2); (try clear h3); (try clear h4); (try clear h5); (try clear h6); (try clear h7); (try clear h8); (try clear h9); omega)) (by ((try clear h); (try clear h1); (try clear h2); (try clear h3); (try clear h4); (try clear h5); (try clear h6); (try clear h7); (try clear h8); (try clear h9); omega)) (by ((try clear h); (try clear h1); (try clear h2); (try clear h3); (try clear h4); (try clear h5); (try clear h6); (try clear h7); (try clear h8); (try clear h9); omega)), f1 54 _ (by decide) (by ((try clear h); (try clear h1); (try clear h2); (try clear h3); (try clear h4); (try clear h5); (try clear h6); (try clear h7); (try clear h8); (try clear h9); omega)) (by ((try clear h); (try clear h1); (try clear h2); (try clear h3); (try clear h4); (try clear h5); (try clear h6); (try clear h7); (try clear h8); (try clear h9); omega)) (by ((try clear h); (try clear h1); (try clear h2); (try clear h3); (try clear h4); (try clear h5); (try clear h6); (try clear h7); (try clear h8); (try clear h9); omega))]
        exact R.2 i hi
      · refine Or.inr ⟨q1, Or.inr (Or.inl ?_)⟩
        show 60 < (s.1 ++ [(a, b)]).length
        rw [List.length_append]
        show 60 < s.1.length + 1
        ((try clear h); (try clear h1); (try clear h2); (try clear h3); (try clear h4); (try clear h5); (try clear h6); (try clear h7); (try clear h8); (try clear h9); omega)
    · exact absurd c1 h0
theorem pl_hub_inj {a b : Int} (ha : 1 ≤ a ∧ a ≤ 23) (hb : 1 ≤ b ∧ b ≤ 23) (h : pl_hub a = pl_hub b) : a = b := by
  unfold pl_hub at h
  split at h <;> split at h <;> omega
theorem pl_ix_s {R : List (Int × Int)} {why : Int} {i : Nat} (hi : i < R.length) : pl_ix (R.drop i) why i = if (R.getD i (0, 0)).1 = why ∧ (R.getD i (0, 0)).2 ≠ 3 then i else pl_ix (R.drop (i + 1)) why (i + 1) := by
  rw [pj_drop (0, 0) hi]; rfl
/-- the end of a relay's search -/
theorem cm_pe {tb : Nat} (ht : cm_tb tb) {why l2 : Int} {m : dc_M} {v : Int} {m' : dc_M} {s : pl_S} {l : Nat} (h : ((((l2 : Int) < 4 ∧ ((((l2 : Int) ≠ (m 46 7) ∧ ((0 ≤ (l2 : Int) ∧ (l2 : Int) < 4) ∧ ((0 ≤ (l2 : Int) ∧ (l2 : Int) < 4) ∧ ((0 ≤ (l2 : Int) ∧ (l2 : Int) < 4) ∧ ∃ m_103, m_103 = dc_up m 54 l2 (dc_w ((m 54 l2) + 1)) ∧ (v = (dc_w ((dc_w (l2 * 3)) + (m 54 l2))) ∧ m' = m_103))))) ∨ (¬ ((l2 : Int) ≠ (m 46 7)) ∧ ((0 ≤ (l2 : Int) ∧ (l2 : Int) < 4) ∧ ∃ m_128, m_128 = dc_up m 53 l2 (pl_hub why) ∧ ((0 ≤ (l2 : Int) ∧ (l2 : Int) < 4) ∧ ∃ m_149, m_149 = dc_up m_128 54 l2 0 ∧ (∃ m_172, m_172 = dc_up m_149 46 7 (dc_w ((m_149 46 7) + 1)) ∧ (∃ v_193 m_198, D_83 (pl_hub why) ((dc_w (144 + l2))) m_172 v_193 m_198 ∧ ((0 ≤ (l2 : Int) ∧ (l2 : Int) < 4) ∧ ((0 ≤ (l2 : Int) ∧ (l2 : Int) < 4) ∧ ((0 ≤ (l2 : Int) ∧ (l2 : Int) < 4) ∧ ∃ m_268, m_268 = dc_up m_198 54 l2 (dc_w ((m_198 54 l2) + 1)) ∧ (v = (dc_w ((dc_w (l2 * 3)) + (m_198 54 l2))) ∧ m' = m_268)))))))))))) ∨ (¬ ((l2 : Int) < 4) ∧ (∃ m_285, m_285 = dc_up m 46 9 0 ∧ (v = (-1) ∧ m' = m_285)))))) (S : cm_S tb m s) (h1 : m 46 9 = 1) (hw : 1 ≤ why ∧ why ≤ 23) (el : l2 = (l : Nat)) (hix : pl_ix s.2.1 why 0 = l) : cm_S tb m' (pl_pt s why).2 ∧ (m' 46 9 = 1 → v = (pl_pt s why).1) := by
  obtain ⟨ok, e10, S⟩ := S
  have okp := pl_pt_ok hw ok
  rcases S with ⟨-, W, R, B, T, b0, b1⟩ | ⟨c1, -⟩
  · have r := pl_ix_r s.2.1 why 0
    rw [R.1, el] at h
    rcases h with ⟨c4, h⟩ | ⟨c4, m9, e9, ev, em⟩
    · rcases h with ⟨c7, -, -, -, m3, e3, ev, em⟩ | ⟨c7, -, m3, e3, -, m4, e4, m5, e5, v6, m6, h6, -, -, -, m7, e7, ev, em⟩
      · have hl : l < s.2.1.length := by ((try clear h); (try clear h2); (try clear h3); (try clear h4); (try clear h5); (try clear h6); (try clear h7); (try clear h8); (try clear h9); omega)
        have q := ok.2 l hl
        obtain ⟨r1, r2⟩ := R.2 l hl
        have at0 := pl_ix_at s.2.1 why 0 (by ((try clear h); (try clear h2); (try clear h3); (try clear h4); (try clear h5); (try clear h6); (try clear h7); (try clear h8); (try clear h9); omega))
        rw [Nat.sub_zero, hix] at at0
        have ep : pl_pt s why = (3 * (l : Int) + (s.2.1.getD l (0, 0)).2, (s.1, s.2.1.set l (why, (s.2.1.getD l (0, 0)).2 + 1), s.2.2)) := by
          unfold pl_pt
          rw [hix, if_neg (by ((try clear h); (try clear h2); (try clear h3); (try clear h4); (try clear h5); (try clear h6); (try clear h7); (try clear h8); (try clear h9); omega)), if_neg (by ((try clear h); (try clear h2); (try clear h3); (try clear h4); (try clear h5); (try clear h6); (try clear h7); (try clear h8); (try clear h9); omega))]
        rw [r2, dc_w_eq (z := (s.2.1.getD l (0, 0)).2 + 1) (by unfold sv_I; ((try clear h); (try clear h2); (try clear h3); (try clear h4); (try clear h5); (try clear h6); (try clear h7); (try clear h8); (try clear h9); omega))] at e3
        rw [ep] at okp ⊢
        rw [em]
        refine ⟨⟨okp, by rw [e3, dc_up_k (by decide)]; exact e10, Or.inl ⟨by rw [e3, dc_up_k (by decide)]; exact h1, ?_, ⟨?_, fun i hi => ?_⟩, by rw [e3, dc_up_k (by decide)]; exact B, T, b0, b1⟩⟩, fun _ => ?_⟩
        · obtain ⟨w1, w2, w3⟩ := W
          refine ⟨by rw [e3, dc_up_k (by ((try clear h); (try clear h2); (try clear h3); (try clear h4); (try clear h5); (try clear h6); (try clear h7); (try clear h8); (try clear h9); omega))]; exact w1, w2, fun i hi => ?_⟩
          rw [e3, dc_up_k (by ((try clear h); (try clear h2); (try clear h3); (try clear h4); (try clear h5); (try clear h6); (try clear h7); (try clear h8); (try clear h9); omega)), dc_up_k (by ((try clear h); (try clear h2); (try clear h3); (try clear h4); (try clear h5); (try clear h6); (try clear h7); (try clear h8); (try clear h9); omega))]; exact w3 i hi
        · rw [e3, dc_up_k (by decide)]
          show _ = ((s.2.1.set l (why, (s.2.1.getD l (0, 0)).2 + 1)).length : Int)
          rw [List.length_set]; exact R.1
        · have hi : i < (s.2.1.set l (why, (s.2.1.getD l (0, 0)).2 + 1)).length := hi
          rw [List.length_set] at hi
          obtain ⟨x1, x2⟩ := R.2 i hi
          show m3 53 (i : Nat) = pl_hub ((s.2.1.set l (why, (s.2.1.getD l (0, 0)).2 + 1)).getD i (0, 0)).1 ∧ m3 54 (i : Nat) = ((s.2.1.set l (why, (s.2.1.getD l (0, 0)).2 + 1)).getD i (0, 0)).2
          rw [pl_gs hi, e3, dc_up_k (by decide)]
          by_cases ei : l = i
          · subst ei
            rw [if_pos rfl, dc_up_s]
            exact ⟨by rw [x1, at0.1], rfl⟩
          · rw [if_neg ei, dc_up_i (by ((try clear h); (try clear h2); (try clear h3); (try clear h4); (try clear h5); (try clear h6); (try clear h7); (try clear h8); (try clear h9); omega))]
            exact ⟨x1, x2⟩
        · rw [ev, r2, dc_w_eq (z := (l : Int) * 3) (by unfold sv_I; ((try clear h); (try clear h2); (try clear h3); (try clear h4); (try clear h5); (try clear h6); (try clear h7); (try clear h8); (try clear h9); omega)), dc_w_eq (by unfold sv_I; ((try clear h); (try clear h2); (try clear h3); (try clear h4); (try clear h5); (try clear h6); (try clear h7); (try clear h8); (try clear h9); omega))]
          show (l : Int) * 3 + _ = 3 * (l : Int) + _
          ((try clear h); (try clear h2); (try clear h3); (try clear h4); (try clear h5); (try clear h6); (try clear h7); (try clear h8); (try clear h9); omega)
      · have hl : l = s.2.1.length := by ((try clear h); (try clear h2); (try clear h3); (try clear h4); (try clear h5); (try clear h6); (try clear h7); (try clear h8); (try clear h9); omega)
        have ep : pl_pt s why = ((3 * (s.2.1.length : Int)), (s.1 ++ [(pl_hub why, 144 + (s.2.1.length : Int))], s.2.1 ++ [(why, 1)], s.2.2)) := by
          unfold pl_pt
          rw [hix, if_neg (by ((try clear h); (try clear h2); (try clear h3); (try clear h4); (try clear h5); (try clear h6); (try clear h7); (try clear h8); (try clear h9); omega)), if_pos hl]
        -- the relay is there, its point not yet
        have g5 : m4 46 7 = (s.2.1.length : Int) := by rw [e4, dc_up_k (by decide), e3, dc_up_k (by decide)]; exact R.1
        rw [g5, dc_w_eq (z := (s.2.1.length : Int) + 1) (by unfold sv_I; ((try clear h); (try clear h2); (try clear h3); (try clear h4); (try clear h5); (try clear h6); (try clear h7); (try clear h8); (try clear h9); omega))] at e5
        rw [dc_w_eq (z := 144 + ((l : Nat) : Int)) (by unfold sv_I; ((try clear h); (try clear h2); (try clear h3); (try clear h4); (try clear h5); (try clear h6); (try clear h7); (try clear h8); (try clear h9); omega))] at h6
        have f5 : ∀ (k : Nat) (i : Int), k ≠ 46 → k ≠ 53 → k ≠ 54 → m5 k i = m k i := fun k i k1 k2 k3 => by rw [e5, dc_up_k k1, e4, dc_up_k k3, e3, dc_up_k k2]
        have g46 : ∀ i : Int, i ≠ 7 → m5 46 i = m 46 i := fun i hi => by rw [e5, dc_up_i hi, e4, dc_up_k (by decide), e3, dc_up_k (by decide)]
        have W5 : cz_W m5 tb s.1 := by
          obtain ⟨w1, w2, w3⟩ := W
          refine ⟨by rw [f5 tb 2 (by ((try clear h); (try clear h2); (try clear h3); (try clear h4); (try clear h5); (try clear h6); (try clear h7); (try clear h8); (try clear h9); omega)) (by ((try clear h); (try clear h2); (try clear h3); (try clear h4); (try clear h5); (try clear h6); (try clear h7); (try clear h8); (try clear h9); omega)) (by ((try clear h); (try clear h2); (try clear h3); (try clear h4); (try clear h5); (try clear h6); (try clear h7); (try clear h8); (try clear h9); omega))]; exact w1, w2, fun i hi => ?_⟩
          rw [f5 (tb + 1) _ (by ((try clear h); (try clear h2); (try clear h3); (try clear h4); (try clear h5); (try clear h6); (try clear h7); (try clear h8); (try clear h9); omega)) (by ((try clear h); (try clear h2); (try clear h3); (try clear h4); (try clear h5); (try clear h6); (try clear h7); (try clear h8); (try clear h9); omega)) (by ((try clear h); (try clear h2); (try clear h3); (try clear h4); (try clear h5); (try clear h6); (try clear h7); (try clear h8); (try clear h9); omega)), f5 (tb + 2) _ (by ((try clear h); (try clear h2); (try clear h3); (try clear h4); (try clear h5); (try clear h6); (try clear h7); (try clear h8); (try clear h9); omega)) (by ((try clear h); (try clear h2); (try clear h3); (try clear h4); (try clear h5); (try clear h6); (try clear h7); (try clear h8); (try clear h9); omega)) (by ((try clear h); (try clear h2); (try clear h3); (try clear h4); (try clear h5); (try clear h6); (try clear h7); (try clear h8); (try clear h9); omega))]; exact w3 i hi
        obtain ⟨q, f6, f46⟩ := cm_lk ht h6 ((g46 10 (by decide)).trans e10) ((g46 9 (by decide)).trans h1) W5
        have z6 : m6 54 ((l : Nat) : Int) = 0 := by rw [f6 54 _ (by decide) (by ((try clear h); (try clear h2); (try clear h3); (try clear h4); (try clear h5); (try clear h6); (try clear h7); (try clear h8); (try clear h9); omega)) (by ((try clear h); (try clear h2); (try clear h3); (try clear h4); (try clear h5); (try clear h6); (try clear h7); (try clear h8); (try clear h9); omega)) (by ((try clear h); (try clear h2); (try clear h3); (try clear h4); (try clear h5); (try clear h6); (try clear h7); (try clear h8); (try clear h9); omega)), e5, dc_up_k (by decide), e4, dc_up_s]
        (try rw [el] at e7); (try rw [el] at ev)
        rw [z6, dc_w_eq (z := (0 : Int) + 1) (by unfold sv_I; decide)] at e7
        rw [ep] at okp ⊢
        rw [em]
        refine ⟨⟨okp, by rw [e7, dc_up_k (by decide), f46 10 (by decide), g46 10 (by decide)]; exact e10, ?_⟩, fun _ => ?_⟩
        · rcases q with ⟨q1, q2, q3⟩ | ⟨q1, q2⟩
          · refine Or.inl ⟨by rw [e7, dc_up_k (by decide)]; exact q1, ?_, ⟨?_, fun i hi => ?_⟩, by rw [e7, dc_up_k (by decide), f46 8 (by decide), g46 8 (by decide)]; exact B, T, b0, b1⟩
            · rw [hl] at q3
              obtain ⟨w1, w2, w3⟩ := q3
              refine ⟨by rw [e7, dc_up_k (by ((try clear h); (try clear h2); (try clear h3); (try clear h4); (try clear h5); (try clear h6); (try clear h7); (try clear h8); (try clear h9); omega))]; exact w1, w2, fun i hi => ?_⟩
              rw [e7, dc_up_k (by ((try clear h); (try clear h2); (try clear h3); (try clear h4); (try clear h5); (try clear h6); (try clear h7); (try clear h8); (try clear h9); omega)), dc_up_k (by ((try clear h); (try clear h2); (try clear h3); (try clear h4); (try clear h5); (try clear h6); (try clear h7); (try clear h8); (try clear h9); omega))]; exact w3 i hi
            · rw [e7, dc_up_k (by decide), f46 7 (by decide), e5, dc_up_s]
              show _ = ((s.2.1 ++ [(why, (1 : Int))]).length : Int)
              rw [List.length_append]; rfl
            · have hi : i < (s.2.1 ++ [(why, (1 : Int))]).length := hi
              rw [List.length_append] at hi
              have hi : i < s.2.1.length + 1 := hi
              show m7 53 (i : Nat) = pl_hub ((s.2.1 ++ [(why, (1 : Int))]).getD i (0, 0)).1 ∧ m7 54 (i : Nat) = ((s.2.1 ++ [(why, (1 : Int))]).getD i (0, 0)).2
              have a53 : m7 53 (i : Nat) = m3 53 (i : Nat) := by rw [e7, dc_up_k (by decide), f6 53 _ (by decide) (by ((try clear h); (try clear h2); (try clear h3); (try clear h4); (try clear h5); (try clear h6); (try clear h7); (try clear h8); (try clear h9); omega)) (by ((try clear h); (try clear h2); (try clear h3); (try clear h4); (try clear h5); (try clear h6); (try clear h7); (try clear h8); (try clear h9); omega)) (by ((try clear h); (try clear h2); (try clear h3); (try clear h4); (try clear h5); (try clear h6); (try clear h7); (try clear h8); (try clear h9); omega)), e5, dc_up_k (by decide), e4, dc_up_k (by decide)]
              by_cases z : i < s.2.1.length
              · obtain ⟨x1, x2⟩ := R.2 i z
                rw [pj_gl z, a53, e3, dc_up_i (by ((try clear h); (try clear h2); (try clear h3); (try clear h4); (try clear h5); (try clear h6); (try clear h7); (try clear h8); (try clear h9); omega)), e7, dc_up_i (by ((try clear h); (try clear h2); (try clear h3); (try clear h4); (try clear h5); (try clear h6); (try clear h7); (try clear h8); (try clear h9); omega)), f6 54 _ (by decide) (by ((try clear h); (try clear h2); (try clear h3); (try clear h4); (try clear h5); (try clear h6); (try clear h7); (try clear h8); (try clear h9); omega)) (by ((try clear h); (try clear h2); (try clear h3); (try clear h4); (try clear h5); (try clear h6); (try clear h7); (try clear h8); (try clear h9); omega)) (by ((try clear h); (try clear h2); (try clear h3); (try clear h4); (try clear h5); (try clear h6); (try clear h7); (try clear h8); (try clear h9); omega)), e5, dc_up_k (by decide), e4, dc_up_i (by ((try clear h); (try clear h2); (try clear h3); (try clear h4); (try clear h5); (try clear h6); (try clear h7); (try clear h8); (try clear h9); omega)), e3, dc_up_k (by decide)]
                exact ⟨x1, x2⟩
              · have z : i = l := by ((try clear h); (try clear h2); (try clear h3); (try clear h4); (try clear h5); (try clear h6); (try clear h7); (try clear h8); (try clear h9); omega)
                rw [show (s.2.1 ++ [(why, (1 : Int))]).getD i (0, 0) = (why, 1) by rw [z, hl, pj_gr], a53, e3, z, dc_up_s, e7, dc_up_s]
                exact ⟨rfl, rfl⟩
          · refine Or.inr ⟨by rw [e7, dc_up_k (by decide)]; exact q1, Or.inr (Or.inl ?_)⟩
            show 60 < (s.1 ++ [(pl_hub why, 144 + (s.2.1.length : Int))]).length
            rw [List.length_append]
            show 60 < s.1.length + 1
            ((try clear h); (try clear h2); (try clear h3); (try clear h4); (try clear h5); (try clear h6); (try clear h7); (try clear h8); (try clear h9); omega)
        · rw [ev, z6, dc_w_eq (z := (l : Int) * 3) (by unfold sv_I; ((try clear h); (try clear h2); (try clear h3); (try clear h4); (try clear h5); (try clear h6); (try clear h7); (try clear h8); (try clear h9); omega)), dc_w_eq (by unfold sv_I; ((try clear h); (try clear h2); (try clear h3); (try clear h4); (try clear h5); (try clear h6); (try clear h7); (try clear h8); (try clear h9); omega))]
          show (l : Int) * 3 + 0 = 3 * (s.2.1.length : Int)
          ((try clear h); (try clear h2); (try clear h3); (try clear h4); (try clear h5); (try clear h6); (try clear h7); (try clear h8); (try clear h9); omega)
    · have ep : pl_pt s why = (0, (s.1, s.2.1, true, s.2.2.2)) := by
        unfold pl_pt
        rw [hix, if_pos (by have := ok.1; ((try clear h); (try clear h2); (try clear h3); (try clear h4); (try clear h5); (try clear h6); (try clear h7); (try clear h8); (try clear h9); omega))]
      rw [ep] at okp ⊢
      rw [em]
      refine ⟨⟨okp, by rw [e9, dc_up_i (by decide)]; exact e10, Or.inr ⟨by rw [e9, dc_up_s], Or.inl rfl⟩⟩, fun z => ?_⟩
      rw [e9, dc_up_s] at z
      exact absurd z (by decide)
  · exfalso; ((try clear h); (try clear h2); (try clear h3); (try clear h4); (try clear h5); (try clear h6); (try clear h7); (try clear h8); (try clear h9); omega)
theorem cm_S1 {tb : Nat} {m : dc_M} {s : pl_S} (S : cm_S tb m s) (h : ¬ m 46 9 = 0) : m 46 9 = 1 ∧ cz_W m tb s.1 ∧ cm_R m s.2.1 ∧ m 46 8 = s.2.2.2 ∧ s.2.2.1 = false ∧ 0 ≤ s.2.2.2 ∧ s.2.2.2 ≤ 12 := by
  rcases S.2.2 with c | ⟨c, -⟩
  · exact c
  · exact absurd c h
theorem cm_S01 {tb : Nat} {m : dc_M} {s : pl_S} (S : cm_S tb m s) : m 46 9 = 0 ∨ m 46 9 = 1 := by
  rcases S.2.2 with ⟨c, -⟩ | ⟨c, -⟩
  · exact Or.inr c
  · exact Or.inl c
/-- the next point of a relay -/
theorem cm_point {tb : Nat} (ht : cm_tb tb) {why : Int} {m : dc_M} {v : Int} {m' : dc_M} {s : pl_S} (h : D_88 (pl_hub why) m v m') (S : cm_S tb m s) (hw : 1 ≤ why ∧ why ≤ 23) : cm_S tb m' (pl_pt s why).2 ∧ (m' 46 9 = 1 → v = (pl_pt s why).1) := by
  by_cases h0 : m 46 9 = 0
  · exact ⟨S.not h0 (cm_88 ht h) ⟨pl_pt_bad, pl_pt_ok hw⟩, fun z => by have := (cm_88 ht h S.2.1).2.1 h0; ((try clear h); (try clear h1); (try clear h2); (try clear h3); (try clear h4); (try clear h5); (try clear h6); (try clear h7); (try clear h8); (try clear h9); omega)⟩
  · obtain ⟨h1, -, R, -⟩ := cm_S1 S h0
    obtain ⟨c, h⟩ := h
    have key : ∀ (c : Nat) (l : Nat), LM_88 (pl_hub why) c 2 (l : Nat) m v m' → l ≤ s.2.1.length → pl_ix (s.2.1.drop l) why l = pl_ix s.2.1 why 0 → cm_S tb m' (pl_pt s why).2 ∧ (m' 46 9 = 1 → v = (pl_pt s why).1) := by
      intro c
      induction c with
      | zero => intro l h; exact h.elim
      | succ c ih =>
        intro l h hl hix
        replace h := lm_88_2.mp h
        rcases h with ⟨c1, h⟩ | ⟨c1, -, h⟩
        · rw [R.1] at c1
          exact cm_pe ht h S h1 hw rfl (by rw [← hix, List.drop_eq_nil_of_le (by ((try clear h); (try clear h1); (try clear h2); (try clear h3); (try clear h4); (try clear h5); (try clear h6); (try clear h7); (try clear h8); (try clear h9); omega))]; rfl)
        · rw [R.1] at c1
          have hlt : l < s.2.1.length := by (clear h; (try clear h); (try clear h1); (try clear h2); (try clear h3); (try clear h4); (try clear h5); (try clear h6); (try clear h7); (try clear h8); (try clear h9); omega)
          obtain ⟨r1, r2⟩ := R.2 l hlt
          have q := S.1.2 l hlt
          have l4 := S.1.1
          have nxt : LM_88 (pl_hub why) c 2 (dc_w ((l : Nat) + 1)) m v m' → ¬ ((s.2.1.getD l (0, 0)).1 = why ∧ (s.2.1.getD l (0, 0)).2 ≠ 3) → cm_S tb m' (pl_pt s why).2 ∧ (m' 46 9 = 1 → v = (pl_pt s why).1) := by
            intro h hn
            rw [dc_w_eq (z := ((l : Nat) : Int) + 1) (by unfold sv_I; (clear h; (try clear h); (try clear h1); (try clear h2); (try clear h3); (try clear h4); (try clear h5); (try clear h6); (try clear h7); (try clear h8); (try clear h9); omega)), show ((l : Nat) : Int) + 1 = ((l + 1 : Nat) : Int) from rfl] at h
            exact ih (l + 1) h (by (clear h; (try clear h); (try clear h1); (try clear h2); (try clear h3); (try clear h4); (try clear h5); (try clear h6); (try clear h7); (try clear h8); (try clear h9); omega)) (by rw [← hix, pl_ix_s hlt, if_neg hn])
          rcases h with ⟨c2, h⟩ | ⟨c2, -, h⟩
          · exact nxt h (fun z => c2 (by rw [r1, z.1]))
          · have ew : (s.2.1.getD l (0, 0)).1 = why := pl_hub_inj q.1 hw (by rw [← r1]; exact Decidable.not_not.mp c2)
            rcases h with ⟨c3, h⟩ | ⟨c3, h⟩
            · rw [r2] at c3
              exact cm_pe ht h S h1 hw rfl (by rw [← hix, pl_ix_s hlt, if_pos ⟨ew, by (clear h; (try clear h); (try clear h1); (try clear h2); (try clear h3); (try clear h4); (try clear h5); (try clear h6); (try clear h7); (try clear h8); (try clear h9); omega)⟩])
            · rw [r2] at c3
              exact nxt h (fun z => by (clear h; (try clear h); (try clear h1); (try clear h2); (try clear h3); (try clear h4); (try clear h5); (try clear h6); (try clear h7); (try clear h8); (try clear h9); omega))
    exact key c 0 h (Nat.zero_le _) rfl
/-- the JOB stays -/
theorem cj_J.fr {tb k1 : Nat} {m m' : dc_M} {J : pj_J} (hJ : cj_J m k1 J) (ht : cm_tb tb) (hk : k1 = 96 ∨ k1 = 105) (f : cm_fr tb m m') : cj_J m' k1 J := by
  have g : ∀ (q : Nat) (i : Int), q ≤ 8 → m' (k1 + q) i = m (k1 + q) i := fun q i hq => f.1 (k1 + q) i (by omega) (by omega) (by omega) (by omega) (by omega) (by omega)
  obtain ⟨⟨f0, f1⟩, b, w0, w1⟩ := hJ
  refine ⟨⟨(g 0 3 (by decide)).trans f0, fun i hi => ?_⟩, fun o h1 h3 => (g 4 o (by decide)).trans (b o h1 h3), (g 0 9 (by decide)).trans w0, fun i hi => ?_⟩
  · rw [g 1 _ (by decide), g 2 _ (by decide), g 3 _ (by decide)]; exact f1 i hi
  · rw [g 5 _ (by decide), g 6 _ (by decide), g 7 _ (by decide), g 8 _ (by decide)]; exact w1 i hi
theorem cm_bkl {tb k1 : Nat} (ht : cm_tb tb) (hk : k1 = 96 ∨ k1 = 105) {J : pj_J} (ok : pj_ok J) : ∀ (c n : Nat) (j o : Int) (m : dc_M) (v : Int) (m' : dc_M) (s : pl_S), LM_84 k1 c 4 j o m v m' → cm_S tb m s → cj_J m k1 J → o + n = 4 → 1 ≤ o → 0 ≤ j → j < o → cm_S tb m' (pl_bk J.2.1 n o (s, j)) := by
  intro c
  induction c with
  | zero => intro n j o m v m' s h; exact h.elim
  | succ c ih =>
    intro n j o m v m' s h S hJ hn ho hj0 hj
    replace h := lm_84_4.mp h
    rcases h with ⟨c1, -, em⟩ | ⟨c1, -, h⟩
    · have : n = 0 := by omega
      subst this
      rw [em]; exact S
    · obtain ⟨n, rfl⟩ : ∃ q, n = q + 1 := ⟨n - 1, by clear h; omega⟩
      have eb := hJ.2.1 o ho (by clear h; omega)
      have bb := ok.2.2.1 o
      rw [eb] at h
      show cm_S tb m' (pl_bk J.2.1 n (o + 1) (pl_b1 J.2.1 (s, j) o))
      unfold pl_b1
      rcases h with ⟨c2, h⟩ | ⟨c2, v1, m1, h1, v2, m2, h2, v3, m3, h3, h⟩
      · rw [if_pos c2]
        rw [dc_w_eq (z := o + 1) (by unfold sv_I; clear h; omega)] at h
        exact ih n j (o + 1) m v m' s h S hJ (by clear h; omega) (by clear h; omega) hj0 (by clear h; omega)
      · rw [if_neg c2]
        rw [dc_w_eq (z := o + 1) (by unfold sv_I; clear h h1 h2 h3; omega), dc_w_eq (z := j + 1) (by unfold sv_I; clear h h1 h2 h3; omega)] at h
        have S1 := cm_link (a' := J.2.1 o - 1) (b' := 148 + j) ht h1 S (fun _ => ⟨by rw [dc_w_eq (z := 0 + J.2.1 o) (by unfold sv_I; clear h h1 h2 h3; omega), dc_w_eq (by unfold sv_I; clear h h1 h2 h3; omega)]; clear h h1 h2 h3; omega, dc_w_eq (by unfold sv_I; clear h h1 h2 h3; omega)⟩)
        have S2 := cm_link (a' := 20 + J.2.1 o - 1) (b' := 152 + j) ht h2 S1 (fun _ => ⟨by rw [dc_w_eq (z := 20 + J.2.1 o) (by unfold sv_I; clear h h1 h2 h3; omega), dc_w_eq (by unfold sv_I; clear h h1 h2 h3; omega)], dc_w_eq (by unfold sv_I; clear h h1 h2 h3; omega)⟩)
        have S3 := cm_link (a' := 61 + j) (b' := 156 + o - 1) ht h3 S2 (fun _ => ⟨dc_w_eq (by unfold sv_I; clear h h1 h2 h3; omega), by rw [dc_w_eq (z := 156 + o) (by unfold sv_I; clear h h1 h2 h3; omega), dc_w_eq (by unfold sv_I; clear h h1 h2 h3; omega)]⟩)
        have J3 := hJ.fr ht hk ((((cm_83 ht h1).tr (cm_83 ht h2)).tr (cm_83 ht h3)) S.2.1).2.2
        exact ih n (j + 1) (o + 1) m3 v m' _ h S3 J3 (by clear h h1 h2 h3; omega) (by clear h h1 h2 h3; omega) (by clear h h1 h2 h3; omega) (by clear h h1 h2 h3; omega)
theorem cm_ov {tb k1 : Nat} (ht : cm_tb tb) {x1 x2 o : Int} {m : dc_M} {v : Int} {m' : dc_M} {s : pl_S} (h : (((((m (k1 + 8) x1) : Int) ≠ 0 ∧ (∃ v_476 m_481, D_88 ((dc_w ((dc_w (40 + (m (k1 + 8) x1))) - 1))) m v_476 m_481 ∧ ((((v_476 : Int) = (-1) ∧ (v = 0 ∧ m' = m_481)) ∨ (¬ ((v_476 : Int) = (-1)) ∧ (∃ v_527 m_532, D_83 60 ((dc_w (181 + v_476))) m_481 v_527 m_532 ∧ (∃ v_561 m_566, D_83 ((dc_w (193 + v_476))) ((dc_w (120 + x2))) m_532 v_561 m_566 ∧ (∃ v_595 m_600, D_83 ((dc_w (205 + v_476))) ((dc_w (124 + x2))) m_566 v_595 m_600 ∧ (v = 0 ∧ m' = m_600))))))))) ∨ (¬ (((m (k1 + 8) x1) : Int) ≠ 0) ∧ (∃ v_624 m_629, D_83 60 ((dc_w (120 + x2))) m v_624 m_629 ∧ (v = 0 ∧ m' = m_629)))))) (S : cm_S tb m s) (eo : m (k1 + 8) x1 = o) (ho : 0 ≤ o ∧ o ≤ 20) (hv : 0 ≤ x2 ∧ x2 ≤ 8) : cm_S tb m' (pl_ov o x2 s) := by
  rw [eo] at h
  unfold pl_ov
  rcases h with ⟨c1, v1, m1, h1, h⟩ | ⟨c1, v1, m1, h1, -, em⟩
  · rw [if_neg c1]
    have eh : dc_w (dc_w (40 + o) - 1) = pl_hub o := by
      unfold pl_hub
      rw [if_pos ho.2, dc_w_eq (z := 40 + o) (by unfold sv_I; clear h h1; omega), dc_w_eq (by unfold sv_I; clear h h1; omega)]
    rw [eh] at h1
    obtain ⟨S1, q1⟩ := cm_point ht h1 S (by clear h h1; omega)
    have r := pl_pt_r (why := o) S.1
    rcases h with ⟨c2, -, em⟩ | ⟨c2, v2, m2, h2, v3, m3, h3, v4, m4, h4, -, em⟩
    · have z0 : m1 46 9 = 0 := by
        rcases cm_S01 S1 with z | z
        · exact z
        · have := q1 z
          exfalso; clear h1; omega
      rw [em]
      exact S1.not z0 cm_Z.rf ((((pl_lay_mo _ _).tr (pl_lay_mo _ _)).tr (pl_lay_mo _ _)) _)
    · have Z2 := cm_83 ht h2 S1.2.1
      have Z3 := cm_83 ht h3 Z2.1
      have b1 : m2 46 9 = 1 → m1 46 9 = 1 := fun z => by
        rcases cm_S01 S1 with y | y
        · have := Z2.2.1 y; exfalso; clear h2 h3 h4; omega
        · exact y
      have S2 := cm_link (a' := 60) (b' := 181 + (pl_pt s o).1) ht h2 S1 (fun z => ⟨rfl, by rw [q1 z]; exact dc_w_eq (by unfold sv_I; clear h1 h2 h3 h4; omega)⟩)
      have b2 : m3 46 9 = 1 → m2 46 9 = 1 := fun z => by
        rcases cm_S01 S2 with y | y
        · have := Z3.2.1 y; exfalso; clear h2 h3 h4; omega
        · exact y
      have S3 := cm_link (a' := 193 + (pl_pt s o).1) (b' := 120 + x2) ht h3 S2 (fun z => ⟨by rw [q1 (b1 z)]; exact dc_w_eq (by unfold sv_I; clear h1 h2 h3 h4; omega), dc_w_eq (by unfold sv_I; clear h1 h2 h3 h4; omega)⟩)
      have S4 := cm_link (a' := 205 + (pl_pt s o).1) (b' := 124 + x2) ht h4 S3 (fun z => ⟨by rw [q1 (b1 (b2 z))]; exact dc_w_eq (by unfold sv_I; clear h1 h2 h3 h4; omega), dc_w_eq (by unfold sv_I; clear h1 h2 h3 h4; omega)⟩)
      rw [em]; exact S4
  · rw [if_pos (by clear h1; omega), em]
    exact cm_link ht h1 S (fun _ => ⟨rfl, dc_w_eq (by unfold sv_I; clear h1; omega)⟩)
theorem cm_add {tb k1 : Nat} (ht : cm_tb tb) (hk : k1 = 96 ∨ k1 = 105) {J : pj_J} (ok : pj_ok J) {x2 : Int} {i : Nat} {m : dc_M} {v : Int} {m' : dc_M} {s : pl_S} (h : D_86 k1 (i : Nat) x2 m v m') (S : cm_S tb m s) (hJ : cj_J m k1 J) (hi : i < J.2.2.length) (hv : 0 ≤ x2 ∧ x2 ≤ 8) : cm_S tb m' (pl_add J.1 (J.2.2.getD i (0, 0, 0, 0)) x2 s) := by
  obtain ⟨w1, w2, w3, w4⟩ := hJ.2.2.2 i hi
  obtain ⟨k1', -, -, k4⟩ := ok.2.2.2.2 _ (pj_gm (d := (0, 0, 0, 0)) hi)
  have l8 := ok.2.2.2.1
  have l6 := ok.1
  unfold pl_add pl_fd
  obtain ⟨-, h⟩ := h
  rw [w1] at h
  rcases h with ⟨c1, -, c, h⟩ | ⟨c1, v0, m0, h0, -, h⟩
  · have hf : 0 ≤ (J.2.2.getD i (0, 0, 0, 0)).1 ∧ (J.2.2.getD i (0, 0, 0, 0)).1 < J.1.length := by clear h; omega
    rw [if_neg (by clear h; omega)]
    obtain ⟨f, ef⟩ : ∃ f : Nat, (J.2.2.getD i (0, 0, 0, 0)).1 = f := ⟨(J.2.2.getD i (0, 0, 0, 0)).1.toNat, by clear h; omega⟩
    rw [ef] at h hf ⊢
    rw [Int.toNat_natCast]
    have hfl : f < J.1.length := by clear h; omega
    obtain ⟨-, f2, f3⟩ := hJ.1.2 f hfl
    obtain ⟨-, g1, g2, g3, g5⟩ := ok.2.1 _ (pj_gm (d := ([], 0, 0)) hfl)
    rw [f3] at h
    have key : ∀ (c n : Nat) (l6 : Int) (m : dc_M) (s : pl_S), LM_86 k1 (i : Nat) x2 c 43 (f : Nat) (J.1.getD f ([], 0, 0)).2.2 l6 m v m' → cm_S tb m s → cj_J m k1 J → l6 = (J.1.getD f ([], 0, 0)).2.1 + n - 1 → n ≤ 6 → cm_S tb m' (pl_ov (J.2.2.getD i (0, 0, 0, 0)).2.2.2 x2 (pl_dg (J.1.getD f ([], 0, 0)).2.2 x2 n ((J.1.getD f ([], 0, 0)).2.2 - l6) s)) := by
      intro c
      induction c with
      | zero => intro n l6 m s h; exact h.elim
      | succ c ih =>
        intro n l6 m s h S hJ hn hn6
        obtain ⟨-, f2, f3⟩ := hJ.1.2 f hfl
        replace h := lm_86_43.mp h
        obtain ⟨-, h⟩ := h
        rw [f2] at h
        rcases h with ⟨c1, -, h⟩ | ⟨c1, v1, m1, h1, h⟩
        · have : n = 0 := by clear h; omega
          subst this
          exact cm_ov ht h S (hJ.2.2.2 i hi).2.2.2 k4 hv
        · obtain ⟨n, rfl⟩ : ∃ q, n = q + 1 := ⟨n - 1, by clear h h1; omega⟩
          rw [dc_w_eq (z := l6 + (-1)) (by unfold sv_I; clear h h1; omega)] at h
          have S1 := cm_link (a' := (J.1.getD f ([], 0, 0)).2.2 - ((J.1.getD f ([], 0, 0)).2.2 - l6) - 1) (b' := 96 + 6 * x2 + ((J.1.getD f ([], 0, 0)).2.2 - l6)) ht h1 S (fun _ => ⟨by
            rw [dc_w_eq (z := 0 + l6) (by unfold sv_I; clear h h1; omega), dc_w_eq (by unfold sv_I; clear h h1; omega)]; clear h h1; omega, by
            rw [dc_w_eq (z := x2 * 6) (by unfold sv_I; clear h h1; omega), dc_w_eq (z := 96 + x2 * 6) (by unfold sv_I; clear h h1; omega), dc_w_eq (z := 96 + x2 * 6 + (J.1.getD f ([], 0, 0)).2.2) (by unfold sv_I; clear h h1; omega), dc_w_eq (by unfold sv_I; clear h h1; omega)]; clear h h1; omega⟩)
          have J1 := hJ.fr ht hk (cm_83 ht h1 S.2.1).2.2
          have fin := ih n (l6 + (-1)) m1 _ h S1 J1 (by clear h h1; omega) (by clear h h1; omega)
          rw [show (J.1.getD f ([], 0, 0)).2.2 - (l6 + (-1)) = (J.1.getD f ([], 0, 0)).2.2 - l6 + 1 by clear h h1; omega] at fin
          exact fin
    have fin := key c ((J.1.getD f ([], 0, 0)).2.2 - (J.1.getD f ([], 0, 0)).2.1 + 1).toNat _ m s h S hJ (by clear h; omega) (by clear h; omega)
    rw [Int.sub_self] at fin
    exact fin
  · have e1 : (J.2.2.getD i (0, 0, 0, 0)).1 = -1 := by clear h h0; omega
    rw [if_pos (by rw [e1]; decide)]
    have S0 := cm_link (a' := 60) (b' := 96 + 6 * x2) ht h0 S (fun _ => ⟨rfl, by rw [dc_w_eq (z := x2 * 6) (by unfold sv_I; clear h h0; omega), dc_w_eq (by unfold sv_I; clear h h0; omega)]; clear h h0; omega⟩)
    have J0 := hJ.fr ht hk (cm_83 ht h0 S.2.1).2.2
    exact cm_ov ht h S0 (J0.2.2.2 i hi).2.2.2 k4 hv
theorem cm_prl {tb k1 : Nat} (ht : cm_tb tb) {x1 x2 o : Int} (ho : 1 ≤ o ∧ o ≤ 3) (hv : 0 ≤ x2 ∧ x2 ≤ 8) : ∀ (c n : Nat) (l5 : Int) (m : dc_M) (v : Int) (m' : dc_M) (s : pl_S), LM_87 k1 x1 x2 c 23 (65 + o - 1) l5 m v m' → cm_S tb m s → l5 = (n : Int) - 1 → n ≤ 6 → cm_S tb m' (pl_lay (pl_pr o x2 n s) (65 + o - 1) (128 + x2)) := by
  have eh : (65 + o - 1) = pl_hub (20 + o) := by
    unfold pl_hub
    rw [if_neg (by omega)]; omega
  intro c
  induction c with
  | zero => intro n l5 m v m' s h; exact h.elim
  | succ c ih =>
    intro n l5 m v m' s h S hn hn6
    replace h := lm_87_23.mp h
    have el : ∀ z : Int, z = x2 → dc_w (128 + z) = 128 + x2 := fun z e => by rw [e]; exact dc_w_eq (by unfold sv_I; clear h; omega)
    rcases h with ⟨c1, v1, m1, h1, -, em⟩ | ⟨c1, h⟩
    · have : n = 0 := by omega
      subst this
      rw [em]
      exact cm_link ht h1 S (fun _ => ⟨rfl, el _ rfl⟩)
    · obtain ⟨n, rfl⟩ : ∃ q, n = q + 1 := ⟨n - 1, by clear h; omega⟩
      rcases h with ⟨c2, v1, m1, h1, -, em⟩ | ⟨c2, v1, m1, h1, h⟩
      · rw [em]
        exact S.not c2 (cm_83 ht h1) (((pl_pr_mo ho (n + 1)).tr (pl_lay_mo _ _)) s)
      · rw [eh] at h1
        obtain ⟨S1, q1⟩ := cm_point ht h1 S (by clear h h1; omega)
        have r := pl_pt_r (why := 20 + o) S.1
        have el5 : l5 = (n : Int) := by clear h h1; omega
        have pb : (pl_pt s (20 + o)).2.2.2.2 = s.2.2.2 := pl_pt_bar
        have Z1 := cm_88 ht h1 S.2.1
        obtain ⟨-, -, -, B0, -⟩ := cm_S1 S c2
        have nx : dc_w (l5 + (-1)) = (n : Int) - 1 := by rw [el5, dc_w_eq (by unfold sv_I; clear h h1; omega)]; clear h h1; omega
        rw [nx] at h
        show cm_S tb m' (pl_lay (pl_pr o x2 n (pl_p1 o x2 n s)) (65 + o - 1) (128 + x2))
        have okn : pl_ok (pl_p1 o x2 n s) := (pl_p1_mo ho n s).2 S.1
        have badn : pl_bad (pl_pt s (20 + o)).2 → pl_bad (pl_p1 o x2 n s) := fun z => pl_bar_bad (pl_lay_bad (pl_lay_bad z))
        rcases h with ⟨c3, m2, e2, h⟩ | ⟨c3, m2, e2, h⟩
        · have z2 : m2 46 9 = 0 := by
            rw [e2, dc_up_s, show sv_u 0 = 0 by decide, Nat.and_zero]; decide
          have S2 : cm_S tb m2 (pl_p1 o x2 n s) := by
            refine ⟨okn, by rw [e2, dc_up_i (by decide)]; exact S1.2.1, Or.inr ⟨z2, ?_⟩⟩
            rcases S1.2.2 with ⟨-, -, -, B, -, b0, b1⟩ | ⟨-, b⟩
            · refine Or.inr (Or.inr ?_)
              show 12 < (pl_pt s (20 + o)).2.2.2.2 + 1
              clear h h1; omega
            · exact badn b
          rcases h with ⟨-, h⟩ | ⟨c4, -⟩
          · exact ih n _ m2 v m' _ h S2 rfl (by clear h h1; omega)
          · exact absurd z2 c4
        · have e9 : m2 46 9 = m1 46 9 := by
            rw [e2, dc_up_s]
            rcases cm_S01 S1 with z | z
            · rw [z]; decide
            · rw [z]; decide
          rcases h with ⟨c4, h⟩ | ⟨c4, v3, m3, h3, v4, m4, h4, m5, e5, h⟩
          · have z1 : m1 46 9 = 0 := e9.symm.trans c4
            refine ih n _ m2 v m' _ h ⟨okn, by rw [e2, dc_up_i (by decide)]; exact S1.2.1, Or.inr ⟨c4, ?_⟩⟩ rfl (by clear h h1; omega)
            rcases S1.2.2 with ⟨y, -⟩ | ⟨-, b⟩
            · exfalso; clear h h1; omega
            · exact badn b
          · have n1 : ¬ m1 46 9 = 0 := fun z => c4 (e9.trans z)
            obtain ⟨y1, W1, R1, B1, T1, b0, b1⟩ := cm_S1 S1 n1
            have S2 : cm_S tb m2 (pl_pt s (20 + o)).2 := by
              have f2 : ∀ (k : Nat) (i : Int), k ≠ 46 → m2 k i = m1 k i := fun k i hk => by rw [e2, dc_up_k hk]
              refine ⟨S1.1, by rw [e2, dc_up_i (by decide)]; exact S1.2.1, Or.inl ⟨e9.trans y1, ?_, ⟨by rw [e2, dc_up_i (by decide)]; exact R1.1, fun i hi => ?_⟩, by rw [e2, dc_up_i (by decide)]; exact B1, T1, b0, b1⟩⟩
              · obtain ⟨w1, w2, w3⟩ := W1
                refine ⟨by rw [f2 tb 2 (by clear h h1 h3 h4; omega)]; exact w1, w2, fun i hi => ?_⟩
                rw [f2 (tb + 1) _ (by clear h h1 h3 h4; omega), f2 (tb + 2) _ (by clear h h1 h3 h4; omega)]; exact w3 i hi
              · rw [f2 53 _ (by decide), f2 54 _ (by decide)]; exact R1.2 i hi
            have ev := q1 y1
            have B2 : m2 46 8 = s.2.2.2 := by rw [e2, dc_up_i (by decide), B1, pb]
            have b12 : s.2.2.2 < 12 := by rw [B1, pb] at c3; clear h h1 h3 h4; omega
            have s0 : 0 ≤ s.2.2.2 := by rw [pb] at b0; exact b0
            obtain ⟨-, g3, g46⟩ := cm_lk ht h3 S2.2.1 (e9.trans y1) (by rcases S2.2.2 with ⟨-, w, -⟩ | ⟨z, -⟩; exact w; exact absurd z c4)
            have B3 : m3 46 8 = s.2.2.2 := (g46 8 (by decide)).trans B2
            have S3 := cm_link (a' := 68 + 6 * x2 + (n : Int)) (b' := 181 + (pl_pt s (20 + o)).1) ht h3 S2 (fun _ => ⟨by rw [el5, dc_w_eq (z := x2 * 6) (by unfold sv_I; clear h h1 h3 h4; omega), dc_w_eq (z := 68 + x2 * 6) (by unfold sv_I; clear h h1 h3 h4; omega), dc_w_eq (by unfold sv_I; clear h h1 h3 h4; omega)]; clear h h1 h3 h4; omega, by rw [ev]; exact dc_w_eq (by unfold sv_I; clear h h1 h3 h4; omega)⟩)
            have S4 := cm_link (a' := 205 + (pl_pt s (20 + o)).1) (b' := 132 + s.2.2.2) ht h4 S3 (fun _ => ⟨by rw [ev]; exact dc_w_eq (by unfold sv_I; clear h h1 h3 h4; omega), by rw [B3]; exact dc_w_eq (by unfold sv_I; clear h h1 h3 h4; omega)⟩)
            have S5 : cm_S tb m5 (pl_p1 o x2 n s) := by
              have f5 : ∀ (k : Nat) (i : Int), k ≠ 46 → m5 k i = m4 k i := fun k i hk => by rw [e5, dc_up_k hk]
              refine ⟨okn, by rw [e5, dc_up_i (by decide)]; exact S4.2.1, ?_⟩
              rcases S4.2.2 with ⟨x1, W, R, B, T, d0, d1⟩ | ⟨x1, b⟩
              · have B : m4 46 8 = (pl_pt s (20 + o)).2.2.2.2 := B
                refine Or.inl ⟨by rw [e5, dc_up_i (by decide)]; exact x1, ?_, ⟨by rw [e5, dc_up_i (by decide)]; exact R.1, fun i hi => ?_⟩, ?_, T, ?_, ?_⟩
                · obtain ⟨w1, w2, w3⟩ := W
                  refine ⟨by rw [f5 tb 2 (by clear h h1 h3 h4; omega)]; exact w1, w2, fun i hi => ?_⟩
                  rw [f5 (tb + 1) _ (by clear h h1 h3 h4; omega), f5 (tb + 2) _ (by clear h h1 h3 h4; omega)]; exact w3 i hi
                · rw [f5 53 _ (by decide), f5 54 _ (by decide)]; exact R.2 i hi
                · rw [e5, dc_up_s, B, pb]
                  show dc_w (s.2.2.2 + 1) = (pl_pt s (20 + o)).2.2.2.2 + 1
                  rw [pb]; exact dc_w_eq (by unfold sv_I; clear h h1 h3 h4; omega)
                · show 0 ≤ (pl_pt s (20 + o)).2.2.2.2 + 1
                  rw [pb]; clear h h1 h3 h4; omega
                · show (pl_pt s (20 + o)).2.2.2.2 + 1 ≤ 12
                  rw [pb]; clear h h1 h3 h4; omega
              · exact Or.inr ⟨by rw [e5, dc_up_i (by decide)]; exact x1, pl_bar_bad b⟩
            exact ih n _ m5 v m' _ h S5 rfl (by clear h h1 h3 h4; omega)
theorem cm_prt {tb k1 : Nat} (ht : cm_tb tb) {J : pj_J} (ok : pj_ok J) {x2 : Int} {i : Nat} {m : dc_M} {v : Int} {m' : dc_M} {s : pl_S} (h : D_87 k1 (i : Nat) x2 m v m') (S : cm_S tb m s) (hJ : cj_J m k1 J) (hi : i < J.2.2.length) (hv : 0 ≤ x2 ∧ x2 ≤ 8) : cm_S tb m' (pl_prt (J.2.2.getD i (0, 0, 0, 0)) x2 s) := by
  obtain ⟨w1, w2, w3, w4⟩ := hJ.2.2.2 i hi
  obtain ⟨-, k2, k3, -⟩ := ok.2.2.2.2 _ (pj_gm (d := (0, 0, 0, 0)) hi)
  obtain ⟨-, -, c, h⟩ := h
  rw [w2, w3, dc_w_eq (z := 65 + (J.2.2.getD i (0, 0, 0, 0)).2.2.1) (by unfold sv_I; clear h; omega), dc_w_eq (z := 65 + (J.2.2.getD i (0, 0, 0, 0)).2.2.1 - 1) (by unfold sv_I; clear h; omega), dc_w_eq (z := (J.2.2.getD i (0, 0, 0, 0)).2.1 - 1) (by unfold sv_I; clear h; omega)] at h
  exact cm_prl ht k3 hv c (J.2.2.getD i (0, 0, 0, 0)).2.1.toNat _ m v m' s h S (by clear h; omega) (by clear h; omega)
theorem cm_bit : ∀ set : Nat, set < 256 → ∀ k : Nat, k < 8 → (sv_g (sv_u (sv_g (ae_shr (sv_u (set : Nat)) (sv_u (k : Nat)))) &&& sv_u 1) = 0 ↔ ¬ pl_bit set k = true) := by decide +kernel
theorem cm_wants {tb k1 : Nat} (ht : cm_tb tb) (hk : k1 = 96 ∨ k1 = 105) {J : pj_J} (ok : pj_ok J) {set : Nat} (hset : set < 256) {x2 : Int} (hx : x2 = 0 ∨ x2 = 1) : ∀ (c i : Nat) (l4 : Int) (m : dc_M) (v : Int) (m' : dc_M) (s : pl_S), LM_85 k1 (set : Nat) x2 c 6 l4 (i : Nat) m v m' → cm_S tb m s → cj_J m k1 J → i ≤ J.2.2.length → 0 ≤ l4 → l4 ≤ i → cm_S tb m' (if x2 = 1 then pl_la J.1 set (J.2.2.drop i) i l4 s else pl_lp set (J.2.2.drop i) i l4 s) := by
  intro c
  induction c with
  | zero => intro i l4 m v m' s h; exact h.elim
  | succ c ih =>
    intro i l4 m v m' s h S hJ hi h40 h4i
    have l8 := ok.2.2.2.1
    replace h := lm_85_6.mp h
    rw [hJ.2.2.1] at h
    rcases h with ⟨c1, -, em⟩ | ⟨c1, h⟩
    · rw [List.drop_eq_nil_of_le (by omega), em]
      rcases hx with e | e <;> subst e <;> exact S
    · have hl : i < J.2.2.length := by clear h; omega
      have wo : pl_wo J.1 (J.2.2.drop i) := fun w hw => ok.2.2.2.2 w (List.mem_of_mem_drop hw)
      rcases h with ⟨c2, -, em⟩ | ⟨c2, h⟩
      · rw [em]
        rcases hx with e | e
        · rw [if_neg (by rw [e]; decide)]
          exact S.not c2 cm_Z.rf (pl_lp_mo (F := J.1) _ _ _ wo s)
        · rw [if_pos e]
          exact S.not c2 cm_Z.rf (pl_la_mo _ _ _ wo s)
      · have w1 : dc_w (((i : Nat) : Int) + 1) = ((i + 1 : Nat) : Int) := by rw [dc_w_eq (by unfold sv_I; clear h; omega)]; rfl
        have w4 : dc_w (l4 + 1) = l4 + 1 := dc_w_eq (by unfold sv_I; clear h; omega)
        rw [w1, w4] at h
        have bit := cm_bit set hset i (by clear h; omega)
        rw [pj_drop (0, 0, 0, 0) hl]
        rcases h with ⟨c3, h⟩ | ⟨c3, h⟩
        · have nb := bit.mp c3
          have fin := ih (i + 1) l4 m v m' s h S hJ (by clear h; omega) h40 (by clear h; omega)
          rcases hx with e | e
          · rw [if_neg (by rw [e]; decide)] at fin ⊢
            show cm_S tb m' (if pl_bit set i = true then _ else _)
            rw [if_neg nb]; exact fin
          · rw [if_pos e] at fin ⊢
            show cm_S tb m' (if pl_bit set i = true then _ else _)
            rw [if_neg nb]; exact fin
        · have yb : pl_bit set i = true := Decidable.not_not.mp (fun z => c3 (bit.mpr z))
          rcases h with ⟨c4, v1, m1, h1, h⟩ | ⟨c4, v1, m1, h1, h⟩
          · have S1 := cm_prt ht ok h1 S hJ hl (by clear h h1; omega)
            have J1 := hJ.fr ht hk (cm_87 ht h1 S.2.1).2.2
            have fin := ih (i + 1) (l4 + 1) m1 v m' _ h S1 J1 (by clear h h1; omega) (by clear h h1; omega) (by clear h h1; omega)
            rw [if_neg (by rw [c4]; decide)] at fin ⊢
            show cm_S tb m' (if pl_bit set i = true then _ else _)
            rw [if_pos yb]; exact fin
          · have e : x2 = 1 := by rcases hx with e | e; exact absurd e c4; exact e
            have S1 := cm_add ht hk ok h1 S hJ hl (by clear h h1; omega)
            have J1 := hJ.fr ht hk (cm_86 ht h1 S.2.1).2.2
            have fin := ih (i + 1) (l4 + 1) m1 v m' _ h S1 J1 (by clear h h1; omega) (by clear h h1; omega) (by clear h h1; omega)
            rw [if_pos e] at fin ⊢
            show cm_S tb m' (if pl_bit set i = true then _ else _)
            rw [if_pos yb]; exact fin
theorem cm_cnt0 : ∀ set : Nat, set < 256 → (sv_g (sv_u (dc_w ((dc_w ((sv_g (sv_u (dc_w ((dc_w ((sv_g (sv_u (dc_w (((set : Nat) : Int) - (sv_g (sv_u (sv_g (ae_ushr (sv_u ((set : Nat) : Int)) (sv_u 1))) &&& sv_u 1431655765)))) &&& sv_u 858993459)) + (sv_g (sv_u (sv_g (ae_ushr (sv_u (dc_w (((set : Nat) : Int) - (sv_g (sv_u (sv_g (ae_ushr (sv_u ((set : Nat) : Int)) (sv_u 1))) &&& sv_u 1431655765))))) (sv_u 2))) &&& sv_u 858993459)))) + (sv_g (ae_ushr (sv_u (dc_w ((sv_g (sv_u (dc_w (((set : Nat) : Int) - (sv_g (sv_u (sv_g (ae_ushr (sv_u ((set : Nat) : Int)) (sv_u 1))) &&& sv_u 1431655765)))) &&& sv_u 858993459)) + (sv_g (sv_u (sv_g (ae_ushr (sv_u (dc_w (((set : Nat) : Int) - (sv_g (sv_u (sv_g (ae_ushr (sv_u ((set : Nat) : Int)) (sv_u 1))) &&& sv_u 1431655765))))) (sv_u 2))) &&& sv_u 858993459))))) (sv_u 4))))) &&& sv_u 252645135)) + (sv_g (ae_ushr (sv_u (sv_g (sv_u (dc_w ((dc_w ((sv_g (sv_u (dc_w (((set : Nat) : Int) - (sv_g (sv_u (sv_g (ae_ushr (sv_u ((set : Nat) : Int)) (sv_u 1))) &&& sv_u 1431655765)))) &&& sv_u 858993459)) + (sv_g (sv_u (sv_g (ae_ushr (sv_u (dc_w (((set : Nat) : Int) - (sv_g (sv_u (sv_g (ae_ushr (sv_u ((set : Nat) : Int)) (sv_u 1))) &&& sv_u 1431655765))))) (sv_u 2))) &&& sv_u 858993459)))) + (sv_g (ae_ushr (sv_u (dc_w ((sv_g (sv_u (dc_w (((set : Nat) : Int) - (sv_g (sv_u (sv_g (ae_ushr (sv_u ((set : Nat) : Int)) (sv_u 1))) &&& sv_u 1431655765)))) &&& sv_u 858993459)) + (sv_g (sv_u (sv_g (ae_ushr (sv_u (dc_w (((set : Nat) : Int) - (sv_g (sv_u (sv_g (ae_ushr (sv_u ((set : Nat) : Int)) (sv_u 1))) &&& sv_u 1431655765))))) (sv_u 2))) &&& sv_u 858993459))))) (sv_u 4))))) &&& sv_u 252645135))) (sv_u 8))))) + (sv_g (ae_ushr (sv_u (dc_w ((sv_g (sv_u (dc_w ((dc_w ((sv_g (sv_u (dc_w (((set : Nat) : Int) - (sv_g (sv_u (sv_g (ae_ushr (sv_u ((set : Nat) : Int)) (sv_u 1))) &&& sv_u 1431655765)))) &&& sv_u 858993459)) + (sv_g (sv_u (sv_g (ae_ushr (sv_u (dc_w (((set : Nat) : Int) - (sv_g (sv_u (sv_g (ae_ushr (sv_u ((set : Nat) : Int)) (sv_u 1))) &&& sv_u 1431655765))))) (sv_u 2))) &&& sv_u 858993459)))) + (sv_g (ae_ushr (sv_u (dc_w ((sv_g (sv_u (dc_w (((set : Nat) : Int) - (sv_g (sv_u (sv_g (ae_ushr (sv_u ((set : Nat) : Int)) (sv_u 1))) &&& sv_u 1431655765)))) &&& sv_u 858993459)) + (sv_g (sv_u (sv_g (ae_ushr (sv_u (dc_w (((set : Nat) : Int) - (sv_g (sv_u (sv_g (ae_ushr (sv_u ((set : Nat) : Int)) (sv_u 1))) &&& sv_u 1431655765))))) (sv_u 2))) &&& sv_u 858993459))))) (sv_u 4))))) &&& sv_u 252645135)) + (sv_g (ae_ushr (sv_u (sv_g (sv_u (dc_w ((dc_w ((sv_g (sv_u (dc_w (((set : Nat) : Int) - (sv_g (sv_u (sv_g (ae_ushr (sv_u ((set : Nat) : Int)) (sv_u 1))) &&& sv_u 1431655765)))) &&& sv_u 858993459)) + (sv_g (sv_u (sv_g (ae_ushr (sv_u (dc_w (((set : Nat) : Int) - (sv_g (sv_u (sv_g (ae_ushr (sv_u ((set : Nat) : Int)) (sv_u 1))) &&& sv_u 1431655765))))) (sv_u 2))) &&& sv_u 858993459)))) + (sv_g (ae_ushr (sv_u (dc_w ((sv_g (sv_u (dc_w (((set : Nat) : Int) - (sv_g (sv_u (sv_g (ae_ushr (sv_u ((set : Nat) : Int)) (sv_u 1))) &&& sv_u 1431655765)))) &&& sv_u 858993459)) + (sv_g (sv_u (sv_g (ae_ushr (sv_u (dc_w (((set : Nat) : Int) - (sv_g (sv_u (sv_g (ae_ushr (sv_u ((set : Nat) : Int)) (sv_u 1))) &&& sv_u 1431655765))))) (sv_u 2))) &&& sv_u 858993459))))) (sv_u 4))))) &&& sv_u 252645135))) (sv_u 8)))))) (sv_u 16))))) &&& sv_u 63)) = pl_cnt set := by decide +kernel
/-- Integer.bitCount of a set -/
theorem cm_cnt {set : Nat} (hset : set < 256) {m : dc_M} {v : Int} {m' : dc_M} (h : D_283 (set : Nat) m v m') : v = pl_cnt set ∧ m' = m := by
  exact ⟨h.1.trans (cm_cnt0 set hset), h.2⟩
/-- the class's makeBoard -/
theorem cm_make {tb k1 : Nat} (ht : cm_tb tb) (hk : k1 = 96 ∨ k1 = 105) {J : pj_J} (ok : pj_ok J) {set : Nat} (hset : set < 256) {m : dc_M} {v : Int} {m' : dc_M} (h : D_82 k1 (set : Nat) tb m v m') (hJ : cj_J m k1 J) : ((v = 1 ∧ pl_fit J set ∧ cz_W m' tb (pl_mk J set).1) ∨ (v = 0 ∧ ¬ pl_fit J set)) ∧ (∀ (k : Nat) (i : Int), k ≠ 46 → k ≠ 53 → k ≠ 54 → k ≠ tb → k ≠ tb + 1 → k ≠ tb + 2 → m' k i = m k i) ∧ ∀ i : Int, i ≠ 7 → i ≠ 8 → i ≠ 9 → i ≠ 10 → m' 46 i = m 46 i := by
  obtain ⟨m1, e1, m2, e2, m3, e3, m4, e4, v5, m5, h5, h⟩ := h
  obtain ⟨y5, x5⟩ := cm_cnt hset h5
  subst x5
  have r1 : m1 46 10 = (tb : Int) := by rw [e1, dc_up_s]
  rw [r1, Int.toNat_natCast] at e2
  have f4 : ∀ (k : Nat) (i : Int), k ≠ 46 → k ≠ tb → m5 k i = m k i := fun k i k1 k2 => by rw [e4, dc_up_k k1, e3, dc_up_k k1, e2, dc_up_k k2, e1, dc_up_k k1]
  have f46 : ∀ i : Int, i ≠ 7 → i ≠ 8 → i ≠ 10 → m5 46 i = m 46 i := fun i k7 k8 k10 => by rw [e4, dc_up_i k8, e3, dc_up_i k7, e2, dc_up_k (by ((try clear h); (try clear h1); (try clear h2); (try clear h3); (try clear h4); (try clear h5); (try clear h6); (try clear h7); (try clear h8); (try clear h9); omega)), e1, dc_up_i k10]
  have r4 : m5 46 10 = (tb : Int) := by rw [e4, dc_up_i (by decide), e3, dc_up_i (by decide), e2, dc_up_k (by ((try clear h); (try clear h1); (try clear h2); (try clear h3); (try clear h4); (try clear h5); (try clear h6); (try clear h7); (try clear h8); (try clear h9); omega)), r1]
  rcases h with ⟨c1, m6, e6, ev, em⟩ | ⟨c1, m6, e6, v7, m7, h7, v8, m8, h8, v9, m9, h9, ev, em⟩
  · rw [em]
    refine ⟨Or.inr ⟨by rw [ev, e6, dc_up_s], fun z => by have := z.1; ((try clear h); (try clear h1); (try clear h2); (try clear h3); (try clear h4); (try clear h5); (try clear h6); (try clear h7); (try clear h8); (try clear h9); omega)⟩, fun k i k1 _ _ k4 _ _ => by rw [e6, dc_up_k k1]; exact f4 k i k1 k4, fun i k7 k8 k9 k10 => by rw [e6, dc_up_i k9]; exact f46 i k7 k8 k10⟩
  · have r6 : m6 46 10 = (tb : Int) := by rw [e6, dc_up_i (by decide)]; exact r4
    have f6 : ∀ (k : Nat) (i : Int), k ≠ 46 → k ≠ tb → m6 k i = m k i := fun k i k1 k2 => by rw [e6, dc_up_k k1]; exact f4 k i k1 k2
    have J6 : cj_J m6 k1 J := by
      have g : ∀ (q : Nat) (i : Int), q ≤ 8 → m6 (k1 + q) i = m (k1 + q) i := fun q i hq => f6 (k1 + q) i (by ((try clear h); (try clear h1); (try clear h2); (try clear h3); (try clear h4); (try clear h5); (try clear h6); (try clear h7); (try clear h8); (try clear h9); omega)) (by ((try clear h); (try clear h1); (try clear h2); (try clear h3); (try clear h4); (try clear h5); (try clear h6); (try clear h7); (try clear h8); (try clear h9); omega))
      obtain ⟨⟨a0, a1⟩, b, w0, w1⟩ := hJ
      refine ⟨⟨(g 0 3 (by decide)).trans a0, fun i hi => ?_⟩, fun o p1 p3 => (g 4 o (by decide)).trans (b o p1 p3), (g 0 9 (by decide)).trans w0, fun i hi => ?_⟩
      · rw [g 1 _ (by decide), g 2 _ (by decide), g 3 _ (by decide)]; exact a1 i hi
      · rw [g 5 _ (by decide), g 6 _ (by decide), g 7 _ (by decide), g 8 _ (by decide)]; exact w1 i hi
    have S6 : cm_S tb m6 pl_0 := by
      refine ⟨pl_0_ok, r6, Or.inl ⟨by rw [e6, dc_up_s], ⟨?_, by show 0 ≤ 60; decide, fun i hi => (by cases hi)⟩, ⟨?_, fun i hi => (by cases hi)⟩, ?_, rfl, Int.le_refl 0, by show (0 : Int) ≤ 12; decide⟩⟩
      · rw [e6, dc_up_k (by ((try clear h); (try clear h1); (try clear h2); (try clear h3); (try clear h4); (try clear h5); (try clear h6); (try clear h7); (try clear h8); (try clear h9); omega)), e4, dc_up_k (by ((try clear h); (try clear h1); (try clear h2); (try clear h3); (try clear h4); (try clear h5); (try clear h6); (try clear h7); (try clear h8); (try clear h9); omega)), e3, dc_up_k (by ((try clear h); (try clear h1); (try clear h2); (try clear h3); (try clear h4); (try clear h5); (try clear h6); (try clear h7); (try clear h8); (try clear h9); omega)), e2, dc_up_s]; rfl
      · rw [e6, dc_up_i (by decide), e4, dc_up_i (by decide), e3, dc_up_s]; rfl
      · rw [e6, dc_up_i (by decide), e4, dc_up_s]; rfl
    obtain ⟨c7, h7'⟩ := h7
    have Z7 := cm_84 ht ⟨c7, h7'⟩ r6
    have S7 := cm_bkl ht hk ok c7 3 0 1 m6 v7 m7 pl_0 h7' S6 J6 rfl (by decide) (by decide) (by decide)
    have J7 := J6.fr ht hk Z7.2.2
    obtain ⟨c8, h8'⟩ := h8
    have Z8 := cm_85 ht ⟨c8, h8'⟩ Z7.1
    have S8 := cm_wants ht hk ok hset (Or.inr rfl) c8 0 0 m7 v8 m8 _ h8' S7 J7 (Nat.zero_le _) (by decide) (by decide)
    rw [if_pos rfl] at S8
    have J8 := J7.fr ht hk Z8.2.2
    obtain ⟨c9, h9'⟩ := h9
    have Z9 := cm_85 ht ⟨c9, h9'⟩ Z8.1
    have S9 := cm_wants ht hk ok hset (Or.inl rfl) c9 0 0 m8 v9 m9 _ h9' S8 J8 (Nat.zero_le _) (by decide) (by decide)
    rw [if_neg (by decide)] at S9
    have S9 : cm_S tb m9 (pl_mk J set) := S9
    have F : cm_fr tb m6 m9 := (Z7.2.2.tr Z8.2.2).tr Z9.2.2
    rw [em]
    refine ⟨?_, fun k i k1 k2 k3 k4 k5 k6 => (F.1 k i k1 k2 k3 k4 k5 k6).trans (f6 k i k1 k4), fun i k7 k8 k9 k10 => (F.2 i k7 k8 k9).trans (by rw [e6, dc_up_i k9]; exact f46 i k7 k8 k10)⟩
    rcases S9.2.2 with ⟨x1, W, -, -, T, -, b1⟩ | ⟨x1, b⟩
    · refine Or.inl ⟨ev.trans x1, ⟨by ((try clear h); (try clear h1); (try clear h2); (try clear h3); (try clear h4); (try clear h5); (try clear h6); (try clear h7); (try clear h8); (try clear h9); omega), fun z => ?_⟩, W⟩
      rcases z with z | z | z
      · rw [T] at z; cases z
      · have := W.2.1; ((try clear h); (try clear h1); (try clear h2); (try clear h3); (try clear h4); (try clear h5); (try clear h6); (try clear h7); (try clear h8); (try clear h9); omega)
      · ((try clear h); (try clear h1); (try clear h2); (try clear h3); (try clear h4); (try clear h5); (try clear h6); (try clear h7); (try clear h8); (try clear h9); omega)
    · exact Or.inr ⟨ev.trans x1, fun z => z.2 b⟩
