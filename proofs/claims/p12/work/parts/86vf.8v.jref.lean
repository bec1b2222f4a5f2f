/-! THE JOB'S TEXT: the reference reads it so -/
/-- what reading a JOB may touch: the reader's fields, the JOB at hand -/
def rj_x (k : Nat) (i : Int) : Prop := (k = 114 ∧ i ∈ ([4, 7, 8, 9, 10, 11, 13, 14] : List Int)) ∨ (k = 151 ∧ i = 1) ∨ (k = 155 ∧ i = 1) ∨ ((k = 152 ∨ k = 153 ∨ k = 160) ∧ 6 ≤ i) ∨ (k = 154 ∧ 3 ≤ i) ∨ ((k = 156 ∨ k = 157 ∨ k = 158 ∨ k = 159) ∧ 8 ≤ i)
def rj_fr (m m' : dc_M) : Prop := ∀ (k : Nat) (i : Int), ¬ rj_x k i → m' k i = m k i
theorem rj_fr.rf {m : dc_M} : rj_fr m m := fun _ _ _ => rfl
theorem rj_fr.tr {a b c : dc_M} (h : rj_fr a b) (g : rj_fr b c) : rj_fr a c := fun k i z => (g k i z).trans (h k i z)
theorem rz_f.j {L : List Int} {a b : dc_M} (h : rz_f L a b) (hL : ∀ i, i ∈ L → i ∈ ([4, 7, 8, 9, 10, 11, 13, 14] : List Int)) : rj_fr a b := fun k i z => h k i (by
  by_cases e : k = 114
  · exact Or.inr (fun y => z (Or.inl ⟨e, hL i y⟩))
  · exact Or.inl e)
theorem rj_fr.up {a m m1 : dc_M} {k : Nat} {i v : Int} (h : rj_fr a m) (e : m1 = dc_up m k i v) (hx : rj_x k i) : rj_fr a m1 := fun k' i' z => by
  rw [e]
  refine (if_neg (fun y => z ?_)).trans (h k' i' z)
  rw [y.1, y.2]; exact hx
def rj_G (m m' : dc_M) : Prop := rj_fr m m' ∧ m' 114 10 = m 114 10
theorem rj_G.rf {m : dc_M} : rj_G m m := ⟨rj_fr.rf, rfl⟩
theorem rj_G.tr {a b c : dc_M} (h : rj_G a b) (g : rj_G b c) : rj_G a c := ⟨h.1.tr g.1, g.2.trans h.2⟩
theorem rz_f.G {L : List Int} {a b : dc_M} (h : rz_f L a b) (hL : ∀ i, i ∈ L → i ∈ ([4, 7, 8, 9, 13, 14] : List Int)) : rj_G a b := ⟨h.j (fun i hi => by
  have := hL i hi
  revert this
  simp only [List.mem_cons, List.not_mem_nil, or_false]
  omega), h.fi (fun z => by
  have := hL 10 z
  revert this
  decide)⟩
theorem rj_G.up {a m m1 : dc_M} {k : Nat} {i v : Int} (h : rj_G a m) (e : m1 = dc_up m k i v) (hx : rj_x k i) (hk : k ≠ 114) : rj_G a m1 := ⟨h.1.up e hx, by rw [e, dc_up_k (fun z => hk z.symm)]; exact h.2⟩
/-- a fault told, nothing else touched -/
def rj_E (m m' : dc_M) (f : Int × Int) : Prop := rz_E m' f ∧ rj_fr m m'
theorem rj_E.go {a b c : dc_M} {f : Int × Int} (h : rj_fr a b) (g : rj_E b c f) : rj_E a c f := ⟨g.1, h.tr g.2⟩
theorem rj_bad {x y : Int} {m : dc_M} {v : Int} {m' : dc_M} (h : D_199 x y m v m') : v = 0 ∧ rj_E m m' (x, y) := ⟨(rz_bad h).1, (rz_bad h).2.1, (rz_bad h).2.2.j (by decide)⟩
theorem rj_sgn {c : Int} {m : dc_M} {v : Int} {m' : dc_M} {t : Int → Int} {n lim p : Int} (h : D_200 c m v m') (S : rz_S m t n lim p) : pz_on (pz_sgn t n lim p c) (fun f => v = 0 ∧ rj_E m m' f) (fun p' => v = 1 ∧ rj_G m m' ∧ (∀ k i, k ≠ 114 → m' k i = m k i) ∧ rz_S m' t n lim p') := by
  have q := rz_sgn h S
  cases e : pz_sgn t n lim p c with
  | inr a =>
    obtain ⟨q1, q2, q3⟩ := pz_on_r q e
    exact ⟨q1, q2.G (by decide), fun k i hk => q2 k i (Or.inl hk), q3⟩
  | inl f =>
    obtain ⟨q1, q2⟩ := pz_on_l q e
    refine ⟨q1, q2, ?_⟩
    rcases h with ⟨c1, v1, m1, hd, ev, em⟩ | ⟨c1, h⟩
    · rw [em]; exact (rj_bad hd).2.2
    · rcases h with ⟨c2, v1, m1, hd, ev, em⟩ | ⟨c2, v1, m1, hd, ev, em⟩
      · exfalso; omega
      · rw [em]; exact (rj_bad hd).2.2
theorem rj_num {a b : Int} {m : dc_M} {v : Int} {m' : dc_M} {t : Int → Int} {n lim p : Int} (h : D_201 a b m v m') (S : rz_S m t n lim p) : pz_on (pz_num t n lim p a b) (fun f => v = 0 ∧ rj_E m m' f) (fun q => v = 1 ∧ m' 114 14 = q.1 ∧ (a ≤ q.1 ∧ q.1 ≤ b) ∧ rj_G m m' ∧ (∀ k i, k ≠ 114 → m' k i = m k i) ∧ rz_S m' t n lim q.2) := by
  have q := rz_num h S
  cases e : pz_num t n lim p a b with
  | inr a =>
    obtain ⟨q1, q2, q3, q4, q5⟩ := pz_on_r q e
    exact ⟨q1, q2, q3, q4.G (by decide), fun k i hk => q4 k i (Or.inl hk), q5⟩
  | inl f =>
    obtain ⟨q1, q2⟩ := pz_on_l q e
    refine ⟨q1, q2, ?_⟩
    rcases h with ⟨c1, v1, m1, hi, h⟩ | ⟨c1, v1, m1, hd, ev, em⟩
    · obtain ⟨x1, -⟩ := rz_in hi
      subst x1
      rcases h with ⟨c2, m2, e2, v3, m3, hd, ev, em⟩ | ⟨c2, v3, m3, hd, ev, em⟩
      · exfalso; omega
      · rw [em]; exact (rj_bad hd).2.2
    · rw [em]; exact (rj_bad hd).2.2
theorem rj_next {m : dc_M} {v : Int} {m' : dc_M} {t : Int → Int} {n lim p : Int} (h : D_198 m v m') (S : rz_S m t n lim p) : rj_G m m' ∧ (∀ k i, k ≠ 114 → m' k i = m k i) ∧ rz_S m' t n lim (pz_nx t n lim p) := by
  obtain ⟨q1, q2⟩ := rz_S_next h S
  exact ⟨q1.G (by decide), fun k i hk => q1 k i (Or.inl hk), q2⟩
/-! words, packed -/
def pj_q : Nat → Int
  | 0 => 1
  | s + 1 => 256 * pj_q s
theorem pj_q_b : ∀ s : Nat, s < 6 → pj_q s ≤ 1099511627776 := by decide
theorem pj_q_b4 : ∀ s : Nat, s < 5 → pj_q s ≤ 4294967296 := by decide
theorem pj_pk_lt : ∀ {l : List Int}, pj_al l → pj_pk l < pj_q l.length
  | [], _ => by decide
  | c :: l, h => by
    have h1 := pj_al_h h
    have h0 := pj_pk_lt (pj_al_t h)
    show pj_pk l * 256 + c < 256 * pj_q l.length
    omega
theorem pj_pk_b {l : List Int} (h : pj_al l) (h5 : l.length ≤ 5) : 0 ≤ pj_pk l ∧ pj_pk l < 1099511627776 := by
  have h1 := pj_pk_lt h
  have h2 := pj_q_b l.length (by omega)
  exact ⟨pj_pk_0 h, by omega⟩
theorem pj_pkE {t : Int → Int} {pl : Int} : ∀ s : Nat, s ≤ 5 → (∀ i : Nat, i < s → 97 ≤ t (pl + (i : Nat)) ∧ t (pl + (i : Nat)) ≤ 122) → (pz_pk t pl s : Int) = pj_pk (pj_nm t pl s)
  | 0, _, _ => rfl
  | s + 1, h5, h => by
    have ih := pj_pkE s (by omega) (fun i hi => h i (by omega))
    have hb := pj_pk_lt (pj_nm_al s (fun i hi => h i (by omega)))
    rw [pj_nm_len] at hb
    have hq := pj_q_b4 s (by omega)
    rw [pz_pk_s (by omega) (h s (by omega)), ih]
    rfl
theorem pj_wordE {t : Int → Int} {n p : Int} (h : pz_k t n 300 p = 1) (hp : p ≤ n) : ((pz_pk t (pz_pl t n 300 p) (pz_nx t n 300 p - pz_pl t n 300 p).toNat : Nat) : Int) = pj_pk (pj_name t n p) := by
  obtain ⟨k1, k2, k3, k4, k5⟩ := pz_k1 h hp
  refine pj_pkE _ (by omega) (fun i hi => ?_)
  have hi2 : pz_pl t n 300 p + (i : Nat) < pz_nx t n 300 p := by omega
  rw [k4] at hi2
  exact pz_en_in (n := n) (n - pz_sk t n p).toNat (pz_sk t n p) _ (by omega) hi2
theorem pj_K260 : ((422826041707 : Nat) : Int) = pj_pk (pj_w 260) := by decide +kernel
theorem pj_K261 : ((427071729268 : Nat) : Int) = pj_pk (pj_w 261) := by decide +kernel
theorem pj_K262 : ((439854918756 : Nat) : Int) = pj_pk (pj_w 262) := by decide +kernel
theorem pj_K263 : ((1870030194 : Nat) : Int) = pj_pk (pj_w 263) := by decide +kernel
theorem pj_K264 : ((7566701 : Nat) : Int) = pj_pk (pj_w 264) := by decide +kernel
/-- two packed words compared -/
theorem rj_cmp {Y K : Nat} {a b : List Int} (ha : pj_al a) (ha5 : a.length ≤ 5) (hb : pj_al b) (hb5 : b.length ≤ 5) (eY : (Y : Int) = pj_pk a) (eK : (K : Int) = pj_pk b) : sv_g (ae_lcmp Y K) = 0 ↔ a = b := by
  have b1 := pj_pk_b ha ha5
  have b2 := pj_pk_b hb hb5
  rw [rz_lz (Y := Y) (K := K) (by omega) (by omega)]
  constructor
  · intro z; exact pj_pk_inj ha hb (by rw [← eY, ← eK, z])
  · intro z; rw [z] at eY; omega
theorem rj_wd {m : dc_M} {t : Int → Int} {n p : Int} (S : rz_S m t n 300 p) (h : pz_k t n 300 p = 1) : (((m 114 13).toNat : Nat) : Int) = pj_pk (pj_name t n p) ∧ m 114 13 = pj_pk (pj_name t n p) := by
  have e := S.2.1.2.2.2.1 h
  have w := pj_wordE h S.2.2.2
  rw [e, Int.toNat_natCast]
  exact ⟨w, w⟩
theorem pj_w_len : ∀ s0 : Nat, s0 < 265 → 260 ≤ s0 → (pj_w s0).length ≤ 5 := fun s0 h1 h2 => by unfold pj_w; rw [pj_nm_len]; exact (pj_w_al s0 h1 h2).1
theorem rj_isw {K s0 : Nat} {m : dc_M} {v : Int} {m' : dc_M} {t : Int → Int} {n p : Int} (h : D_249 K m v m') (hs : s0 < 265 ∧ 260 ≤ s0) (hK : (K : Int) = pj_pk (pj_w s0)) (S : rz_S m t n 300 p) : m' = m ∧ ((v = 1 ∧ pj_is t n p s0) ∨ (v = 0 ∧ ¬ pj_is t n p s0)) := by
  have k1 := rz_k S.2.1 (K := 1) (by omega)
  rcases h with ⟨c1, ev, em⟩ | ⟨c1, h⟩
  · exact ⟨em, Or.inr ⟨ev, fun z => c1 (k1.mpr z.1)⟩⟩
  · have c1 := k1.mp (by clear h; omega)
    have nok := pj_name_ok c1 S.2.2.2
    have cmp := rj_cmp nok.1 nok.2 (pj_w_al s0 hs.1 hs.2).2 (pj_w_len s0 hs.1 hs.2) (rj_wd S c1).1 hK
    rcases h with ⟨c2, ev, em⟩ | ⟨c2, ev, em⟩
    · exact ⟨em, Or.inr ⟨ev, fun z => c2 (cmp.mpr z.2)⟩⟩
    · exact ⟨em, Or.inl ⟨ev, c1, cmp.mp (by omega)⟩⟩
theorem rj_isn {m : dc_M} {v : Int} {m' : dc_M} {t : Int → Int} {n p : Int} (h : D_250 m v m') (S : rz_S m t n 300 p) : m' = m ∧ ((v = 1 ∧ pj_isn t n p) ∨ (v = 0 ∧ ¬ pj_isn t n p)) := by
  have k1 := rz_k S.2.1 (K := 1) (by omega)
  rcases h with ⟨c1, ev, em⟩ | ⟨c1, h⟩
  · exact ⟨em, Or.inr ⟨ev, fun z => c1 (k1.mpr z.1)⟩⟩
  · have c1 := k1.mp (by clear h; omega)
    have nok := pj_name_ok c1 S.2.2.2
    have cmp : ∀ {K s0 : Nat}, s0 < 265 ∧ 260 ≤ s0 → (K : Int) = pj_pk (pj_w s0) → (sv_g (ae_lcmp (m 114 13).toNat K) = 0 ↔ pj_name t n p = pj_w s0) := fun hs hK => rj_cmp nok.1 nok.2 (pj_w_al _ hs.1 hs.2).2 (pj_w_len _ hs.1 hs.2) (rj_wd S c1).1 hK
    rcases h with ⟨d1, ev, em⟩ | ⟨d1, h⟩
    · exact ⟨em, Or.inr ⟨ev, fun z => z.2.1 ((cmp (s0 := 262) (by decide) pj_K262).mp d1)⟩⟩
    · rcases h with ⟨d2, ev, em⟩ | ⟨d2, h⟩
      · exact ⟨em, Or.inr ⟨ev, fun z => z.2.2.1 ((cmp (s0 := 260) (by decide) pj_K260).mp d2)⟩⟩
      · rcases h with ⟨d3, ev, em⟩ | ⟨d3, h⟩
        · exact ⟨em, Or.inr ⟨ev, fun z => z.2.2.2.1 ((cmp (s0 := 264) (by decide) pj_K264).mp d3)⟩⟩
        · rcases h with ⟨d4, ev, em⟩ | ⟨d4, h⟩
          · exact ⟨em, Or.inr ⟨ev, fun z => z.2.2.2.2.1 ((cmp (s0 := 261) (by decide) pj_K261).mp d4)⟩⟩
          · rcases h with ⟨d5, ev, em⟩ | ⟨d5, ev, em⟩
            · exact ⟨em, Or.inr ⟨ev, fun z => z.2.2.2.2.2 ((cmp (s0 := 263) (by decide) pj_K263).mp d5)⟩⟩
            · exact ⟨em, Or.inl ⟨ev, c1, fun z => d1 ((cmp (s0 := 262) (by decide) pj_K262).mpr z), fun z => d2 ((cmp (s0 := 260) (by decide) pj_K260).mpr z), fun z => d3 ((cmp (s0 := 264) (by decide) pj_K264).mpr z), fun z => d4 ((cmp (s0 := 261) (by decide) pj_K261).mpr z), fun z => d5 ((cmp (s0 := 263) (by decide) pj_K263).mpr z)⟩⟩
/-! the JOB at hand -/
def rj_F (m : dc_M) (F : pj_F) : Prop := m 151 1 = (F.length : Int) ∧ ∀ i : Nat, i < F.length → m 160 (6 + (i : Nat)) = pj_pk (F.getD i ([], 0, 0)).1 ∧ m 152 (6 + (i : Nat)) = (F.getD i ([], 0, 0)).2.1 ∧ m 153 (6 + (i : Nat)) = (F.getD i ([], 0, 0)).2.2
def rj_W (m : dc_M) (W : pj_W) : Prop := m 155 1 = (W.length : Int) ∧ ∀ i : Nat, i < W.length → m 156 (8 + (i : Nat)) = (W.getD i (0, 0, 0, 0)).1 ∧ m 157 (8 + (i : Nat)) = (W.getD i (0, 0, 0, 0)).2.1 ∧ m 158 (8 + (i : Nat)) = (W.getD i (0, 0, 0, 0)).2.2.1 ∧ m 159 (8 + (i : Nat)) = (W.getD i (0, 0, 0, 0)).2.2.2
def rj_B (m : dc_M) (B : Int → Int) : Prop := ∀ o : Int, 1 ≤ o → o ≤ 3 → m 154 (2 + o) = B o
def rj_J (m : dc_M) (J : pj_J) : Prop := rj_F m J.1 ∧ rj_B m J.2.1 ∧ rj_W m J.2.2
theorem rj_J.go {m m' : dc_M} {J : pj_J} (hJ : rj_J m J) (f : ∀ k i, k ≠ 114 → m' k i = m k i) : rj_J m' J := by
  obtain ⟨⟨f0, f1⟩, b, w0, w1⟩ := hJ
  refine ⟨⟨(f 151 1 (by decide)).trans f0, fun i hi => ?_⟩, fun o h1 h3 => (f 154 _ (by decide)).trans (b o h1 h3), (f 155 1 (by decide)).trans w0, fun i hi => ?_⟩
  · rw [f 160 _ (by decide), f 152 _ (by decide), f 153 _ (by decide)]; exact f1 i hi
  · rw [f 156 _ (by decide), f 157 _ (by decide), f 158 _ (by decide), f 159 _ (by decide)]; exact w1 i hi
/-- places beyond those that stand -/
theorem rj_J.upW {r : Nat} {m m' : dc_M} {J : pj_J} {x : Int} (hJ : rj_J m J) (e : m' = dc_up m r (8 + (J.2.2.length : Int)) x) (hr : r = 156 ∨ r = 157 ∨ r = 158 ∨ r = 159) : rj_J m' J := by
  obtain ⟨⟨f0, f1⟩, bb, w0, w1⟩ := hJ
  have fr : ∀ (j : Nat) i, j ≠ r → m' j i = m j i := fun j i h0 => by rw [e, dc_up_k h0]
  have fw : ∀ (q : Nat) (i : Nat), i < J.2.2.length → m' q (8 + (i : Nat)) = m q (8 + (i : Nat)) := fun q i hi => by rw [e, dc_up_i (by omega)]
  refine ⟨⟨(fr 151 1 (by omega)).trans f0, fun i hi => ?_⟩, fun o h1 h3 => (fr 154 _ (by omega)).trans (bb o h1 h3), (fr 155 1 (by omega)).trans w0, fun i hi => ?_⟩
  · rw [fr 160 _ (by omega), fr 152 _ (by omega), fr 153 _ (by omega)]; exact f1 i hi
  · rw [fw 156 i hi, fw 157 i hi, fw 158 i hi, fw 159 i hi]; exact w1 i hi
theorem rj_J.upF {r : Nat} {m m' : dc_M} {J : pj_J} {x : Int} (hJ : rj_J m J) (e : m' = dc_up m r (6 + (J.1.length : Int)) x) (hr : r = 152 ∨ r = 153 ∨ r = 160) : rj_J m' J := by
  obtain ⟨⟨f0, f1⟩, bb, w0, w1⟩ := hJ
  have fr : ∀ (j : Nat) i, j ≠ r → m' j i = m j i := fun j i h0 => by rw [e, dc_up_k h0]
  have fw : ∀ (q : Nat) (i : Nat), i < J.1.length → m' q (6 + (i : Nat)) = m q (6 + (i : Nat)) := fun q i hi => by rw [e, dc_up_i (by omega)]
  refine ⟨⟨(fr 151 1 (by omega)).trans f0, fun i hi => ?_⟩, fun o h1 h3 => (fr 154 _ (by omega)).trans (bb o h1 h3), (fr 155 1 (by omega)).trans w0, fun i hi => ?_⟩
  · rw [fw 160 i hi, fw 152 i hi, fw 153 i hi]; exact f1 i hi
  · rw [fr 156 _ (by omega), fr 157 _ (by omega), fr 158 _ (by omega), fr 159 _ (by omega)]; exact w1 i hi
theorem rj_fol {w : List Int} {F : pj_F} {Y : Nat} (hw : pj_al w) (hw5 : w.length ≤ 5) (hY : (Y : Int) = pj_pk w) (hF : ∀ a ∈ F, pj_al a.1 ∧ a.1.length ≤ 5) (h6 : F.length ≤ 6) : ∀ (c : Nat) (m : dc_M) (v : Int) (m' : dc_M) (i : Nat), LM_251 Y c 2 (i : Nat) m v m' → rj_F m F → i ≤ F.length → m' = m ∧ v = pj_fo (F.drop i) w (i : Nat) := by
  intro c
  induction c with
  | zero => intro m v m' i h; exact h.elim
  | succ c ih =>
    intro m v m' i h hm hi
    replace h := lm_251_2.mp h
    obtain ⟨-, h⟩ := h
    rw [hm.1] at h
    rcases h with ⟨c1, ev, em⟩ | ⟨c1, -, h⟩
    · rw [List.drop_eq_nil_of_le (by omega)]
      exact ⟨em, ev⟩
    · have hl : i < F.length := by clear h; omega
      obtain ⟨n1, n2⟩ := hF _ (pj_gm (d := ([], 0, 0)) hl)
      have b := pj_pk_b n1 n2
      rw [dc_w_eq (z := 6 + ((i : Nat) : Int)) (by unfold sv_I; clear h; omega), (hm.2 i hl).1, dc_w_eq (z := ((i : Nat) : Int) + 1) (by unfold sv_I; clear h; omega), show ((i : Nat) : Int) + 1 = ((i + 1 : Nat) : Int) from rfl] at h
      have cmp := rj_cmp (Y := (pj_pk (F.getD i ([], 0, 0)).1).toNat) (K := Y) n1 n2 hw hw5 (by clear h; omega) hY
      rw [pj_drop ([], 0, 0) hl]
      show m' = m ∧ v = (if (F.getD i ([], 0, 0)).1 = w then ((i : Nat) : Int) else pj_fo (F.drop (i + 1)) w (((i : Nat) : Int) + 1))
      rcases h with ⟨c2, h⟩ | ⟨c2, ev, em⟩
      · obtain ⟨q1, q2⟩ := ih m v m' (i + 1) h hm (by omega)
        rw [if_neg (fun z => c2 (cmp.mpr z))]
        exact ⟨q1, q2⟩
      · rw [if_pos (cmp.mp (by omega))]
        exact ⟨em, ev⟩
theorem rj_foR {Y : Nat} {w : List Int} {J : pj_J} {m : dc_M} {v : Int} {m' : dc_M} (h : D_251 Y m v m') (hY : (Y : Int) = pj_pk w) (hw : pj_al w ∧ w.length ≤ 5) (ok : pj_ok J) (hJ : rj_J m J) : m' = m ∧ v = pj_fo J.1 w 0 := by
  obtain ⟨c, h⟩ := h
  exact rj_fol hw.1 hw.2 hY (fun a ha => (ok.2.1 a ha).1) ok.1 c m v m' 0 h hJ.1 (by omega)
abbrev rj_Q (m : dc_M) (v : Int) (m' : dc_M) (t : Int → Int) (n : Int) (q : pj_J × Int) : Prop := v = 1 ∧ rj_G m m' ∧ rz_S m' t n 300 q.2 ∧ rj_J m' q.1
/-- the end of a field -/
theorem rj_fieldT {A Bd L Y : Int} {m6 m7 m8 m9 m10 : dc_M} {J : pj_J} {w : List Int} {a b : Int} {m0 : dc_M} (e8 : m8 = dc_up m7 153 (dc_w (6 + L)) b) (e9 : m9 = dc_up m8 160 (dc_w (6 + L)) Y) (e10 : m10 = dc_up m9 151 1 (dc_w (m9 151 1 + 1))) (hL : L = J.1.length) (hl : J.1.length < 6) (hJ : rj_J m7 J) (ha : m7 152 (6 + (J.1.length : Int)) = a) (hY : Y = pj_pk w) (G : rj_G m0 m7) : rj_J m10 (J.1 ++ [(w, a, b)], J.2) ∧ rj_G m0 m10 ∧ ∀ k i, k ≠ 153 → k ≠ 160 → k ≠ 151 → m10 k i = m7 k i := by
  have wz : dc_w (6 + (J.1.length : Int)) = 6 + (J.1.length : Int) := dc_w_eq (by unfold sv_I; omega)
  rw [hL, wz] at e8 e9
  have J8 := hJ.upF e8 (by decide)
  have J9 := J8.upF e9 (by decide)
  have w9 : m9 151 1 = (J.1.length : Int) := J9.1.1
  rw [w9, dc_w_eq (by unfold sv_I; omega)] at e10
  have fr : ∀ k i, k ≠ 153 → k ≠ 160 → k ≠ 151 → m10 k i = m7 k i := fun k i h1 h2 h3 => by rw [e10, dc_up_k h3, e9, dc_up_k h2, e8, dc_up_k h1]
  refine ⟨⟨⟨?_, fun i hi => ?_⟩, fun o h1 h3 => (fr 154 _ (by decide) (by decide) (by decide)).trans (hJ.2.1 o h1 h3), (fr 155 1 (by decide) (by decide) (by decide)).trans hJ.2.2.1, fun i hi => ?_⟩, ((G.up e8 (Or.inr (Or.inr (Or.inr (Or.inl ⟨by decide, by omega⟩)))) (by decide)).up e9 (Or.inr (Or.inr (Or.inr (Or.inl ⟨by decide, by omega⟩)))) (by decide)).up e10 (Or.inr (Or.inl ⟨rfl, rfl⟩)) (by decide), fr⟩
  · rw [e10, dc_up_s]
    show _ = ((J.1 ++ [(w, a, b)]).length : Int)
    rw [List.length_append]; rfl
  · have hi : i < (J.1 ++ [(w, a, b)]).length := hi
    rw [List.length_append] at hi
    have hi : i < J.1.length + 1 := hi
    have r0 : m10 160 (6 + (i : Nat)) = m9 160 (6 + (i : Nat)) := by rw [e10, dc_up_k (by decide)]
    have r1 : m10 152 (6 + (i : Nat)) = m7 152 (6 + (i : Nat)) := fr 152 _ (by decide) (by decide) (by decide)
    have r2 : m10 153 (6 + (i : Nat)) = m8 153 (6 + (i : Nat)) := by rw [e10, dc_up_k (by decide), e9, dc_up_k (by decide)]
    rw [r0, r1, r2]
    show m9 160 (6 + (i : Nat)) = pj_pk ((J.1 ++ [(w, a, b)]).getD i ([], 0, 0)).1 ∧ m7 152 (6 + (i : Nat)) = ((J.1 ++ [(w, a, b)]).getD i ([], 0, 0)).2.1 ∧ m8 153 (6 + (i : Nat)) = ((J.1 ++ [(w, a, b)]).getD i ([], 0, 0)).2.2
    by_cases z : i < J.1.length
    · rw [pj_gl z, e9, dc_up_i (by omega), e8, dc_up_k (by decide), dc_up_i (by omega)]
      exact hJ.1.2 i z
    · have z : i = J.1.length := by omega
      subst z
      rw [pj_gr, e9, dc_up_s, e8, dc_up_s]
      exact ⟨hY, ha, rfl⟩
  · rw [fr 156 _ (by decide) (by decide) (by decide), fr 157 _ (by decide) (by decide) (by decide), fr 158 _ (by decide) (by decide) (by decide), fr 159 _ (by decide) (by decide) (by decide)]
    exact hJ.2.2.2 i hi
theorem rj_field {m : dc_M} {v : Int} {m' : dc_M} {t : Int → Int} {n p : Int} {J : pj_J} (h : D_253 m v m') (S : rz_S m t n 300 p) (hJ : rj_J m J) (ok : pj_ok J) (hl : J.1.length < 6) : pz_on (pj_field t n J p) (fun f => v = 0 ∧ rj_E m m' f) (rj_Q m v m' t n) := by
  obtain ⟨v1, m1, h1, v2, m2, h2, h⟩ := h
  obtain ⟨G1, f1, S1⟩ := rj_next h1 S
  have J1 := hJ.go f1
  obtain ⟨em2, q2⟩ := rj_isn h2 S1
  subst em2
  unfold pj_field
  rw [if_pos (by omega)]
  rcases h with ⟨c2, v3, m3, h3, h⟩ | ⟨c2, v3, m3, h3, ev, em⟩
  · have isn : pj_isn t n (pz_nx t n 300 p) := by
      rcases q2 with ⟨-, y⟩ | ⟨y, -⟩
      · exact y
      · exact absurd y c2
    rw [if_pos isn]
    have nok := pj_name_ok isn.1 S1.2.2.2
    have wd := rj_wd S1 isn.1
    obtain ⟨em3, q3⟩ := rj_foR h3 wd.1 nok ok J1
    subst em3
    have fo := pj_fo_r J.1 (pj_name t n (pz_nx t n 300 p)) 0 (by decide)
    rcases h with ⟨c3, -, v4, m4, h4, v5, m5, h5, h⟩ | ⟨c3, v4, m4, h4, ev, em⟩
    · rw [if_pos (by clear h h4 h5 h3; omega)]
      obtain ⟨G4, f4, S4⟩ := rj_next h4 S1
      have J4 := J1.go f4
      have q5 := rj_num h5 S4
      unfold pj_field2
      refine pz_on_bd (fun f e => ?_) (fun a e => ?_)
      · obtain ⟨y1, y2⟩ := pz_on_l q5 e
        rcases h with ⟨c4, -⟩ | ⟨c4, ev, em⟩
        · exact absurd y1 c4
        · rw [em]; exact ⟨ev, rj_E.go (G1.tr G4).1 y2⟩
      · obtain ⟨y1, y14, y2, G5, f5, S5⟩ := pz_on_r q5 e
        obtain ⟨a, p1⟩ := a
        have y14 : m5 114 14 = a := y14
        have y2 : 1 ≤ a ∧ a ≤ 20 := y2
        have S5 : rz_S m5 t n 300 p1 := S5
        have J5 := J4.go f5
        show pz_on (pz_bd (pz_num t n 300 p1 a (if a + 5 < 20 then a + 5 else 20)) _) _ _
        rcases h with ⟨c4, -, m6, e6, h⟩ | ⟨c4, -⟩
        · have wz : dc_w (6 + (J.1.length : Int)) = 6 + (J.1.length : Int) := dc_w_eq (by unfold sv_I; omega)
          have e6' : m6 = dc_up m5 152 (6 + (J.1.length : Int)) a := by rw [e6, J1.1.1, wz, y14]
          have J6 := J5.upF e6' (by decide)
          have S6 : rz_S m6 t n 300 p1 := by rw [e6]; exact rz_S_k S5 (by decide) (by decide)
          have G6 : rj_G m m6 := ((G1.tr G4).tr G5).up e6' (Or.inr (Or.inr (Or.inr (Or.inl ⟨by decide, by omega⟩)))) (by decide)
          have g14 : m6 114 14 = a := by rw [e6, dc_up_k (by decide)]; exact y14
          have fin : ∀ Bd : Int, Bd = (if a + 5 < 20 then a + 5 else 20) → (∃ v7 m7, D_201 a Bd m6 v7 m7 ∧ ((((v7 : Int) ≠ 0 ∧ ((0 ≤ ((dc_w (6 + (m3 151 1))) : Int) ∧ ((dc_w (6 + (m3 151 1))) : Int) < 12) ∧ ∃ m8, m8 = dc_up m7 153 (dc_w (6 + (m3 151 1))) (m7 114 14) ∧ ((0 ≤ ((dc_w (6 + (m3 151 1))) : Int) ∧ ((dc_w (6 + (m3 151 1))) : Int) < 12) ∧ ∃ m9, m9 = dc_up m8 160 (dc_w (6 + (m3 151 1))) (((m3 114 13).toNat : Nat) : Int) ∧ ((0 ≤ (1 : Int) ∧ (1 : Int) < 2) ∧ ((0 ≤ (1 : Int) ∧ (1 : Int) < 2) ∧ ∃ m10, m10 = dc_up m9 151 1 (dc_w ((m9 151 1) + 1)) ∧ (v = 1 ∧ m' = m10)))))) ∨ (¬ ((v7 : Int) ≠ 0) ∧ (v = 0 ∧ m' = m7))))) → pz_on (pz_bd (pz_num t n 300 p1 a (if a + 5 < 20 then a + 5 else 20)) fun b => (.inr ((J.1 ++ [(pj_name t n (pz_nx t n 300 p), a, b.1)], J.2), b.2) : pz_E (pj_J × Int))) (fun f => v = 0 ∧ rj_E m m' f) (rj_Q m v m' t n) := by
            intro Bd eB ⟨v7, m7, h7, h⟩
            subst eB
            have q7 := rj_num h7 S6
            refine pz_on_bd (fun f e => ?_) (fun b e => ?_)
            · obtain ⟨z1, z2⟩ := pz_on_l q7 e
              rcases h with ⟨c5, -⟩ | ⟨c5, ev, em⟩
              · exact absurd z1 c5
              · rw [em]; exact ⟨ev, rj_E.go G6.1 z2⟩
            · obtain ⟨z1, z14, z2, G7, f7, S7⟩ := pz_on_r q7 e
              rcases h with ⟨c5, -, m8, e8, -, m9, e9, -, -, m10, e10, ev, em⟩ | ⟨c5, -⟩
              · rw [z14] at e8
                obtain ⟨x1, x2, x3⟩ := rj_fieldT (A := 0) (Bd := 0) (m6 := m6) (w := pj_name t n (pz_nx t n 300 p)) (a := a) e8 e9 e10 J1.1.1 hl (J6.go f7) (by rw [f7 152 _ (by decide), e6', dc_up_s]) wd.1 (G6.tr G7)
                rw [em]
                refine ⟨ev, x2, ?_, x1⟩
                rw [e10]; refine rz_S_k ?_ (by decide) (by decide)
                rw [e9]; refine rz_S_k ?_ (by decide) (by decide)
                rw [e8]; exact rz_S_k S7 (by decide) (by decide)
              · exfalso; omega
          rw [g14, dc_w_eq (z := a + 5) (by unfold sv_I; clear h; omega)] at h
          rcases h with ⟨c5, h⟩ | ⟨c5, h⟩
          · exact fin 20 (by rw [if_neg (by omega)]) h
          · exact fin (a + 5) (by rw [if_pos (by omega)]) h
        · exfalso; omega
    · rw [if_neg (by clear h3 h4; omega), em]
      rw [S1.2.1.2.1] at h4
      obtain ⟨y1, y2⟩ := rj_bad h4
      exact ⟨ev.trans y1, rj_E.go G1.1 y2⟩
  · rw [if_neg (by
      rcases q2 with ⟨y, -⟩ | ⟨-, y⟩
      · exfalso; omega
      · exact y), em]
    rw [S1.2.1.2.1] at h3
    obtain ⟨y1, y2⟩ := rj_bad h3
    exact ⟨ev.trans y1, rj_E.go G1.1 y2⟩
theorem rj_break {m : dc_M} {v : Int} {m' : dc_M} {t : Int → Int} {n p : Int} {J : pj_J} (h : D_254 m v m') (S : rz_S m t n 300 p) (hJ : rj_J m J) (ok : pj_ok J) : pz_on (pj_break t n J p) (fun f => v = 0 ∧ rj_E m m' f) (rj_Q m v m' t n) := by
  obtain ⟨v1, m1, h1, v2, m2, h2, h⟩ := h
  obtain ⟨G1, f1, S1⟩ := rj_next h1 S
  have q2 := rj_num h2 S1
  unfold pj_break
  refine pz_on_bd (fun f e => ?_) (fun a e => ?_)
  · obtain ⟨y1, y2⟩ := pz_on_l q2 e
    rcases h with ⟨c1, -⟩ | ⟨c1, ev, em⟩
    · exact absurd y1 c1
    · rw [em]; exact ⟨ev, rj_E.go G1.1 y2⟩
  · obtain ⟨y1, y14, y2, G2, f2, S2⟩ := pz_on_r q2 e
    obtain ⟨a, p1⟩ := a
    have y14 : m2 114 14 = a := y14
    have y2 : 1 ≤ a ∧ a ≤ 20 := y2
    have S2 : rz_S m2 t n 300 p1 := S2
    have J2 := (hJ.go f1).go f2
    show pz_on (pz_bd (pz_num t n 300 p1 1 3) _) _ _
    rcases h with ⟨c1, v3, m3, h3, h⟩ | ⟨c1, -⟩
    · have q3 := rj_num h3 S2
      refine pz_on_bd (fun f e => ?_) (fun o e => ?_)
      · obtain ⟨z1, z2⟩ := pz_on_l q3 e
        rcases h with ⟨c2, -⟩ | ⟨c2, ev, em⟩
        · exact absurd z1 c2
        · rw [em]; exact ⟨ev, rj_E.go (G1.tr G2).1 z2⟩
      · obtain ⟨z1, z14, z2, G3, f3, S3⟩ := pz_on_r q3 e
        obtain ⟨o, p2⟩ := o
        have z14 : m3 114 14 = o := z14
        have z2 : 1 ≤ o ∧ o ≤ 3 := z2
        have S3 : rz_S m3 t n 300 p2 := S3
        have J3 := J2.go f3
        have G : rj_G m m3 := (G1.tr G2).tr G3
        have ob := ok.2.2.1 o
        rcases h with ⟨c2, -, h⟩ | ⟨c2, -⟩
        · rw [z14, dc_w_eq (z := 2 + o) (by unfold sv_I; clear h; omega), J3.2.1 o z2.1 z2.2, y14] at h
          rcases h with ⟨c3, -, m4, e4, ev, em⟩ | ⟨c3, v4, m4, h4, ev, em⟩
          · show pz_on (if J.2.1 o = 0 then _ else _) _ _
            rw [if_pos (by omega), em]
            have f4 : ∀ j i, j ≠ 154 → m4 j i = m3 j i := fun j i hj => by rw [e4, dc_up_k hj]
            refine ⟨ev, G.up e4 (Or.inr (Or.inr (Or.inr (Or.inr (Or.inl ⟨rfl, by omega⟩))))) (by decide), by rw [e4]; exact rz_S_k S3 (by decide) (by decide), ?_⟩
            obtain ⟨⟨f0, ff⟩, bb, w0, w1⟩ := J3
            refine ⟨⟨(f4 151 1 (by decide)).trans f0, fun i hi => ?_⟩, fun q h1 h3 => ?_, (f4 155 1 (by decide)).trans w0, fun i hi => ?_⟩
            · rw [f4 160 _ (by decide), f4 152 _ (by decide), f4 153 _ (by decide)]; exact ff i hi
            · show m4 154 (2 + q) = (if q = o then a else J.2.1 q)
              rw [e4]
              by_cases eq : q = o
              · rw [if_pos eq, eq, dc_up_s]
              · rw [if_neg eq, dc_up_i (by omega)]; exact bb q h1 h3
            · rw [f4 156 _ (by decide), f4 157 _ (by decide), f4 158 _ (by decide), f4 159 _ (by decide)]; exact w1 i hi
          · show pz_on (if J.2.1 o = 0 then _ else _) _ _
            rw [if_neg (by omega), em]
            rw [S2.2.1.2.1] at h4
            obtain ⟨x1, x2⟩ := rj_bad h4
            exact ⟨ev.trans x1, rj_E.go G.1 x2⟩
        · exfalso; omega
    · exfalso; omega
/-- a want more -/
theorem rj_wantE {m m1 : dc_M} {J : pj_J} {f d o x : Int} (e1 : m1 = dc_up m 155 1 (dc_w (m 155 1 + 1))) (hJ : rj_J m J) (h8 : J.2.2.length < 8) (hf : m 156 (8 + (J.2.2.length : Int)) = f) (hd : m 157 (8 + (J.2.2.length : Int)) = d) (ho : m 158 (8 + (J.2.2.length : Int)) = o) (hx : m 159 (8 + (J.2.2.length : Int)) = x) : rj_J m1 (J.1, J.2.1, J.2.2 ++ [(f, d, o, x)]) := by
  obtain ⟨⟨f0, f1⟩, bb, w0, w1⟩ := hJ
  rw [w0, dc_w_eq (by unfold sv_I; omega)] at e1
  have fr : ∀ j i, j ≠ 155 → m1 j i = m j i := fun j i h0 => by rw [e1, dc_up_k h0]
  refine ⟨⟨(fr 151 1 (by decide)).trans f0, fun i hi => ?_⟩, fun q h1 h3 => (fr 154 _ (by decide)).trans (bb q h1 h3), ?_, fun i hi => ?_⟩
  · rw [fr 160 _ (by decide), fr 152 _ (by decide), fr 153 _ (by decide)]; exact f1 i hi
  · rw [e1, dc_up_s]
    show _ = ((J.2.2 ++ [(f, d, o, x)]).length : Int)
    rw [List.length_append]; rfl
  · have hi : i < (J.2.2 ++ [(f, d, o, x)]).length := hi
    rw [List.length_append] at hi
    have hi : i < J.2.2.length + 1 := hi
    rw [fr 156 _ (by decide), fr 157 _ (by decide), fr 158 _ (by decide), fr 159 _ (by decide)]
    show m 156 (8 + (i : Nat)) = ((J.2.2 ++ [(f, d, o, x)]).getD i (0, 0, 0, 0)).1 ∧ m 157 (8 + (i : Nat)) = ((J.2.2 ++ [(f, d, o, x)]).getD i (0, 0, 0, 0)).2.1 ∧ m 158 (8 + (i : Nat)) = ((J.2.2 ++ [(f, d, o, x)]).getD i (0, 0, 0, 0)).2.2.1 ∧ m 159 (8 + (i : Nat)) = ((J.2.2 ++ [(f, d, o, x)]).getD i (0, 0, 0, 0)).2.2.2
    by_cases z : i < J.2.2.length
    · rw [pj_gl z]; exact w1 i z
    · have z : i = J.2.2.length := by omega
      subst z
      rw [pj_gr]
      exact ⟨hf, hd, ho, hx⟩
/-- digits, order and over; s: was it a sum -/
def pj_wt (t : Int → Int) (n : Int) (J : pj_J) (s f p : Int) : pz_E (pj_J × Int) := pz_bd (pj_do t n p) fun q => if s = 0 then .inr ((J.1, J.2.1, J.2.2 ++ [(f, q.1.1, q.1.2, 0)]), q.2) else pj_over t n J f q
theorem rj_wantT {s L f : Int} {m0 m : dc_M} {v : Int} {m' : dc_M} {t : Int → Int} {n p : Int} {J : pj_J} (h : (∃ v_132 m_137, D_201 1 6 m v_132 m_137 ∧ ((((v_132 : Int) ≠ 0 ∧ ((0 ≤ ((dc_w (8 + L)) : Int) ∧ ((dc_w (8 + L)) : Int) < 16) ∧ ∃ m_168, m_168 = dc_up m_137 157 (dc_w (8 + L)) (m_137 114 14) ∧ (∃ v_183 m_188, D_201 1 3 m_168 v_183 m_188 ∧ ((((v_183 : Int) ≠ 0 ∧ ((0 ≤ ((dc_w (8 + L)) : Int) ∧ ((dc_w (8 + L)) : Int) < 16) ∧ ∃ m_219, m_219 = dc_up m_188 158 (dc_w (8 + L)) (m_188 114 14) ∧ ((((s : Int) = 0 ∧ ((0 ≤ (1 : Int) ∧ (1 : Int) < 2) ∧ ((0 ≤ (1 : Int) ∧ (1 : Int) < 2) ∧ ∃ m_258, m_258 = dc_up m_219 155 1 (dc_w ((m_219 155 1) + 1)) ∧ (v = 1 ∧ m' = m_258)))) ∨ (¬ ((s : Int) = 0) ∧ (∃ v_274 m_279, D_249 1870030194 m_219 v_274 m_279 ∧ ((((v_274 : Int) = 0 ∧ ((0 ≤ (1 : Int) ∧ (1 : Int) < 2) ∧ ((0 ≤ (1 : Int) ∧ (1 : Int) < 2) ∧ ∃ m_317, m_317 = dc_up m_279 155 1 (dc_w ((m_279 155 1) + 1)) ∧ (v = 1 ∧ m' = m_317)))) ∨ (¬ ((v_274 : Int) = 0) ∧ (∃ v_330 m_335, D_198 m_279 v_330 m_335 ∧ (∃ v_352 m_357, D_201 1 20 m_335 v_352 m_357 ∧ ((((v_352 : Int) ≠ 0 ∧ ((0 ≤ ((dc_w (8 + L)) : Int) ∧ ((dc_w (8 + L)) : Int) < 16) ∧ ∃ m_388, m_388 = dc_up m_357 159 (dc_w (8 + L)) (m_357 114 14) ∧ ((0 ≤ (1 : Int) ∧ (1 : Int) < 2) ∧ ((0 ≤ (1 : Int) ∧ (1 : Int) < 2) ∧ ∃ m_420, m_420 = dc_up m_388 155 1 (dc_w ((m_388 155 1) + 1)) ∧ (v = 1 ∧ m' = m_420))))) ∨ (¬ ((v_352 : Int) ≠ 0) ∧ (v = 0 ∧ m' = m_357))))))))))))))) ∨ (¬ ((v_183 : Int) ≠ 0) ∧ (v = 0 ∧ m' = m_188))))))) ∨ (¬ ((v_132 : Int) ≠ 0) ∧ (v = 0 ∧ m' = m_137)))))) (hL : L = J.2.2.length) (S : rz_S m t n 300 p) (hJ : rj_J m J) (h8 : J.2.2.length < 8) (G0 : rj_G m0 m) (hf : m 156 (8 + (J.2.2.length : Int)) = f) (hx : m 159 (8 + (J.2.2.length : Int)) = 0) : pz_on (pj_wt t n J s f p) (fun f => v = 0 ∧ rj_E m0 m' f) (rj_Q m0 v m' t n) := by
  have wz : dc_w (8 + L) = 8 + (J.2.2.length : Int) := by rw [hL]; exact dc_w_eq (by unfold sv_I; omega)
  rw [wz] at h
  obtain ⟨v1, m1, h1, h⟩ := h
  have q1 := rj_num h1 S
  unfold pj_wt pj_do
  rw [pz_bd_bd]
  refine pz_on_bd (fun f e => ?_) (fun d e => ?_)
  · obtain ⟨y1, y2⟩ := pz_on_l q1 e
    rcases h with ⟨c1, -⟩ | ⟨c1, ev, em⟩
    · exact absurd y1 c1
    · rw [em]; exact ⟨ev, rj_E.go G0.1 y2⟩
  · obtain ⟨y1, y14, y2, G1, f1, S1⟩ := pz_on_r q1 e
    obtain ⟨d, p1⟩ := d
    have y14 : m1 114 14 = d := y14
    have S1 : rz_S m1 t n 300 p1 := S1
    rcases h with ⟨c1, -, m2, e2, v3, m3, h3, h⟩ | ⟨c1, -⟩
    · rw [y14] at e2
      have J2 := (hJ.go f1).upW e2 (by decide)
      have S2 : rz_S m2 t n 300 p1 := by rw [e2]; exact rz_S_k S1 (by decide) (by decide)
      have G2 : rj_G m0 m2 := (G0.tr G1).up e2 (Or.inr (Or.inr (Or.inr (Or.inr (Or.inr ⟨by decide, by omega⟩))))) (by decide)
      have q3 := rj_num h3 S2
      rw [pz_bd_bd]
      show pz_on (pz_bd (pz_num t n 300 p1 1 3) _) _ _
      refine pz_on_bd (fun f e => ?_) (fun o e => ?_)
      · obtain ⟨z1, z2⟩ := pz_on_l q3 e
        rcases h with ⟨c2, -⟩ | ⟨c2, ev, em⟩
        · exact absurd z1 c2
        · rw [em]; exact ⟨ev, rj_E.go G2.1 z2⟩
      · obtain ⟨z1, z14, z2, G3, f3, S3⟩ := pz_on_r q3 e
        obtain ⟨o, p2⟩ := o
        have z14 : m3 114 14 = o := z14
        have S3 : rz_S m3 t n 300 p2 := S3
        rcases h with ⟨c2, -, m4, e4, h⟩ | ⟨c2, -⟩
        · rw [z14] at e4
          have J4 := (J2.go f3).upW e4 (by decide)
          have S4 : rz_S m4 t n 300 p2 := by rw [e4]; exact rz_S_k S3 (by decide) (by decide)
          have G4 : rj_G m0 m4 := (G2.tr G3).up e4 (Or.inr (Or.inr (Or.inr (Or.inr (Or.inr ⟨by decide, by omega⟩))))) (by decide)
          have g6 : m4 156 (8 + (J.2.2.length : Int)) = f := by rw [e4, dc_up_k (by decide), f3 156 _ (by decide), e2, dc_up_k (by decide), f1 156 _ (by decide), hf]
          have g7 : m4 157 (8 + (J.2.2.length : Int)) = d := by rw [e4, dc_up_k (by decide), f3 157 _ (by decide), e2, dc_up_s]
          have g8 : m4 158 (8 + (J.2.2.length : Int)) = o := by rw [e4, dc_up_s]
          have g9 : m4 159 (8 + (J.2.2.length : Int)) = 0 := by rw [e4, dc_up_k (by decide), f3 159 _ (by decide), e2, dc_up_k (by decide), f1 159 _ (by decide), hx]
          show pz_on (if s = 0 then _ else _) _ _
          rcases h with ⟨c3, -, -, m5, e5, ev, em⟩ | ⟨c3, v5, m5, h5, h⟩
          · rw [if_pos c3, em]
            exact ⟨ev, G4.up e5 (Or.inr (Or.inr (Or.inl ⟨rfl, rfl⟩))) (by decide), by rw [e5]; exact rz_S_k S4 (by decide) (by decide), rj_wantE e5 J4 h8 g6 g7 g8 g9⟩
          · rw [if_neg c3]
            unfold pj_over
            obtain ⟨em5, q5⟩ := rj_isw (s0 := 263) h5 (by decide) pj_K263 S4
            subst em5
            rcases h with ⟨c4, -, -, m6, e6, ev, em⟩ | ⟨c4, v6, m6, h6, v7, m7, h7, h⟩
            · rw [if_neg (by
                rcases q5 with ⟨y, -⟩ | ⟨-, y⟩
                · exfalso; omega
                · exact y), em]
              exact ⟨ev, G4.up e6 (Or.inr (Or.inr (Or.inl ⟨rfl, rfl⟩))) (by decide), by rw [e6]; exact rz_S_k S4 (by decide) (by decide), rj_wantE e6 J4 h8 g6 g7 g8 g9⟩
            · rw [if_pos (by
                rcases q5 with ⟨-, y⟩ | ⟨y, -⟩
                · exact y
                · exact absurd y c4)]
              obtain ⟨G6, f6, S6⟩ := rj_next h6 S4
              have q7 := rj_num h7 S6
              refine pz_on_bd (fun f e => ?_) (fun b e => ?_)
              · obtain ⟨x1, x2⟩ := pz_on_l q7 e
                rcases h with ⟨c5, -⟩ | ⟨c5, ev, em⟩
                · exact absurd x1 c5
                · rw [em]; exact ⟨ev, rj_E.go (G4.tr G6).1 x2⟩
              · obtain ⟨x1, x14, x2, G7, f7, S7⟩ := pz_on_r q7 e
                obtain ⟨b, p3⟩ := b
                have x14 : m7 114 14 = b := x14
                have S7 : rz_S m7 t n 300 p3 := S7
                rcases h with ⟨c5, -, m8, e8, -, -, m9, e9, ev, em⟩ | ⟨c5, -⟩
                · rw [x14] at e8
                  have J8 := ((J4.go f6).go f7).upW e8 (by decide)
                  have k6 : ∀ r : Nat, r ≠ 114 → r ≠ 159 → ∀ i, m8 r i = m5 r i := fun r h1 h2 i => by rw [e8, dc_up_k h2, f7 r i h1, f6 r i h1]
                  rw [em]
                  refine ⟨ev, (((G4.tr G6).tr G7).up e8 (Or.inr (Or.inr (Or.inr (Or.inr (Or.inr ⟨by decide, by omega⟩))))) (by decide)).up e9 (Or.inr (Or.inr (Or.inl ⟨rfl, rfl⟩))) (by decide), ?_, rj_wantE e9 J8 h8 (by rw [k6 156 (by decide) (by decide)]; exact g6) (by rw [k6 157 (by decide) (by decide)]; exact g7) (by rw [k6 158 (by decide) (by decide)]; exact g8) (by rw [e8, dc_up_s])⟩
                  rw [e9]; refine rz_S_k ?_ (by decide) (by decide)
                  rw [e8]; exact rz_S_k S7 (by decide) (by decide)
                · exfalso; omega
        · exfalso; omega
    · exfalso; omega
theorem rj_want {m : dc_M} {v : Int} {m' : dc_M} {t : Int → Int} {n p : Int} {J : pj_J} (h : D_255 m v m') (S : rz_S m t n 300 p) (hJ : rj_J m J) (ok : pj_ok J) (h8 : J.2.2.length < 8) : (pj_is t n p 264 → pz_on (pj_sum t n J p) (fun f => v = 0 ∧ rj_E m m' f) (rj_Q m v m' t n)) ∧ (¬ pj_is t n p 264 → pz_on (pj_count t n J p) (fun f => v = 0 ∧ rj_E m m' f) (rj_Q m v m' t n)) := by
  obtain ⟨v1, m1, h1, h⟩ := h
  obtain ⟨em1, q1⟩ := rj_isw (s0 := 264) h1 (by decide) pj_K264 S
  subst em1
  obtain ⟨-, -, m2, e2, -, m3, e3, v4, m4, h4, h⟩ := h
  have hL : m1 155 1 = (J.2.2.length : Int) := hJ.2.2.1
  have wz : dc_w (8 + m1 155 1) = 8 + (J.2.2.length : Int) := by rw [hL]; exact dc_w_eq (by unfold sv_I; omega)
  rw [wz] at e2 e3
  have J2 := hJ.upW e2 (by decide)
  have J3 := J2.upW e3 (by decide)
  have S3 : rz_S m3 t n 300 p := by
    rw [e3]; refine rz_S_k ?_ (by decide) (by decide)
    rw [e2]; exact rz_S_k S (by decide) (by decide)
  have G3 : rj_G m1 m3 := (rj_G.rf.up e2 (Or.inr (Or.inr (Or.inr (Or.inr (Or.inr ⟨by decide, by omega⟩))))) (by decide)).up e3 (Or.inr (Or.inr (Or.inr (Or.inr (Or.inr ⟨by decide, by omega⟩))))) (by decide)
  obtain ⟨G4, f4, S4⟩ := rj_next h4 S3
  have J4 := J3.go f4
  have g6 : m4 156 (8 + (J.2.2.length : Int)) = -1 := by rw [f4 156 _ (by decide), e3, dc_up_k (by decide), e2, dc_up_s]
  have g9 : m4 159 (8 + (J.2.2.length : Int)) = 0 := by rw [f4 159 _ (by decide), e3, dc_up_s]
  have GG := G3.tr G4
  rcases h with ⟨c1, h⟩ | ⟨c1, v5, m5, h5, h⟩
  · have nis : ¬ pj_is t n p 264 := by
      rcases q1 with ⟨y, -⟩ | ⟨-, y⟩
      · exfalso; clear h; omega
      · exact y
    refine ⟨fun z => absurd z nis, fun _ => ?_⟩
    have fin := rj_wantT h hL S4 J4 h8 GG g6 g9
    unfold pj_count
    rw [if_pos (by omega)]
    unfold pj_wt at fin
    simp only [if_pos c1] at fin
    exact fin
  · have is : pj_is t n p 264 := by
      rcases q1 with ⟨-, y⟩ | ⟨y, -⟩
      · exact y
      · exact absurd y c1
    refine ⟨fun _ => ?_, fun z => absurd is z⟩
    unfold pj_sum
    rw [if_pos (by omega)]
    obtain ⟨em5, q5⟩ := rj_isn h5 S4
    subst em5
    rcases h with ⟨c2, v6, m6, h6, -, m7, e7, -, h⟩ | ⟨c2, v6, m6, h6, ev, em⟩
    · have isn : pj_isn t n (pz_nx t n 300 p) := by
        rcases q5 with ⟨-, y⟩ | ⟨y, -⟩
        · exact y
        · exact absurd y c2
      rw [if_pos isn]
      have nok := pj_name_ok isn.1 S4.2.2.2
      have wd := rj_wd S4 isn.1
      obtain ⟨em6, q6⟩ := rj_foR h6 wd.1 nok ok J4
      subst em6
      rw [wz] at e7
      have J7 := J4.upW e7 (by decide)
      have S7 : rz_S m7 t n 300 (pz_nx t n 300 p) := by rw [e7]; exact rz_S_k S4 (by decide) (by decide)
      have G7 : rj_G m1 m7 := GG.up e7 (Or.inr (Or.inr (Or.inr (Or.inr (Or.inr ⟨by decide, by omega⟩))))) (by decide)
      have fo := pj_fo_r J.1 (pj_name t n (pz_nx t n 300 p)) 0 (by decide)
      have k6 : m7 156 (8 + (J.2.2.length : Int)) = v6 := by rw [e7, dc_up_s]
      have k9 : m7 159 (8 + (J.2.2.length : Int)) = 0 := by rw [e7, dc_up_k (by decide)]; exact g9
      have k6' : m7 156 (dc_w (8 + m1 155 1)) = v6 := by rw [wz]; exact k6
      rw [k6'] at h
      rcases h with ⟨c3, v8, m8, h8', h⟩ | ⟨c3, v8, m8, h8', ev, em⟩
      · rw [if_neg (by clear h h8' h6; omega), ← q6]
        obtain ⟨G8, f8, S8⟩ := rj_next h8' S7
        have J8 := J7.go f8
        have fin := rj_wantT (f := v6) h hL S8 J8 h8 (G7.tr G8) (by rw [f8 156 _ (by decide)]; exact k6) (by rw [f8 159 _ (by decide)]; exact k9)
        unfold pj_wt at fin
        simp only [if_neg c1] at fin
        exact fin
      · rw [if_pos (by clear h8' h6; omega), em]
        rw [S7.2.1.2.1] at h8'
        obtain ⟨y1, y2⟩ := rj_bad h8'
        exact ⟨ev.trans y1, rj_E.go G7.1 y2⟩
    · rw [if_neg (by
        rcases q5 with ⟨y, -⟩ | ⟨-, y⟩
        · exfalso; omega
        · exact y), em]
      rw [S4.2.1.2.1] at h6
      obtain ⟨y1, y2⟩ := rj_bad h6
      exact ⟨ev.trans y1, rj_E.go GG.1 y2⟩
