/-! FURTHER FACTS, AND CONTRACTS OUT OF WALKS BY HAND -/
theorem wa_R_hg {h h' : ae_H} {k : Nat} (e : ae_hg h' k = ae_hg h k) (i : Int) : wk_R h' k i = wk_R h k i := by unfold wk_R; rw [e]
/-- 2: the first 20 bytes are those of a CARD; 3: a set of WANTS fits; 4: countOf counts the givers of a row -/
def sv_op (m : Nat) (h : ae_H) (k k2 : Nat) (o _e _l _u : Int) : Prop := match m with
  | 2 => sv_ty k = some 13 ∧ (∃ c, ae_hg h k = some (.inl c)) ∧ ∀ i, 0 ≤ i → i < 20 → wk_R h k i ≤ 31 ∧ sv_mb wk_mask (wk_R h k i)
  | 3 => (∀ i, ∃ c, ae_hg h (wm_a i) = some (.inl c)) ∧ wm_fit (wm_J h) o
  | 4 => sv_ty k = some 69 ∧ sv_ty k2 = some 71 ∧ (∃ c, ae_hg h k = some (.inl c)) ∧ (∃ c, ae_hg h k2 = some (.inl c)) ∧ ∃ kg, sv_ty kg = some 68 ∧ (∃ c, ae_hg h kg = some (.inl c)) ∧ ∀ l, 0 ≤ l → l < 217 → wk_R h k2 l = wk_cnt (wk_R h kg) (wk_R h k) l 96
  | _ => True
theorem wa_fr_c {ms : List (Nat × Nat)} {h h' : ae_H} {k t : Nat} {c : Nat × Nat × ae_X} (hf : sv_fr sv_ty ms h h') (hk : sv_ty k = some t) (hc : ae_hg h k = some (.inl c)) (hm : (t, 0) ∉ ms) : ae_hg h' k = ae_hg h k := by
  rw [hc]; exact hf k t hk (.inl c) hc hm
theorem wm_J_fr {ms : List (Nat × Nat)} {h h' : ae_H} (hf : sv_fr sv_ty ms h h') (hc : ∀ i, ∃ c, ae_hg h (wm_a i) = some (.inl c)) (hm : ∀ q ∈ sv_od 3, q ∉ ms) : (∀ i, ae_hg h' (wm_a i) = ae_hg h (wm_a i)) ∧ wm_J h' = wm_J h := by
  have key : ∀ i, ae_hg h' (wm_a i) = ae_hg h (wm_a i) := fun i => by
    obtain ⟨c, ec⟩ := hc i
    obtain ⟨t, ht, hmem⟩ := wm_a_t i
    exact wa_fr_c hf ht ec (hm _ hmem)
  refine ⟨key, ?_⟩
  funext i x
  unfold wm_J
  rw [wa_R_hg (key i)]
theorem sv_op_k : sv_opk sv_ty sv_op sv_od := fun m ms h h' k k2 x y z w hf hd ho => by
  match m, hd, ho with
  | 0, _, _ => exact trivial
  | 1, _, _ => exact trivial
  | 2, hd, ⟨h1, ⟨c, h2⟩, h3⟩ =>
    have e := wa_fr_c hf h1 h2 (hd (13, 0) (by decide))
    exact ⟨h1, ⟨c, e.trans h2⟩, fun i a b => by rw [wa_R_hg e]; exact h3 i a b⟩
  | 3, hd, ⟨h1, h2⟩ =>
    obtain ⟨e1, e2⟩ := wm_J_fr hf h1 hd
    refine ⟨fun i => ?_, by rw [e2]; exact h2⟩
    obtain ⟨c, ec⟩ := h1 i
    exact ⟨c, (e1 i).trans ec⟩
  | 4, hd, ⟨h1, h2, ⟨c, h3⟩, ⟨c2, h4⟩, kg, h5, ⟨c3, h6⟩, h7⟩ =>
    have e1 := wa_fr_c hf h1 h3 (hd (69, 0) (by decide))
    have e2 := wa_fr_c hf h2 h4 (hd (71, 0) (by decide))
    have e3 := wa_fr_c hf h5 h6 (hd (68, 0) (by decide))
    refine ⟨h1, h2, ⟨c, e1.trans h3⟩, ⟨c2, e2.trans h4⟩, kg, h5, ⟨c3, e3.trans h6⟩, fun l a b => ?_⟩
    rw [wa_R_hg e2, h7 l a b, show wk_R h' kg = wk_R h kg from funext fun i => wa_R_hg e3 i, show wk_R h' k = wk_R h k from funext fun i => wa_R_hg e1 i]
  | m + 5, _, _ => exact trivial
/-! reading a pattern -/
section
variable {ρ : Nat → Int} {P : sv_P} {lv : ae_L} {h : ae_H}
theorem wa_ev1 (ρ : Nat → Int) (s : Nat) : sv_ev ρ (0, [(s, 1)]) = ρ s := by show (0 : Int) + (1 * ρ s + 0) = ρ s; omega
theorem wa_loc1 (hP : sv_Pk sv_ty sv_op ρ P lv h) {i t s : Nat} (hi : ae_lk P.2.2.2.1 i = some (1, t, (0, [(s, 1)]))) : ∃ k : Nat, ρ s = k ∧ ae_lk lv i = some (wk_r k) ∧ sv_ty k = some t := by
  obtain ⟨c, h1, -, k, h2, h3, h4⟩ := hP.2.2.1 i _ hi
  exact ⟨k, (wa_ev1 ρ s).symm.trans h2, by rw [h1, h3], h4⟩
theorem wa_loc0 (hP : sv_Pk sv_ty sv_op ρ P lv h) {i s : Nat} (hi : ae_lk P.2.2.2.1 i = some (0, 0, (0, [(s, 1)]))) : ae_lk lv i = some (wk_i (ρ s)) ∧ sv_I (ρ s) := by
  obtain ⟨c, h1, -, h2, h3⟩ := hP.2.2.1 i _ hi
  have h2 : c = .inl (.inl (sv_u (sv_ev ρ (0, [(s, 1)])))) := h2
  have h3 : sv_I (sv_ev ρ (0, [(s, 1)])) := h3
  rw [wa_ev1] at h2 h3
  exact ⟨by rw [h1, h2], h3⟩
theorem wa_fld1 (hP : sv_Pk sv_ty sv_op ρ P lv h) {r t j t2 s : Nat} (hm : ((r, t, j), (1, t2, (0, [(s, 1)]))) ∈ P.2.2.2.2.1) : ∃ k k2 : Nat, ρ r = k ∧ sv_ty k = some t ∧ ρ s = k2 ∧ sv_ty k2 = some t2 ∧ wk_F h k j = some (wk_r k2) := by
  obtain ⟨-, k, ci, fs, c, h1, h2, h3, h4, -, k2, h5, h6, h7⟩ := hP.2.2.2.1 _ hm
  exact ⟨k, k2, h1, h2, (wa_ev1 ρ s).symm.trans h5, h7, by rw [wk_F_of h3, h4, h6]⟩
theorem wa_fld0 (hP : sv_Pk sv_ty sv_op ρ P lv h) {r t j s : Nat} (hm : ((r, t, j), (0, 0, (0, [(s, 1)]))) ∈ P.2.2.2.2.1) : ∃ k : Nat, ρ r = k ∧ sv_ty k = some t ∧ wk_F h k j = some (wk_i (ρ s)) ∧ sv_I (ρ s) := by
  obtain ⟨-, k, ci, fs, c, h1, h2, h3, h4, -, h5, h6⟩ := hP.2.2.2.1 _ hm
  have h5 : c = .inl (.inl (sv_u (sv_ev ρ (0, [(s, 1)])))) := h5
  have h6 : sv_I (sv_ev ρ (0, [(s, 1)])) := h6
  rw [wa_ev1] at h5 h6
  exact ⟨k, h1, h2, by rw [wk_F_of h3, h4, h5], h6⟩
theorem wa_mem (hP : sv_Pk sv_ty sv_op ρ P lv h) {r t : Nat} {i v : sv_L} (hm : (r, t, i, v) ∈ P.2.2.2.2.2.1) : ∃ k : Nat, ρ r = k ∧ sv_ty k = some t ∧ 0 ≤ sv_ev ρ i ∧ sv_ev ρ v = wk_R h k (sv_ev ρ i) := by
  obtain ⟨-, -, -, k, tag, len, A, I, h1, h2, h3, h4, h5, h6⟩ := hP.2.2.2.2.1 _ hm
  have h4 : sv_ev ρ i = I := h4
  exact ⟨k, h1, h2, by omega, by rw [wk_R_of h3, h4, Int.toNat_natCast]; exact h6⟩
end
/-! making the pattern behind -/
def wa_x (ρ : Nat → Int) (N : Nat) (vs : List Int) (s : Nat) : Int := if s < N then ρ s else (vs[s - N]?).getD 0
theorem wa_x_lt {ρ : Nat → Int} {N : Nat} {vs : List Int} {s : Nat} (hs : s < N) : wa_x ρ N vs s = ρ s := if_pos hs
def wa_B (ρ : Nat → Int) : Nat → List (Int × Int) → Prop
  | _, [] => True
  | k, b :: l => (b.1 ≤ ρ k ∧ ρ k ≤ b.2) ∧ wa_B ρ (k + 1) l
theorem wa_B_ok {ρ : Nat → Int} : ∀ {l : List (Int × Int)} {j : Nat}, wa_B ρ j l → ∀ (k : Nat) (b : Int × Int), l[k]? = some b → b.1 ≤ ρ (j + k) ∧ ρ (j + k) ≤ b.2
  | [], _, _, k, b, hb => by simp at hb
  | c :: l, j, ⟨h1, h2⟩, 0, b, hb => by
    have : c = b := by simpa using hb
    subst this; exact h1
  | c :: l, j, ⟨h1, h2⟩, k + 1, b, hb => by
    have := wa_B_ok h2 k b (by simpa using hb)
    rw [show j + (k + 1) = j + 1 + k by omega]; exact this
theorem wa_ret {ρ : Nat → Int} {n s : Nat} {x : Int} (hs : s < n) (hx : sv_I x) (e : ρ s = x) : sv_lk sv_ty ρ n [(1000, (0, 0, (0, [(s, 1)])))] (sv_rl (some (wk_i x))) := fun i v hi => by
  have hi : cond (Nat.beq 1000 i) (some (0, 0, (0, [(s, 1)]))) none = some v := hi
  cases hb : Nat.beq 1000 i with
  | false => rw [hb] at hi; cases hi
  | true =>
    rw [hb, cond_true] at hi
    cases hi
    have ei := Nat.eq_of_beq_eq_true hb
    subst ei
    refine ⟨wk_i x, rfl, fun q hq => by cases List.mem_singleton.mp hq; exact hs, ?_, ?_⟩
    · show _ = Sum.inl (Sum.inl (sv_u (sv_ev ρ (0, [(s, 1)]))))
      rw [wa_ev1, e]
    · show sv_I (sv_ev ρ (0, [(s, 1)]))
      rw [wa_ev1, e]; exact hx
theorem wa_nil {ρ : Nat → Int} {n : Nat} {lv : ae_L} : sv_lk sv_ty ρ n [] lv := fun i v hi => by cases hi
theorem wa_mkF {h : ae_H} {k j : Nat} {c : ae_V} (hF : wk_F h k j = some c) : ∃ ci fs, ae_hg h k = some (.inr (ci, fs)) ∧ fs[j]? = some c := by
  unfold wk_F at hF
  split at hF
  · next ci fs e => exact ⟨ci, fs, e, hF⟩
  · cases hF
theorem wa_F1 {ρ : Nat → Int} {n r t j t2 s k k2 : Nat} {h : ae_H} (hr : r < n) (hs : s < n) (e1 : ρ r = k) (t1 : sv_ty k = some t) (e2 : ρ s = k2) (t3 : sv_ty k2 = some t2) (hF : wk_F h k j = some (wk_r k2)) : sv_Fk sv_ty ρ n h ((r, t, j), (1, t2, (0, [(s, 1)]))) := by
  obtain ⟨ci, fs, g1, g2⟩ := wa_mkF hF
  exact ⟨hr, k, ci, fs, _, e1, t1, g1, g2, fun q hq => by cases List.mem_singleton.mp hq; exact hs, k2, (wa_ev1 ρ s).trans e2, rfl, t3⟩
theorem wa_F0 {ρ : Nat → Int} {n r t j s k : Nat} {h : ae_H} (hr : r < n) (hs : s < n) (e1 : ρ r = k) (t1 : sv_ty k = some t) (hF : wk_F h k j = some (wk_i (ρ s))) (hI : sv_I (ρ s)) : sv_Fk sv_ty ρ n h ((r, t, j), (0, 0, (0, [(s, 1)]))) := by
  obtain ⟨ci, fs, g1, g2⟩ := wa_mkF hF
  refine ⟨hr, k, ci, fs, _, e1, t1, g1, g2, fun q hq => by cases List.mem_singleton.mp hq; exact hs, ?_, ?_⟩
  · show _ = Sum.inl (Sum.inl (sv_u (sv_ev ρ (0, [(s, 1)]))))
    rw [wa_ev1]
  · show sv_I (sv_ev ρ (0, [(s, 1)]))
    rw [wa_ev1]; exact hI
theorem wa_M {ρ : Nat → Int} {n r t k tag len mask s : Nat} {lo hi i : Int} {idx : sv_L} {h : ae_H} (hh : sv_hk sv_ty sv_tt h) (hr : r < n) (hs : s < n) (hw : sv_wf n idx) (e1 : ρ r = k) (t1 : sv_ty k = some t) (hT : sv_tt[t]? = some (1, tag, len, lo, hi, mask, [])) (ei : sv_ev ρ idx = i) (hi2 : 0 ≤ i ∧ i < len) (ev : ρ s = wk_R h k i) : sv_Mk sv_ty ρ n h (r, t, idx, (0, [(s, 1)])) := by
  obtain ⟨A, g1, -⟩ := sv_hk_a hh t1 hT rfl
  refine ⟨hr, hw, fun q hq => by cases List.mem_singleton.mp hq; exact hs, k, tag, len, A, i.toNat, e1, t1, g1, ?_, by omega, ?_⟩
  · show sv_ev ρ idx = _
    rw [ei]; omega
  · show sv_ev ρ (0, [(s, 1)]) = _
    rw [wa_ev1, ev, wk_R_of g1]
noncomputable def wa_p (C : sv_C) (k : Nat) : sv_P := (C.2.2.2[k]?).getD C.2.2.1
theorem wa_p_mem {C : sv_C} {k : Nat} (hk : k < C.2.2.2.length) : wa_p C k ∈ C.2.2.2 := by
  unfold wa_p
  rw [List.getElem?_eq_getElem hk]
  exact List.getElem_mem hk
def wa_A {α : Type} (p : α → Prop) : List α → Prop
  | [] => True
  | x :: l => p x ∧ wa_A p l
theorem wa_A_ok {α : Type} {p : α → Prop} : ∀ {l : List α}, wa_A p l → ∀ x ∈ l, p x
  | [], _, x, hx => by cases hx
  | y :: l, ⟨h1, h2⟩, x, hx => by
    rcases List.mem_cons.mp hx with e | e
    · subst e; exact h1
    · exact wa_A_ok h2 x e
theorem wa_post {C : sv_C} {ρ : Nat → Int} {h : ae_H} {r : ae_R} (k : Nat) (vs : List Int) (hk : k < C.2.2.2.length) (hB : wa_B (wa_x ρ C.2.2.1.2.1.length vs) 0 (wa_p C k).2.1) (hC : wa_A (fun c => 0 ≤ sv_ev (wa_x ρ C.2.2.1.2.1.length vs) c ∧ sv_wf (wa_p C k).2.1.length c) (wa_p C k).2.2.1) (hL : sv_lk sv_ty (wa_x ρ C.2.2.1.2.1.length vs) (wa_p C k).2.1.length (wa_p C k).2.2.2.1 (sv_rl r.1)) (hF : wa_A (sv_Fk sv_ty (wa_x ρ C.2.2.1.2.1.length vs) (wa_p C k).2.1.length r.2) (wa_p C k).2.2.2.2.1) (hM : wa_A (sv_Mk sv_ty (wa_x ρ C.2.2.1.2.1.length vs) (wa_p C k).2.1.length r.2) (wa_p C k).2.2.2.2.2.1) (hQ : wa_A (sv_Qk sv_ty sv_op (wa_x ρ C.2.2.1.2.1.length vs) (wa_p C k).2.1.length r.2) (wa_p C k).2.2.2.2.2.2) (hT : sv_Tk sv_ty sv_tt C.2.1 h r.2) (hn : ae_lk (wa_p C k).2.2.2.1 1000 = none → r.1 = none) : sv_post sv_ty sv_tt sv_op C ρ h r :=
  ⟨wa_p C k, wa_p_mem hk, wa_x ρ C.2.2.1.2.1.length vs, fun s hs => wa_x_lt hs, ⟨fun j b hb => by
    have := wa_B_ok hB j b hb
    rw [Nat.zero_add] at this; exact this, wa_A_ok hC, hL, wa_A_ok hF, wa_A_ok hM, wa_A_ok hQ⟩, hT, hn⟩
