/-! THE STATE, AND RUNS THAT COME TO AN END -/
/-- a fact of many places: kind, row (symbol, type), second row, stride, forms (offset, bound, least, greatest) -/
abbrev sv_Q : Type := Nat × (Nat × Nat) × (Nat × Nat) × Nat × sv_L × sv_L × sv_L × sv_L
abbrev sv_S : Type := sv_A × List (Nat × sv_V) × List sv_V × List sv_F × List sv_M × List sv_Q
section
variable (ty : Nat → Option Nat) (tt : List sv_T) (op : Nat → ae_H → Nat → Nat → Int → Int → Int → Int → Prop)
/-- kind 0: the places stride * j + offset, j below the bound; kind 1: the places row[j] + offset of the second row; others: as op has them -/
def sv_Qk (ρ : Nat → Int) (n : Nat) (h : ae_H) (q : sv_Q) : Prop :=
  (q.2.1.1 < n ∧ q.2.2.1.1 < n ∧ sv_wf n q.2.2.2.2.1 ∧ sv_wf n q.2.2.2.2.2.1 ∧ sv_wf n q.2.2.2.2.2.2.1 ∧ sv_wf n q.2.2.2.2.2.2.2) ∧
  ∃ k k2 : Nat, ρ q.2.1.1 = k ∧ ty k = some q.2.1.2 ∧ ρ q.2.2.1.1 = k2 ∧ ty k2 = some q.2.2.1.2 ∧ match q.1 with
  | 0 => ∀ (tag len A : Nat), ae_hg h k = some (.inl (tag, len, .inl A)) → ∀ j i : Nat, (j : Int) < sv_ev ρ q.2.2.2.2.2.1 → (i : Int) = q.2.2.2.1 * j + sv_ev ρ q.2.2.2.2.1 → i < len → sv_ev ρ q.2.2.2.2.2.2.1 ≤ sv_g (ae_rd 32 A i) ∧ sv_g (ae_rd 32 A i) ≤ sv_ev ρ q.2.2.2.2.2.2.2
  | 1 => ∀ (tag len A tag2 len2 A2 : Nat), ae_hg h k = some (.inl (tag, len, .inl A)) → ae_hg h k2 = some (.inl (tag2, len2, .inl A2)) → ∀ j i : Nat, (j : Int) < sv_ev ρ q.2.2.2.2.2.1 → j < len → (i : Int) = sv_g (ae_rd 32 A j) + sv_ev ρ q.2.2.2.2.1 → i < len2 → sv_ev ρ q.2.2.2.2.2.2.1 ≤ sv_g (ae_rd 32 A2 i) ∧ sv_g (ae_rd 32 A2 i) ≤ sv_ev ρ q.2.2.2.2.2.2.2
  | m => op m h k k2 (sv_ev ρ q.2.2.2.2.1) (sv_ev ρ q.2.2.2.2.2.1) (sv_ev ρ q.2.2.2.2.2.2.1) (sv_ev ρ q.2.2.2.2.2.2.2)
theorem sv_Qk.up {ty : Nat → Option Nat} {op : Nat → ae_H → Nat → Nat → Int → Int → Int → Int → Prop} {ρ ρ' : Nat → Int} {n n' : Nat} {h : ae_H} (he : ∀ s, s < n → ρ' s = ρ s) (hn : n ≤ n') {q : sv_Q} (hq : sv_Qk ty op ρ n h q) : sv_Qk ty op ρ' n' h q := by
  obtain ⟨⟨r1, r2, w1, w2, w3, w4⟩, k, k2, h1, h2, h3, h4, h5⟩ := hq
  refine ⟨⟨Nat.lt_of_lt_of_le r1 hn, Nat.lt_of_lt_of_le r2 hn, sv_wf_up hn w1, sv_wf_up hn w2, sv_wf_up hn w3, sv_wf_up hn w4⟩, k, k2, (he _ r1).trans h1, h2, (he _ r2).trans h3, h4, ?_⟩
  rw [sv_ev_up he w1, sv_ev_up he w2, sv_ev_up he w3, sv_ev_up he w4]; exact h5
/-- what is known of the heap -/
def sv_Hk (ρ : Nat → Int) (n : Nat) (h : ae_H) (F : List sv_F) (M : List sv_M) (Q : List sv_Q) : Prop := (∀ q ∈ F, sv_Fk ty ρ n h q) ∧ (∀ q ∈ M, sv_Mk ty ρ n h q) ∧ (∀ q ∈ Q, sv_Qk ty op ρ n h q)
theorem sv_Hk.up {ty : Nat → Option Nat} {op : Nat → ae_H → Nat → Nat → Int → Int → Int → Int → Prop} {ρ ρ' : Nat → Int} {n n' : Nat} {h : ae_H} {F : List sv_F} {M : List sv_M} {Q : List sv_Q} (he : ∀ s, s < n → ρ' s = ρ s) (hn : n ≤ n') (hh : sv_Hk ty op ρ n h F M Q) : sv_Hk ty op ρ' n' h F M Q :=
  ⟨fun q hq => (hh.1 q hq).up he hn, fun q hq => (hh.2.1 q hq).up he hn, fun q hq => (hh.2.2 q hq).up he hn⟩
/-- the heap is typed, and changed from the start on only where it may -/
def sv_Tk (mods : List (Nat × Nat)) (h0 h : ae_H) : Prop := sv_hk ty tt h ∧ sv_fr ty mods h0 h
/-- a state of the verifier and one of the runner -/
def sv_R (ρ0 : Nat → Int) (n0 : Nat) (mods : List (Nat × Nat)) (h0 : ae_H) (ρ : Nat → Int) (S : sv_S) (lv : ae_L) (st : List ae_V) (h : ae_H) : Prop :=
  sv_ak ρ S.1 ∧ (n0 ≤ S.1.1 ∧ ∀ s, s < n0 → ρ s = ρ0 s) ∧ sv_lk ty ρ S.1.1 S.2.1 lv ∧ sv_sk ty ρ S.1.1 S.2.2.1 st ∧ sv_Hk ty op ρ S.1.1 h S.2.2.2.1 S.2.2.2.2.1 S.2.2.2.2.2 ∧ sv_Tk ty tt mods h0 h
end
/-- the runner comes to an end that Q has -/
def sv_G (Q : ae_R → Prop) (mi pc : Nat) (lv : ae_L) (st : List ae_V) (h : ae_H) : Prop := ∃ r, Q r ∧ ∃ N, ∀ n, N ≤ n → ae_exe n mi pc 0 0 lv st h = some r
theorem sv_exe_s {mi pc : Nat} {M : ae_M} {i : Instr} {len : Nat} (hM : ae_m mi = some M) (hd : decode M.2.2.1 pc = .ok (i, len)) (hl : Nat.beq len (ae_ln i len) = true) (n : Nat) (lv : ae_L) (st : List ae_V) (h : ae_H) :
    ae_exe (n + 1) mi pc 0 0 lv st h = ae_step i M pc 0 0 lv st h (fun pc ce sl lv st h => ae_f pc fun pc => ae_exe n mi pc ce sl lv st h) (fun mj as h => ae_exe n mj 0 0 0 (ae_args as 0) [] h) := by
  show (match ae_m mi with
      | none => none
      | some M => match decode M.2.2.1 pc with
        | .error _ => none
        | .ok (i, len) => cond (Nat.beq len (ae_ln i len)) (ae_step i M pc 0 0 lv st h (fun pc ce sl lv st h => ae_f pc fun pc => ae_exe n mi pc ce sl lv st h) (fun mj as h => ae_exe n mj 0 0 0 (ae_args as 0) [] h)) none) = _
  rw [hM]
  show (match decode M.2.2.1 pc with
        | .error _ => none
        | .ok (i, len) => cond (Nat.beq len (ae_ln i len)) (ae_step i M pc 0 0 lv st h (fun pc ce sl lv st h => ae_f pc fun pc => ae_exe n mi pc ce sl lv st h) (fun mj as h => ae_exe n mj 0 0 0 (ae_args as 0) [] h)) none) = _
  rw [hd]
  show cond (Nat.beq len (ae_ln i len)) _ none = _
  rw [hl, cond_true]
section
variable {Q : ae_R → Prop} {mi pc pc' : Nat} {M : ae_M} {i : Instr} {len : Nat} {lv lv' : ae_L} {st st' : List ae_V} {h h' : ae_H}
theorem sv_G_step (hM : ae_m mi = some M) (hd : decode M.2.2.1 pc = .ok (i, len)) (hl : Nat.beq len (ae_ln i len) = true) (hs : ∀ K C, ae_step i M pc 0 0 lv st h K C = K pc' 0 0 lv' st' h') (g : sv_G Q mi pc' lv' st' h') : sv_G Q mi pc lv st h := by
  obtain ⟨r, hr, N, hN⟩ := g
  refine ⟨r, hr, N + 1, fun n hn => ?_⟩
  obtain ⟨m, rfl⟩ : ∃ m, n = m + 1 := ⟨n - 1, by omega⟩
  rw [sv_exe_s hM hd hl, hs, ae_f_eq]
  exact hN m (by omega)
theorem sv_G_ret {r : ae_R} (hM : ae_m mi = some M) (hd : decode M.2.2.1 pc = .ok (i, len)) (hl : Nat.beq len (ae_ln i len) = true) (hs : ∀ K C, ae_step i M pc 0 0 lv st h K C = some r) (hr : Q r) : sv_G Q mi pc lv st h := by
  refine ⟨r, hr, 1, fun n hn => ?_⟩
  obtain ⟨m, rfl⟩ : ∃ m, n = m + 1 := ⟨n - 1, by omega⟩
  rw [sv_exe_s hM hd hl, hs]
def sv_push (v : Option ae_V) (rest : List ae_V) : List ae_V := match v with
  | some v => v :: rest
  | none => rest
theorem sv_G_call {mj : Nat} {as : List ae_V} {rest : List ae_V} (hM : ae_m mi = some M) (hd : decode M.2.2.1 pc = .ok (i, len)) (hl : Nat.beq len (ae_ln i len) = true) (hs : ∀ K C r, C mj as h = some r → ae_step i M pc 0 0 lv st h K C = K pc' 0 0 lv (sv_push r.1 rest) r.2)
    (g : sv_G (fun r => sv_G Q mi pc' lv (sv_push r.1 rest) r.2) mj 0 (ae_args as 0) [] h) : sv_G Q mi pc lv st h := by
  obtain ⟨r1, ⟨r, hr, N, hN⟩, N1, hN1⟩ := g
  refine ⟨r, hr, N + N1 + 1, fun n hn => ?_⟩
  obtain ⟨m, rfl⟩ : ∃ m, n = m + 1 := ⟨n - 1, by omega⟩
  rw [sv_exe_s hM hd hl, hs _ _ r1 (hN1 m (by omega)), ae_f_eq]
  exact hN m (by omega)
theorem sv_G_mono {Q' : ae_R → Prop} (hQ : ∀ r, Q r → Q' r) (g : sv_G Q mi pc lv st h) : sv_G Q' mi pc lv st h := by
  obtain ⟨r, hr, N, hN⟩ := g
  exact ⟨r, hQ r hr, N, hN⟩
end
