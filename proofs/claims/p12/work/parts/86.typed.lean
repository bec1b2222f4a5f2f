/-! THE HEAP BEHIND BOTH CONSTRUCTORS IS TYPED -/
def sz_ty (k t : Nat) : Bool := match sv_ty k with
  | some u => Nat.beq u t
  | none => false
theorem sz_ty_ok {k t : Nat} (h : sz_ty k t = true) : sv_ty k = some t := by
  unfold sz_ty at h
  cases hk : sv_ty k with
  | none => rw [hk] at h; cases h
  | some u => rw [hk] at h; rw [ae_beq (a := u) (b := t) h]
def sz_fk (t : sv_ft) (c : ae_V) : Bool := match c with
  | .inl (.inl z) => and (Nat.beq t.1 0) (and (Nat.blt z 4294967296) (and (decide (t.2.1 ≤ sv_g z)) (decide (sv_g z ≤ t.2.2.1))))
  | .inl (.inr _) => false
  | .inr (.inl z) => and (Nat.beq t.1 4) (Nat.blt z 18446744073709551616)
  | .inr (.inr none) => Nat.beq t.1 3
  | .inr (.inr (some k)) => and (or (Nat.beq t.1 1) (Nat.beq t.1 3)) (sz_ty k t.2.2.2)
theorem sz_fk_ok {t : sv_ft} {c : ae_V} (h : sz_fk t c = true) : sv_fk sv_ty t c := by
  obtain ⟨t1, t2, t3, t4⟩ := t
  match c, h with
  | .inl (.inl z), h =>
    obtain ⟨h1, h⟩ := ae_band h
    obtain ⟨h2, h⟩ := ae_band h
    obtain ⟨h3, h4⟩ := ae_band h
    have e : t1 = 0 := ae_beq h1
    subst e
    have hz := ae_blt h2
    exact ⟨sv_g z, by rw [sv_u_g hz], sv_g_I hz, of_decide_eq_true h3, of_decide_eq_true h4⟩
  | .inr (.inl z), h =>
    obtain ⟨h1, h2⟩ := ae_band h
    have e : t1 = 4 := ae_beq h1
    subst e
    have hz := ae_blt h2
    refine ⟨if z < 9223372036854775808 then (z : Int) else (z : Int) - 18446744073709551616, ?_, ?_⟩
    · have : sv_ul (if z < 9223372036854775808 then (z : Int) else (z : Int) - 18446744073709551616) = z := by
        unfold sv_ul
        split <;> omega
      rw [this]
    · unfold sv_J
      split <;> omega
  | .inr (.inr none), h =>
    have e : t1 = 3 := ae_beq h
    subst e
    exact Or.inl rfl
  | .inr (.inr (some k)), h =>
    obtain ⟨h1, h2⟩ := ae_band h
    have h2 := sz_ty_ok h2
    rw [Bool.or_eq_true] at h1
    rcases h1 with q | q
    · have e : t1 = 1 := ae_beq q
      subst e
      exact ⟨k, rfl, h2⟩
    · have e : t1 = 3 := ae_beq q
      subst e
      exact Or.inr ⟨k, rfl, h2⟩
def sz_fs : List sv_ft → List ae_V → Bool
  | [], [] => true
  | t :: l, c :: m => and (sz_fk t c) (sz_fs l m)
  | _, _ => false
theorem sz_fs_ok : ∀ {l : List sv_ft} {m : List ae_V}, sz_fs l m = true → m.length = l.length ∧ ∀ (j : Nat) (t : sv_ft) (c : ae_V), l[j]? = some t → m[j]? = some c → sv_fk sv_ty t c
  | [], [], _ => ⟨rfl, fun j t c hj => by simp at hj⟩
  | t :: l, c :: m, h => by
    obtain ⟨h1, h2⟩ := ae_band (show and (sz_fk t c) (sz_fs l m) = true from h)
    obtain ⟨g1, g2⟩ := sz_fs_ok h2
    refine ⟨by rw [List.length_cons, List.length_cons, g1], fun j t' c' hj hc => ?_⟩
    cases j with
    | zero =>
      have e1 : t = t' := by simpa using hj
      have e2 : c = c' := by simpa using hc
      subst e1; subst e2
      exact sz_fk_ok h1
    | succ j => exact g2 j t' c' (by simpa using hj) (by simpa using hc)
  | [], _ :: _, h => by cases h
  | _ :: _, [], h => by cases h
def sz_1 (lo hi : Int) (mk : Nat) (x : Int) : Bool := and (decide (lo ≤ x)) (and (decide (x ≤ hi)) (or (Nat.beq mk 0) (and (decide (0 ≤ x)) (mk.testBit x.toNat))))
theorem sz_1_ok {lo hi : Int} {mk : Nat} {x : Int} (h : sz_1 lo hi mk x = true) : lo ≤ x ∧ x ≤ hi ∧ sv_mb mk x := by
  obtain ⟨h1, h⟩ := ae_band h
  obtain ⟨h2, h3⟩ := ae_band h
  refine ⟨of_decide_eq_true h1, of_decide_eq_true h2, ?_⟩
  rw [Bool.or_eq_true] at h3
  rcases h3 with q | q
  · exact Or.inl (ae_beq q)
  · obtain ⟨q1, q2⟩ := ae_band q
    exact Or.inr ⟨of_decide_eq_true q1, q2⟩
noncomputable def sz_row (A n : Nat) (lo hi : Int) (mk : Nat) : Bool := cond (Nat.beq A 0) (sz_1 lo hi mk 0) ((List.range n).all fun i => sz_1 lo hi mk (sv_g (ae_rd 32 A i)))
theorem sz_row_ok {A n : Nat} {lo hi : Int} {mk : Nat} (h : sz_row A n lo hi mk = true) (i : Nat) (hi2 : i < n) : lo ≤ sv_g (ae_rd 32 A i) ∧ sv_g (ae_rd 32 A i) ≤ hi ∧ sv_mb mk (sv_g (ae_rd 32 A i)) := by
  unfold sz_row at h
  cases hq : Nat.beq A 0 with
  | true =>
    rw [hq, cond_true] at h
    rw [ae_beq hq, ae_rd0]
    exact sz_1_ok (x := sv_g 0) h
  | false =>
    rw [hq, cond_false] at h
    exact sz_1_ok (List.all_eq_true.mp h i (List.mem_range.mpr hi2))
noncomputable def sz_ok (h : ae_H) (k : Nat) (T : sv_T) : Bool := match ae_hg h k with
  | some (.inr (ci, fs)) => and (Nat.beq T.1 0) (and (Nat.beq ci T.2.1) (sz_fs T.2.2.2.2.2.2 fs))
  | some (.inl (t, n, .inl A)) => or (and (Nat.beq T.1 1) (and (Nat.beq t T.2.1) (and (Nat.beq n T.2.2.1) (sz_row A n T.2.2.2.1 T.2.2.2.2.1 T.2.2.2.2.2.1)))) (and (Nat.beq T.1 2) (and (Nat.beq t 3) (Nat.beq n T.2.2.1)))
  | some (.inl (t, n, .inr (.inr l))) => and (Nat.beq T.1 3) (and (Nat.beq t 4) (and (Nat.beq n T.2.2.1) (and (Nat.beq l.length n) (l.all fun r => match r with
    | some k2 => sz_ty k2 T.2.2.2.2.2.1
    | none => false))))
  | _ => false
theorem sz_ok_ok {h : ae_H} {k : Nat} {T : sv_T} (q : sz_ok h k T = true) : sv_ok sv_ty h k T := by
  obtain ⟨T1, T2, T3, T4, T5, T6, T7⟩ := T
  unfold sz_ok at q
  split at q
  · next ci fs hg =>
    obtain ⟨q1, q⟩ := ae_band q
    obtain ⟨q2, q3⟩ := ae_band q
    have e1 : T1 = 0 := ae_beq q1
    have e2 : ci = T2 := ae_beq q2
    subst e1; subst e2
    obtain ⟨g1, g2⟩ := sz_fs_ok q3
    exact ⟨fs, hg, g1, g2⟩
  · next t n A hg =>
    rw [Bool.or_eq_true] at q
    rcases q with q | q
    · obtain ⟨q1, q⟩ := ae_band q
      obtain ⟨q2, q⟩ := ae_band q
      obtain ⟨q3, q4⟩ := ae_band q
      have e1 : T1 = 1 := ae_beq q1
      have e2 : t = T2 := ae_beq q2
      have e3 : n = T3 := ae_beq q3
      subst e1; subst e2; subst e3
      exact ⟨A, hg, fun i hi => sz_row_ok q4 i hi⟩
    · obtain ⟨q1, q⟩ := ae_band q
      obtain ⟨q2, q3⟩ := ae_band q
      have e1 : T1 = 2 := ae_beq q1
      have e2 : t = 3 := ae_beq q2
      have e3 : n = T3 := ae_beq q3
      subst e1; subst e2; subst e3
      exact ⟨A, hg⟩
  · next t n l hg =>
    obtain ⟨q1, q⟩ := ae_band q
    obtain ⟨q2, q⟩ := ae_band q
    obtain ⟨q3, q⟩ := ae_band q
    obtain ⟨q4, q5⟩ := ae_band q
    have e1 : T1 = 3 := ae_beq q1
    have e2 : t = 4 := ae_beq q2
    have e3 : n = T3 := ae_beq q3
    have e4 : l.length = n := ae_beq q4
    subst e1; subst e2; subst e3
    refine ⟨l, hg, e4, fun r hr => ?_⟩
    have := List.all_eq_true.mp q5 r hr
    match r, this with
    | some k2, this => exact ⟨k2, rfl, sz_ty_ok this⟩
    | none, this => cases this
  · cases q
noncomputable def sz_hk (h : ae_H) : Bool := (List.range 256).all fun k => match sv_ty k with
  | some t => (match sv_tt[t]? with
    | some T => sz_ok h k T
    | none => false)
  | none => true
theorem sz_hk_ok {h : ae_H} (q : sz_hk h = true) : sv_hk sv_ty sv_tt h := by
  intro k t ht
  have q1 := List.all_eq_true.mp q k (List.mem_range.mpr (sv_ty_lt k t ht))
  rw [ht] at q1
  cases hT : sv_tt[t]? with
  | none =>
    have q1 : (match sv_tt[t]? with
      | some T => sz_ok h k T
      | none => false) = true := q1
    rw [hT] at q1; cases q1
  | some T =>
    have q1 : (match sv_tt[t]? with
      | some T => sz_ok h k T
      | none => false) = true := q1
    rw [hT] at q1
    exact ⟨T, rfl, sz_ok_ok q1⟩
set_option maxRecDepth 100000 in
theorem sz_s0 : sz_hk ae_s0 = true := by decide +kernel
theorem sz_s0_hk : sv_hk sv_ty sv_tt ae_s0 := sz_hk_ok sz_s0
