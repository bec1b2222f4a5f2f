/-! WHAT STAYS KNOWN WHEN THE HEAP CHANGES -/
noncomputable def sv_in (t f : Nat) (ms : List (Nat × Nat)) : Bool := List.rec (motive := fun _ => Bool) false (fun q _ ih => or (and (Nat.beq q.1 t) (Nat.beq q.2 f)) ih) ms
theorem sv_in_iff {t f : Nat} : ∀ {ms : List (Nat × Nat)}, sv_in t f ms = true ↔ (t, f) ∈ ms
  | [] => ⟨fun h => (by cases h), fun h => (by cases h)⟩
  | q :: ms => by
    show or (and (Nat.beq q.1 t) (Nat.beq q.2 f)) (sv_in t f ms) = true ↔ _
    rw [Bool.or_eq_true, Bool.and_eq_true, sv_in_iff, List.mem_cons]
    constructor
    · rintro (⟨h1, h2⟩ | h)
      · left; rw [← Nat.eq_of_beq_eq_true h1, ← Nat.eq_of_beq_eq_true h2]
      · exact Or.inr h
    · rintro (h | h)
      · left; subst h; exact ⟨Nat.beq_refl _, Nat.beq_refl _⟩
      · exact Or.inr h
theorem sv_in_f {t f : Nat} {ms : List (Nat × Nat)} (h : sv_in t f ms = false) : (t, f) ∉ ms := fun z => by rw [sv_in_iff.mpr z] at h; cases h
/-- every entry of one list is in another -/
noncomputable def sv_sub (as bs : List (Nat × Nat)) : Bool := List.rec (motive := fun _ => Bool) true (fun q _ ih => and (sv_in q.1 q.2 bs) ih) as
theorem sv_sub_ok : ∀ {as bs : List (Nat × Nat)}, sv_sub as bs = true → ∀ q ∈ as, q ∈ bs
  | [], _, _, q, hq => by cases hq
  | p :: as, bs, h, q, hq => by
    have h : and (sv_in p.1 p.2 bs) (sv_sub as bs) = true := h
    rw [Bool.and_eq_true] at h
    rcases List.mem_cons.mp hq with e | e
    · subst e; exact sv_in_iff.mp h.1
    · exact sv_sub_ok h.2 q e
noncomputable def sv_dis (as bs : List (Nat × Nat)) : Bool := List.rec (motive := fun _ => Bool) true (fun q _ ih => and (not (sv_in q.1 q.2 bs)) ih) as
theorem sv_dis_ok : ∀ {as bs : List (Nat × Nat)}, sv_dis as bs = true → ∀ q ∈ as, q ∉ bs
  | [], _, _, q, hq => by cases hq
  | p :: as, bs, h, q, hq => by
    have h : and (not (sv_in p.1 p.2 bs)) (sv_dis as bs) = true := h
    rw [Bool.and_eq_true, Bool.not_eq_true'] at h
    rcases List.mem_cons.mp hq with e | e
    · subst e; exact sv_in_f h.1
    · exact sv_dis_ok h.2 q e
/-- a list with those entries alone that a test keeps -/
noncomputable def sv_flt {α : Type} (p : α → Bool) (l : List α) : List α := List.rec (motive := fun _ => List α) [] (fun q _ ih => cond (p q) (q :: ih) ih) l
theorem sv_flt_mem {α : Type} {p : α → Bool} {q : α} : ∀ {l : List α}, q ∈ sv_flt p l → q ∈ l ∧ p q = true
  | [], h => by cases h
  | x :: l, h => by
    have h : q ∈ cond (p x) (x :: sv_flt p l) (sv_flt p l) := h
    cases hp : p x with
    | false => rw [hp, cond_false] at h; exact ⟨List.mem_cons_of_mem _ (sv_flt_mem h).1, (sv_flt_mem h).2⟩
    | true =>
      rw [hp, cond_true] at h
      rcases List.mem_cons.mp h with e | e
      · subst e; exact ⟨List.mem_cons_self .., hp⟩
      · exact ⟨List.mem_cons_of_mem _ (sv_flt_mem e).1, (sv_flt_mem e).2⟩
section
variable {ty : Nat → Option Nat} {tt : List sv_T} {op : Nat → ae_H → Nat → Nat → Int → Int → Int → Int → Prop} {ρ : Nat → Int} {n : Nat} {h h' : ae_H} {ms : List (Nat × Nat)}
theorem sv_fr.rf (h : ae_H) : sv_fr ty ms h h := fun k t _ c hc => by
  match c, hc with
  | .inl _, hc => exact fun _ => hc
  | .inr (ci, fs), hc => exact ⟨fs, hc, fun _ _ => rfl⟩
theorem sv_fr.tr {h2 : ae_H} (h1 : sv_fr ty ms h h') (h3 : sv_fr ty ms h' h2) : sv_fr ty ms h h2 := fun k t ht c hc => by
  match c, hc with
  | .inl x, hc => exact fun hm => h3 k t ht (.inl x) (h1 k t ht (.inl x) hc hm) hm
  | .inr (ci, fs), hc =>
    obtain ⟨fs1, a1, a2⟩ := h1 k t ht (.inr (ci, fs)) hc
    obtain ⟨fs2, b1, b2⟩ := h3 k t ht (.inr (ci, fs1)) a1
    exact ⟨fs2, b1, fun j hj => (b2 j hj).trans (a2 j hj)⟩
theorem sv_fr.wd {ms2 : List (Nat × Nat)} (hs : ∀ q ∈ ms, q ∈ ms2) (h1 : sv_fr ty ms h h') : sv_fr ty ms2 h h' := fun k t ht c hc => by
  match c, hc with
  | .inl x, hc => exact fun hm => h1 k t ht (.inl x) hc (fun z => hm (hs _ z))
  | .inr (ci, fs), hc =>
    obtain ⟨fs1, a1, a2⟩ := h1 k t ht (.inr (ci, fs)) hc
    exact ⟨fs1, a1, fun j hj => a2 j (fun z => hj (hs _ z))⟩
theorem sv_Fk.fr (hf : sv_fr ty ms h h') {q : sv_F} (hq : sv_Fk ty ρ n h q) (hm : (q.1.2.1, q.1.2.2) ∉ ms) : sv_Fk ty ρ n h' q := by
  obtain ⟨h0, k, ci, fs, c, h1, h2, h3, h4, h5⟩ := hq
  obtain ⟨fs', g1, g2⟩ := hf k _ h2 _ h3
  exact ⟨h0, k, ci, fs', c, h1, h2, g1, (g2 _ hm).trans h4, h5⟩
theorem sv_Mk.fr (hf : sv_fr ty ms h h') {q : sv_M} (hq : sv_Mk ty ρ n h q) (hm : (q.2.1, 0) ∉ ms) : sv_Mk ty ρ n h' q := by
  obtain ⟨h0, w1, w2, k, tag, len, A, i, h1, h2, h3, h4, h5, h6⟩ := hq
  exact ⟨h0, w1, w2, k, tag, len, A, i, h1, h2, hf k _ h2 (.inl (tag, len, .inl A)) h3 hm, h4, h5, h6⟩
/-- which fields and rows a further kind of fact speaks of; it stays where they stay -/
def sv_opk (ty : Nat → Option Nat) (op : Nat → ae_H → Nat → Nat → Int → Int → Int → Int → Prop) (od : Nat → List (Nat × Nat)) : Prop := ∀ (m : Nat) (ms : List (Nat × Nat)) (h h' : ae_H) (k k2 : Nat) (x y z w : Int), sv_fr ty ms h h' → (∀ q ∈ od m, q ∉ ms) → op m h k k2 x y z w → op m h' k k2 x y z w
/-- does a fact stay when what ms names may change -/
noncomputable def sv_qs (od : Nat → List (Nat × Nat)) (ms : List (Nat × Nat)) (q : sv_Q) : Bool := match q.1 with
  | 0 => not (sv_in q.2.1.2 0 ms)
  | 1 => and (not (sv_in q.2.1.2 0 ms)) (not (sv_in q.2.2.1.2 0 ms))
  | m => sv_dis (od m) ms
theorem sv_Qk.fr {od : Nat → List (Nat × Nat)} (hty : sv_hk ty tt h) (ho : sv_opk ty op od) (hf : sv_fr ty ms h h') {q : sv_Q} (hq : sv_Qk ty op ρ n h q) (hs : sv_qs od ms q = true) : sv_Qk ty op ρ n h' q := by
  obtain ⟨hw, k, k2, h1, h2, h3, h4, h5⟩ := hq
  have cell : ∀ (k t : Nat), ty k = some t → (t, 0) ∉ ms → ∀ tag len A, ae_hg h' k = some (.inl (tag, len, .inl A)) → ae_hg h k = some (.inl (tag, len, .inl A)) := fun k t ht hm tag len A hc => by
    obtain ⟨T, -, hT⟩ := hty k t ht
    have some' : ∃ c, ae_hg h k = some c := by
      unfold sv_ok at hT
      split at hT
      · obtain ⟨fs, e, -⟩ := hT; exact ⟨_, e⟩
      · obtain ⟨A, e, -⟩ := hT; exact ⟨_, e⟩
      · obtain ⟨A, e⟩ := hT; exact ⟨_, e⟩
      · obtain ⟨l, e, -⟩ := hT; exact ⟨_, e⟩
      · exact hT.elim
    obtain ⟨c, ec⟩ := some'
    match c, ec with
    | .inl x, ec => rw [hf k t ht (.inl x) ec hm] at hc; rw [ec]; exact hc
    | .inr (ci, fs), ec =>
      obtain ⟨fs', g1, -⟩ := hf k t ht (.inr (ci, fs)) ec
      rw [g1] at hc; cases hc
  refine ⟨hw, k, k2, h1, h2, h3, h4, ?_⟩
  obtain ⟨kd, r1, r2, sd, f1, f2, f3, f4⟩ := q
  match kd, hs, h5 with
  | 0, hs, h5 =>
    have hm : (r1.2, 0) ∉ ms := sv_in_f (by have hs : not (sv_in r1.2 0 ms) = true := hs; rw [Bool.not_eq_true'] at hs; exact hs)
    exact fun tag len A hc => h5 tag len A (cell k _ h2 hm _ _ _ hc)
  | 1, hs, h5 =>
    have hs : and (not (sv_in r1.2 0 ms)) (not (sv_in r2.2 0 ms)) = true := hs
    rw [Bool.and_eq_true, Bool.not_eq_true', Bool.not_eq_true'] at hs
    exact fun tag len A tag2 len2 A2 hc hc2 => h5 tag len A tag2 len2 A2 (cell k _ h2 (sv_in_f hs.1) _ _ _ hc) (cell k2 _ h4 (sv_in_f hs.2) _ _ _ hc2)
  | m + 2, hs, h5 =>
    have hs : sv_dis (od (m + 2)) ms = true := hs
    exact ho (m + 2) ms h h' k k2 _ _ _ _ hf (sv_dis_ok hs) h5
/-- what is left of what is known when ms may have changed -/
noncomputable def sv_kF (ms : List (Nat × Nat)) (F : List sv_F) : List sv_F := sv_flt (fun q => not (sv_in q.1.2.1 q.1.2.2 ms)) F
noncomputable def sv_kM (ms : List (Nat × Nat)) (M : List sv_M) : List sv_M := sv_flt (fun q => not (sv_in q.2.1 0 ms)) M
noncomputable def sv_kQ (od : Nat → List (Nat × Nat)) (ms : List (Nat × Nat)) (Q : List sv_Q) : List sv_Q := sv_flt (sv_qs od ms) Q
theorem sv_Hk.fr {od : Nat → List (Nat × Nat)} {F : List sv_F} {M : List sv_M} {Q : List sv_Q} (hty : sv_hk ty tt h) (ho : sv_opk ty op od) (hf : sv_fr ty ms h h') (hh : sv_Hk ty op ρ n h F M Q) : sv_Hk ty op ρ n h' (sv_kF ms F) (sv_kM ms M) (sv_kQ od ms Q) := by
  refine ⟨fun q hq => ?_, fun q hq => ?_, fun q hq => ?_⟩
  · obtain ⟨a, b⟩ := sv_flt_mem hq
    rw [Bool.not_eq_true'] at b
    exact (hh.1 q a).fr hf (sv_in_f b)
  · obtain ⟨a, b⟩ := sv_flt_mem hq
    rw [Bool.not_eq_true'] at b
    exact (hh.2.1 q a).fr hf (sv_in_f b)
  · obtain ⟨a, b⟩ := sv_flt_mem hq
    exact (hh.2.2 q a).fr hty ho hf b
end
