/-! LINEAR FORMS. A form is a number and a list of (symbol, factor); every function hands its result on, worked out, to the rest -/
abbrev sv_L : Type := Int × List (Nat × Int)
def sv_sm (ρ : Nat → Int) : List (Nat × Int) → Int
  | [] => 0
  | q :: r => q.2 * ρ q.1 + sv_sm ρ r
def sv_ev (ρ : Nat → Int) (e : sv_L) : Int := e.1 + sv_sm ρ e.2
def sv_wl (n : Nat) (l : List (Nat × Int)) : Prop := ∀ q ∈ l, q.1 < n
def sv_wf (n : Nat) (e : sv_L) : Prop := sv_wl n e.2
noncomputable def sv_fn (n : Nat) (k : Nat → Bool) : Bool := Nat.rec (motive := fun _ => Bool) (k 0) (fun m _ => k (Nat.succ m)) n
noncomputable def sv_fi (x : Int) (k : Int → Bool) : Bool := Int.rec (motive := fun _ => Bool) (fun n => sv_fn n fun n => k (Int.ofNat n)) (fun n => sv_fn n fun n => k (Int.negSucc n)) x
theorem sv_fn_eq (n : Nat) (k : Nat → Bool) : sv_fn n k = k n := by cases n <;> rfl
theorem sv_fi_eq (x : Int) (k : Int → Bool) : sv_fi x k = k x := by
  cases x with
  | ofNat n => exact sv_fn_eq n (fun n => k (Int.ofNat n))
  | negSucc n => exact sv_fn_eq n (fun n => k (Int.negSucc n))
/-- not below zero; zero; above zero -/
noncomputable def sv_nn (x : Int) : Bool := Int.rec (motive := fun _ => Bool) (fun _ => true) (fun _ => false) x
noncomputable def sv_iz (x : Int) : Bool := Int.rec (motive := fun _ => Bool) (fun n => Nat.beq n 0) (fun _ => false) x
theorem sv_nn_iff {x : Int} : sv_nn x = true ↔ 0 ≤ x := by
  cases x with
  | ofNat n => exact ⟨fun _ => Int.natCast_nonneg n, fun _ => rfl⟩
  | negSucc n => exact ⟨fun h => (by cases h), fun h => absurd h (by have := Int.negSucc_lt_zero n; omega)⟩
theorem sv_iz_iff {x : Int} : sv_iz x = true ↔ x = 0 := by
  cases x with
  | ofNat n =>
    constructor
    · intro h
      have : n = 0 := Nat.eq_of_beq_eq_true h
      subst this; rfl
    · intro h
      have : n = 0 := Int.ofNat.inj h
      subst this; rfl
  | negSucc n => exact ⟨fun h => (by cases h), fun h => (by cases h)⟩
noncomputable def sv_ins (s : Nat) (c : Int) (l : List (Nat × Int)) : (List (Nat × Int) → Bool) → Bool := List.rec (motive := fun _ => (List (Nat × Int) → Bool) → Bool) (fun k => k [(s, c)]) (fun q r ih k => cond (Nat.beq q.1 s) (sv_fi (q.2 + c) fun z => cond (sv_iz z) (k r) (k ((s, z) :: r))) (cond (Nat.blt s q.1) (k ((s, c) :: q :: r)) (ih fun r2 => k (q :: r2)))) l
theorem sv_ins_ok (s : Nat) (c : Int) : ∀ (l : List (Nat × Int)), ∃ m, (∀ ρ, sv_sm ρ m = c * ρ s + sv_sm ρ l) ∧ (∀ n, s < n → sv_wl n l → sv_wl n m) ∧ ∀ k, sv_ins s c l k = k m
  | [] => ⟨[(s, c)], fun ρ => by simp [sv_sm], fun n hs _ => by intro q hq; cases List.mem_singleton.mp hq; exact hs, fun k => rfl⟩
  | q :: r => by
    obtain ⟨m, h1, h2, h3⟩ := sv_ins_ok s c r
    cases hb : Nat.beq q.1 s with
    | true =>
      have hq : q.1 = s := Nat.eq_of_beq_eq_true hb
      cases hz : sv_iz (q.2 + c) with
      | true =>
        refine ⟨r, fun ρ => ?_, fun n _ hw => fun x hx => hw x (List.mem_cons_of_mem _ hx), fun k => ?_⟩
        · have := sv_iz_iff.mp hz
          show sv_sm ρ r = c * ρ s + (q.2 * ρ q.1 + sv_sm ρ r)
          rw [hq, ← Int.add_assoc, ← Int.add_mul, Int.add_comm c, this]; simp
        · show cond (Nat.beq q.1 s) (sv_fi (q.2 + c) fun z => cond (sv_iz z) (k r) (k ((s, z) :: r))) _ = _
          rw [hb, cond_true, sv_fi_eq, hz, cond_true]
      | false =>
        refine ⟨(s, q.2 + c) :: r, fun ρ => ?_, fun n hs hw x hx => ?_, fun k => ?_⟩
        · show (q.2 + c) * ρ s + sv_sm ρ r = c * ρ s + (q.2 * ρ q.1 + sv_sm ρ r)
          rw [hq, Int.add_mul]; omega
        · rcases List.mem_cons.mp hx with h | h
          · subst h; exact hs
          · exact hw x (List.mem_cons_of_mem _ h)
        · show cond (Nat.beq q.1 s) (sv_fi (q.2 + c) fun z => cond (sv_iz z) (k r) (k ((s, z) :: r))) _ = _
          rw [hb, cond_true, sv_fi_eq, hz, cond_false]
    | false =>
      cases hl : Nat.blt s q.1 with
      | true =>
        refine ⟨(s, c) :: q :: r, fun ρ => rfl, fun n hs hw x hx => ?_, fun k => ?_⟩
        · rcases List.mem_cons.mp hx with h | h
          · subst h; exact hs
          · exact hw x h
        · show cond (Nat.beq q.1 s) _ (cond (Nat.blt s q.1) _ _) = _
          rw [hb, hl, cond_false, cond_true]
      | false =>
        refine ⟨q :: m, fun ρ => ?_, fun n hs hw x hx => ?_, fun k => ?_⟩
        · show q.2 * ρ q.1 + sv_sm ρ m = c * ρ s + (q.2 * ρ q.1 + sv_sm ρ r)
          rw [h1]; omega
        · rcases List.mem_cons.mp hx with h | h
          · subst h; exact hw _ (List.mem_cons_self ..)
          · exact h2 n hs (fun y hy => hw y (List.mem_cons_of_mem _ hy)) x h
        · show cond (Nat.beq q.1 s) _ (cond (Nat.blt s q.1) _ (sv_ins s c r fun r2 => k (q :: r2))) = _
          rw [hb, hl, cond_false, cond_false, h3]
/-- m * a + b, by the terms of a -/
noncomputable def sv_mt (m : Int) (a : List (Nat × Int)) : List (Nat × Int) → (List (Nat × Int) → Bool) → Bool := List.rec (motive := fun _ => List (Nat × Int) → (List (Nat × Int) → Bool) → Bool) (fun b k => k b) (fun q _ ih b k => sv_fi (m * q.2) fun z => sv_ins q.1 z b fun b2 => ih b2 k) a
theorem sv_mt_ok (m : Int) : ∀ (a b : List (Nat × Int)), ∃ r, (∀ ρ, sv_sm ρ r = m * sv_sm ρ a + sv_sm ρ b) ∧ (∀ n, sv_wl n a → sv_wl n b → sv_wl n r) ∧ ∀ k, sv_mt m a b k = k r
  | [], b => ⟨b, fun ρ => by simp [sv_sm], fun _ _ h => h, fun k => rfl⟩
  | q :: a, b => by
    obtain ⟨b2, h1, h2, h3⟩ := sv_ins_ok q.1 (m * q.2) b
    obtain ⟨r, g1, g2, g3⟩ := sv_mt_ok m a b2
    refine ⟨r, fun ρ => ?_, fun n ha hb => g2 n (fun x hx => ha x (List.mem_cons_of_mem _ hx)) (h2 n (ha q (List.mem_cons_self ..)) hb), fun k => ?_⟩
    · rw [g1, h1]
      show m * sv_sm ρ a + (m * q.2 * ρ q.1 + sv_sm ρ b) = m * (q.2 * ρ q.1 + sv_sm ρ a) + sv_sm ρ b
      rw [Int.mul_add, Int.mul_assoc]; omega
    · show sv_fi (m * q.2) (fun z => sv_ins q.1 z b fun b2 => sv_mt m a b2 k) = _
      rw [sv_fi_eq, h3, g3]
/-- m * a + b -/
noncomputable def sv_ma (m : Int) (a b : sv_L) (k : sv_L → Bool) : Bool := cond (sv_iz m) (k b) (sv_fi (m * a.1 + b.1) fun c => sv_mt m a.2 b.2 fun l => k (c, l))
theorem sv_ma_ok (m : Int) (a b : sv_L) : ∃ r, (∀ ρ, sv_ev ρ r = m * sv_ev ρ a + sv_ev ρ b) ∧ (∀ n, sv_wf n a → sv_wf n b → sv_wf n r) ∧ ∀ k, sv_ma m a b k = k r := by
  cases hz : sv_iz m with
  | true =>
    have := sv_iz_iff.mp hz
    exact ⟨b, fun ρ => by rw [this]; simp, fun _ _ h => h, fun k => by unfold sv_ma; rw [hz, cond_true]⟩
  | false =>
    obtain ⟨l, h1, h2, h3⟩ := sv_mt_ok m a.2 b.2
    refine ⟨(m * a.1 + b.1, l), fun ρ => ?_, fun n ha hb => h2 n ha hb, fun k => ?_⟩
    · show m * a.1 + b.1 + sv_sm ρ l = m * (a.1 + sv_sm ρ a.2) + (b.1 + sv_sm ρ b.2)
      rw [h1, Int.mul_add]; omega
    · unfold sv_ma; rw [hz, cond_false, sv_fi_eq, h3]
/-- a number added -/
noncomputable def sv_ac (c : Int) (a : sv_L) (k : sv_L → Bool) : Bool := sv_fi (c + a.1) fun z => k (z, a.2)
theorem sv_ac_ok (c : Int) (a : sv_L) : ∃ r, (∀ ρ, sv_ev ρ r = c + sv_ev ρ a) ∧ (∀ n, sv_wf n a → sv_wf n r) ∧ ∀ k, sv_ac c a k = k r := by
  refine ⟨(c + a.1, a.2), fun ρ => ?_, fun n h => h, fun k => ?_⟩
  · show c + a.1 + sv_sm ρ a.2 = c + (a.1 + sv_sm ρ a.2); omega
  · unfold sv_ac; rw [sv_fi_eq]
/-- are two forms one -/
noncomputable def sv_ieq (x y : Int) : Bool := sv_iz (x - y)
theorem sv_ieq_ok {x y : Int} (h : sv_ieq x y = true) : x = y := by have := sv_iz_iff.mp h; omega
noncomputable def sv_seq : List (Nat × Int) → List (Nat × Int) → Bool := fun a => List.rec (motive := fun _ => List (Nat × Int) → Bool) (fun b => match b with | [] => true | _ => false) (fun q _ ih b => match b with | [] => false | p :: b2 => and (Nat.beq q.1 p.1) (and (sv_ieq q.2 p.2) (ih b2))) a
theorem sv_seq_ok : ∀ {a b : List (Nat × Int)}, sv_seq a b = true → a = b
  | [], [], _ => rfl
  | [], _ :: _, h => by cases h
  | _ :: _, [], h => by cases h
  | q :: a, p :: b, h => by
    have h : and (Nat.beq q.1 p.1) (and (sv_ieq q.2 p.2) (sv_seq a b)) = true := h
    rw [Bool.and_eq_true, Bool.and_eq_true] at h
    obtain ⟨h1, h2, h3⟩ := h
    have e1 := Nat.eq_of_beq_eq_true h1
    have e2 := sv_ieq_ok h2
    have e3 := sv_seq_ok h3
    rw [e3, Prod.ext (x := q) (y := p) e1 e2]
noncomputable def sv_same (a b : sv_L) : Bool := and (sv_ieq a.1 b.1) (sv_seq a.2 b.2)
theorem sv_same_ok {a b : sv_L} (h : sv_same a b = true) : a = b := by
  unfold sv_same at h
  rw [Bool.and_eq_true] at h
  exact Prod.ext (sv_ieq_ok h.1) (sv_seq_ok h.2)
theorem sv_sm_up {n : Nat} {ρ ρ' : Nat → Int} (h : ∀ s, s < n → ρ' s = ρ s) : ∀ {l : List (Nat × Int)}, sv_wl n l → sv_sm ρ' l = sv_sm ρ l
  | [], _ => rfl
  | q :: r, hw => by
    show q.2 * ρ' q.1 + sv_sm ρ' r = q.2 * ρ q.1 + sv_sm ρ r
    rw [h q.1 (hw q (List.mem_cons_self ..)), sv_sm_up h (fun x hx => hw x (List.mem_cons_of_mem _ hx))]
theorem sv_ev_up {n : Nat} {ρ ρ' : Nat → Int} (h : ∀ s, s < n → ρ' s = ρ s) {e : sv_L} (hw : sv_wf n e) : sv_ev ρ' e = sv_ev ρ e := by
  unfold sv_ev; rw [sv_sm_up h hw]
