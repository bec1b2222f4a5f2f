/-! WHAT IS KNOWN OF NUMBERS: the next symbol, bounds, forms that are at least zero, forms that are not zero -/
abbrev sv_A : Type := Nat × sv_B 9 × List sv_L × List sv_L
def sv_ak (ρ : Nat → Int) (a : sv_A) : Prop := sv_bk ρ a.2.1 ∧ (∀ c ∈ a.2.2.1, 0 ≤ sv_ev ρ c ∧ sv_wf a.1 c) ∧ (∀ c ∈ a.2.2.2, sv_ev ρ c ≠ 0 ∧ sv_wf a.1 c)
noncomputable def sv_p (d : Nat) (a : sv_A) (g : sv_L) : Bool := sv_pr a.2.1 a.2.2.1 d g
theorem sv_p_ok {d : Nat} {ρ : Nat → Int} {a : sv_A} {g : sv_L} (ha : sv_ak ρ a) (h : sv_p d a g = true) : 0 ≤ sv_ev ρ g := sv_pr_ok ha.1 (fun c hc => (ha.2.1 c hc).1) d h
theorem sv_bg_set {ρ : Nat → Int} {t : sv_B 9} (h : sv_bk ρ t) {x : Nat} {v : Int × Int} (h1 : v.1 ≤ ρ x) (h2 : ρ x ≤ v.2) : sv_bk ρ (sv_bs 9 t x v) := by
  refine ⟨h.1, fun s => ?_⟩
  rw [sv_bg_ts]
  split
  · next e =>
    have e : s % 512 = x % 512 := e
    rw [h.1 s, e, ← h.1 x]; exact ⟨h1, h2⟩
  · exact h.2 s
/-- the bounds of the symbols of a form g >= 0, by the bound u of the form itself and the bounds t0 that it came of -/
noncomputable def sv_tg (u : Int) (t0 : sv_B 9) (l : List (Nat × Int)) : sv_B 9 → (sv_B 9 → Bool) → Bool := List.rec (motive := fun _ => sv_B 9 → (sv_B 9 → Bool) → Bool) (fun t k => k t) (fun q _ ih t k => cond (sv_iz q.2) (ih t k) (cond (sv_nn q.2)
  (sv_fi (-((u - q.2 * (sv_bg 9 t0 q.1).2) / q.2)) fun z => cond (sv_nn (z - (sv_bg 9 t q.1).1)) (ih (sv_bs 9 t q.1 (z, (sv_bg 9 t q.1).2)) k) (ih t k))
  (sv_fi ((u - q.2 * (sv_bg 9 t0 q.1).1) / (-q.2)) fun z => cond (sv_nn ((sv_bg 9 t q.1).2 - z)) (ih (sv_bs 9 t q.1 ((sv_bg 9 t q.1).1, z)) k) (ih t k)))) l
theorem sv_tg_ok {u : Int} {t0 : sv_B 9} {ρ : Nat → Int} : ∀ (l : List (Nat × Int)), (∀ q ∈ l, 0 ≤ u - sv_mx t0 q + q.2 * ρ q.1) → ∀ t, sv_bk ρ t → ∃ t2, sv_bk ρ t2 ∧ ∀ k, sv_tg u t0 l t k = k t2
  | [], _, t, ht => ⟨t, ht, fun k => rfl⟩
  | q :: l, hl, t, ht => by
    have ih := sv_tg_ok (u := u) (t0 := t0) (ρ := ρ) l (fun x hx => hl x (List.mem_cons_of_mem _ hx))
    have hq := hl q (List.mem_cons_self ..)
    unfold sv_mx at hq
    cases hz : sv_iz q.2 with
    | true =>
      obtain ⟨t2, h1, h2⟩ := ih t ht
      refine ⟨t2, h1, fun k => ?_⟩
      show cond (sv_iz q.2) (sv_tg u t0 l t k) _ = _
      rw [hz, cond_true, h2]
    | false =>
      have hne : q.2 ≠ 0 := fun z => by rw [sv_iz_iff.mpr z] at hz; cases hz
      cases hn : sv_nn q.2 with
      | true =>
        have hpos : 0 < q.2 := by have := sv_nn_iff.mp hn; omega
        rw [hn, cond_true] at hq
        cases hc : sv_nn (-((u - q.2 * (sv_bg 9 t0 q.1).2) / q.2) - (sv_bg 9 t q.1).1) with
        | false =>
          obtain ⟨t2, h1, h2⟩ := ih t ht
          refine ⟨t2, h1, fun k => ?_⟩
          show cond (sv_iz q.2) _ (cond (sv_nn q.2) (sv_fi _ fun z => cond (sv_nn (z - (sv_bg 9 t q.1).1)) _ (sv_tg u t0 l t k)) _) = _
          rw [hz, cond_false, hn, cond_true, sv_fi_eq, hc, cond_false, h2]
        | true =>
          have hle : -((u - q.2 * (sv_bg 9 t0 q.1).2) / q.2) ≤ ρ q.1 := by
            have : -ρ q.1 ≤ (u - q.2 * (sv_bg 9 t0 q.1).2) / q.2 := (Int.le_ediv_iff_mul_le hpos).mpr (by rw [Int.neg_mul, Int.mul_comm]; omega)
            omega
          obtain ⟨t2, h1, h2⟩ := ih _ (sv_bg_set ht (x := q.1) (v := (-((u - q.2 * (sv_bg 9 t0 q.1).2) / q.2), (sv_bg 9 t q.1).2)) hle (ht.2 q.1).2)
          refine ⟨t2, h1, fun k => ?_⟩
          show cond (sv_iz q.2) _ (cond (sv_nn q.2) (sv_fi _ fun z => cond (sv_nn (z - (sv_bg 9 t q.1).1)) (sv_tg u t0 l (sv_bs 9 t q.1 (z, (sv_bg 9 t q.1).2)) k) _) _) = _
          rw [hz, cond_false, hn, cond_true, sv_fi_eq, hc, cond_true, h2]
      | false =>
        have hneg : q.2 < 0 := by
          by_cases z : 0 ≤ q.2
          · rw [sv_nn_iff.mpr z] at hn; cases hn
          · omega
        rw [hn, cond_false] at hq
        cases hc : sv_nn ((sv_bg 9 t q.1).2 - (u - q.2 * (sv_bg 9 t0 q.1).1) / (-q.2)) with
        | false =>
          obtain ⟨t2, h1, h2⟩ := ih t ht
          refine ⟨t2, h1, fun k => ?_⟩
          show cond (sv_iz q.2) _ (cond (sv_nn q.2) _ (sv_fi _ fun z => cond (sv_nn ((sv_bg 9 t q.1).2 - z)) _ (sv_tg u t0 l t k))) = _
          rw [hz, cond_false, hn, cond_false, sv_fi_eq, hc, cond_false, h2]
        | true =>
          have hle : ρ q.1 ≤ (u - q.2 * (sv_bg 9 t0 q.1).1) / (-q.2) := (Int.le_ediv_iff_mul_le (by omega)).mpr (by rw [Int.mul_neg, Int.mul_comm]; omega)
          obtain ⟨t2, h1, h2⟩ := ih _ (sv_bg_set ht (x := q.1) (v := ((sv_bg 9 t q.1).1, (u - q.2 * (sv_bg 9 t0 q.1).1) / (-q.2))) (ht.2 q.1).1 hle)
          refine ⟨t2, h1, fun k => ?_⟩
          show cond (sv_iz q.2) _ (cond (sv_nn q.2) _ (sv_fi _ fun z => cond (sv_nn ((sv_bg 9 t q.1).2 - z)) (sv_tg u t0 l (sv_bs 9 t q.1 ((sv_bg 9 t q.1).1, z)) k) _)) = _
          rw [hz, cond_false, hn, cond_false, sv_fi_eq, hc, cond_true, h2]
/-- g is at least zero: what is known then; where that can't be, there is nothing to show -/
noncomputable def sv_as (a : sv_A) (g : sv_L) (K : sv_A → Bool) : Bool := sv_ubl a.2.1 g.2 g.1 fun u => cond (not (sv_nn u)) true (cond (sv_lbl a.2.1 g.2 g.1 sv_nn) (K a) (sv_ma (-1) g (-1, []) fun ng => cond (sv_pr a.2.1 a.2.2.1 2 ng) true (sv_tg u a.2.1 g.2 a.2.1 fun t => K (a.1, t, cond (Nat.ble 2 g.2.length) (g :: a.2.2.1) a.2.2.1, a.2.2.2))))
theorem sv_as_ok {ρ : Nat → Int} {a : sv_A} {g : sv_L} {K : sv_A → Bool} (ha : sv_ak ρ a) (hw : sv_wf a.1 g) (hg : 0 ≤ sv_ev ρ g) (h : sv_as a g K = true) : ∃ a2, K a2 = true ∧ sv_ak ρ a2 ∧ a2.1 = a.1 := by
  unfold sv_as at h
  rw [sv_ubl_ok] at h
  have hu : sv_ev ρ g ≤ g.1 + sv_ms a.2.1 g.2 := by have := sv_ms_le ha.1 g.2; unfold sv_ev; omega
  have hn : sv_nn (g.1 + sv_ms a.2.1 g.2) = true := sv_nn_iff.mpr (by omega)
  rw [hn, Bool.not_true, cond_false] at h
  cases hl : sv_lbl a.2.1 g.2 g.1 sv_nn with
  | true => rw [hl, cond_true] at h; exact ⟨a, h, ha, rfl⟩
  | false =>
    rw [hl, cond_false] at h
    obtain ⟨ng, n1, -, n3⟩ := sv_ma_ok (-1) g (-1, [])
    rw [n3] at h
    cases hp : sv_pr a.2.1 a.2.2.1 2 ng with
    | true =>
      have := sv_pr_ok ha.1 (fun c hc => (ha.2.1 c hc).1) 2 hp
      rw [n1] at this
      have e0 : sv_ev ρ ((-1, []) : sv_L) = -1 := rfl
      rw [e0] at this
      omega
    | false =>
      rw [hp, cond_false] at h
      obtain ⟨t2, t3, t4⟩ := sv_tg_ok (u := g.1 + sv_ms a.2.1 g.2) (t0 := a.2.1) (ρ := ρ) g.2 (fun q hq => by
        have := sv_ms_mem ha.1 hq
        unfold sv_ev at hg; omega) a.2.1 ha.1
      rw [t4] at h
      refine ⟨_, h, ⟨t3, ?_, ha.2.2⟩, rfl⟩
      show ∀ c ∈ cond (Nat.ble 2 g.2.length) (g :: a.2.2.1) a.2.2.1, 0 ≤ sv_ev ρ c ∧ sv_wf a.1 c
      cases Nat.ble 2 g.2.length with
      | false => exact ha.2.1
      | true =>
        intro c hc
        rcases List.mem_cons.mp hc with e | e
        · subst e; exact ⟨hg, hw⟩
        · exact ha.2.1 c e
