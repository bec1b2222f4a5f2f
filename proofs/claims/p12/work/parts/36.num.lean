/-! WHOLE NUMBERS OF THE RUNNER AS NUMBERS -/
theorem sv_uc (x : Int) : ((sv_u x : Nat) : Int) = x % 4294967296 := by unfold sv_u; omega
theorem sv_ulc (x : Int) : ((sv_ul x : Nat) : Int) = x % 18446744073709551616 := by unfold sv_ul; omega
theorem sv_add_u (x y : Int) : ae_add (sv_u x) (sv_u y) = sv_u (x + y) := by
  have h1 := sv_uc x
  have h2 := sv_uc y
  have h3 := sv_uc (x + y)
  show (sv_u x + sv_u y) % 4294967296 = sv_u (x + y)
  omega
theorem sv_sub_u (x y : Int) : ae_sub (sv_u x) (sv_u y) = sv_u (x - y) := by
  have h1 := sv_uc x
  have h2 := sv_uc y
  have h3 := sv_uc (x - y)
  have h4 := sv_u_lt y
  show (sv_u x + (4294967296 - sv_u y)) % 4294967296 = sv_u (x - y)
  omega
theorem sv_mul_u (x y : Int) : ae_mul (sv_u x) (sv_u y) = sv_u (x * y) := by
  have h1 := sv_uc x
  have h2 := sv_uc y
  have h3 := sv_uc (x * y)
  show (sv_u x * sv_u y) % 4294967296 = sv_u (x * y)
  have : (((sv_u x * sv_u y) % 4294967296 : Nat) : Int) = ((sv_u (x * y) : Nat) : Int) := by
    rw [Int.natCast_emod, Int.natCast_mul, h1, h2, h3]
    exact (Int.mul_emod x y 4294967296).symm
  exact Int.ofNat.inj this
theorem sv_bs_u {x : Int} (h : sv_I x) : ((ae_bs (sv_u x) : Nat) : Int) = x + 2147483648 := by
  have h1 := sv_uc x
  unfold sv_I at h
  show (((sv_u x + 2147483648) % 4294967296 : Nat) : Int) = _
  omega
theorem sv_rg_u (x : Int) : ae_rg (.inl (sv_u x)) = (ae_bs (sv_u x), ae_bs (sv_u x)) := rfl
theorem sv_ltb {a b : Nat} : ae_lt (a, a) (b, b) = some (decide (a < b)) := by
  unfold ae_lt
  show cond (Nat.blt a b) (some true) (cond (Nat.ble b a) (some false) none) = _
  by_cases h : a < b
  · have : Nat.blt a b = true := Nat.ble_eq_true_of_le h
    rw [this, cond_true, decide_eq_true h]
  · have h1 : Nat.blt a b = false := by
      cases hb : Nat.blt a b with
      | false => rfl
      | true => exact absurd (Nat.le_of_ble_eq_true hb) h
    have h2 : Nat.ble b a = true := Nat.ble_eq_true_of_le (by omega)
    rw [h1, cond_false, h2, cond_true, decide_eq_false h]
theorem sv_eqb {a b : Nat} : ae_eq (a, a) (b, b) = some (decide (a = b)) := by
  unfold ae_eq
  show cond (and (Nat.beq a a) (and (Nat.beq b b) (Nat.beq a b))) (some true) (cond (or (Nat.blt a b) (Nat.blt b a)) (some false) none) = _
  rw [Nat.beq_refl, Nat.beq_refl, Bool.true_and, Bool.true_and]
  by_cases h : a = b
  · subst h; rw [Nat.beq_refl, cond_true, decide_eq_true rfl]
  · have h1 : Nat.beq a b = false := by
      cases hb : Nat.beq a b with
      | false => rfl
      | true => exact absurd (Nat.eq_of_beq_eq_true hb) h
    have h2 : or (Nat.blt a b) (Nat.blt b a) = true := by
      rw [Bool.or_eq_true]
      rcases Nat.lt_or_gt_of_ne h with z | z
      · exact Or.inl (Nat.ble_eq_true_of_le z)
      · exact Or.inr (Nat.ble_eq_true_of_le z)
    rw [h1, cond_false, h2, cond_true, decide_eq_false h]
theorem sv_cmpb {c : Jvm.ClassFile.Cond} {a b : Nat} {x y : Int} (ha : (a : Int) = x + 2147483648) (hb : (b : Int) = y + 2147483648) : (sv_holds c x y → ae_cmp c (a, a) (b, b) = some true) ∧ (¬ sv_holds c x y → ae_cmp c (a, a) (b, b) = some false) := by
  cases c <;> simp only [ae_cmp, sv_ltb, sv_eqb, sv_holds, Option.map_some] <;> constructor <;> intro h <;> congr 1 <;> simp <;> omega
theorem sv_cmp_u {c : Jvm.ClassFile.Cond} {x y : Int} (hx : sv_I x) (hy : sv_I y) : (sv_holds c x y → ae_cmp c (ae_rg (.inl (sv_u x))) (ae_rg (.inl (sv_u y))) = some true) ∧ (¬ sv_holds c x y → ae_cmp c (ae_rg (.inl (sv_u x))) (ae_rg (.inl (sv_u y))) = some false) := sv_cmpb (sv_bs_u hx) (sv_bs_u hy)
theorem sv_cmp_0 {c : Jvm.ClassFile.Cond} {x : Int} (hx : sv_I x) : (sv_holds c x 0 → ae_cmp c (ae_rg (.inl (sv_u x))) (2147483648, 2147483648) = some true) ∧ (¬ sv_holds c x 0 → ae_cmp c (ae_rg (.inl (sv_u x))) (2147483648, 2147483648) = some false) := sv_cmpb (sv_bs_u hx) (by omega)
/-- an int result of the verifier: it goes on with a form that is worth z -/
def sv_res (ρ : Nat → Int) (a : sv_A) (K : sv_A → sv_L → Bool) (z : Nat) : Prop := ∃ ρ2 a2 e2, K a2 e2 = true ∧ sv_ak ρ2 a2 ∧ a.1 ≤ a2.1 ∧ (∀ s, s < a.1 → ρ2 s = ρ s) ∧ sv_wf a2.1 e2 ∧ sv_I (sv_ev ρ2 e2) ∧ sv_u (sv_ev ρ2 e2) = z
theorem sv_res_same {ρ : Nat → Int} {a : sv_A} {K : sv_A → sv_L → Bool} {e : sv_L} {z : Nat} (ha : sv_ak ρ a) (h : K a e = true) (hw : sv_wf a.1 e) (hi : sv_I (sv_ev ρ e)) (hz : sv_u (sv_ev ρ e) = z) : sv_res ρ a K z := ⟨ρ, a, e, h, ha, Nat.le_refl _, fun _ _ => rfl, hw, hi, hz⟩
theorem sv_wf1 (n : Nat) : sv_wf (n + 1) (0, [(n, 1)]) := fun q hq => by cases List.mem_singleton.mp hq; exact Nat.lt_succ_self n
theorem sv_res_new {ρ : Nat → Int} {a : sv_A} {K : sv_A → sv_L → Bool} {lo hi v : Int} {z : Nat} (ha : sv_ak ρ a) (h : sv_nw a lo hi K = true) (h1 : lo ≤ v) (h2 : v ≤ hi) (hi : sv_I v) (hz : sv_u v = z) : sv_res ρ a K z := by
  obtain ⟨hlt, a2, k2, r2, e2, v2⟩ := sv_nw_ok ha h1 h2 h
  exact ⟨_, a2, _, k2, r2, by omega, sv_up_lt hlt, by rw [e2]; exact sv_wf1 _, by rw [v2]; exact hi, by rw [v2]; exact hz⟩
/-- the form itself where it stays an int, else a new number -/
noncomputable def sv_nm (a : sv_A) (e : sv_L) (K : sv_A → sv_L → Bool) : Bool := sv_ac 2147483648 e fun e1 => sv_ma (-1) e (2147483647, []) fun e2 => cond (and (sv_p 3 a e1) (sv_p 3 a e2)) (K a e) (sv_nw a (-2147483648) 2147483647 K)
theorem sv_nm_ok {ρ : Nat → Int} {a : sv_A} {K : sv_A → sv_L → Bool} {e : sv_L} {z : Nat} (ha : sv_ak ρ a) (hw : sv_wf a.1 e) (hz : sv_u (sv_ev ρ e) = z) (h : sv_nm a e K = true) : sv_res ρ a K z := by
  unfold sv_nm at h
  obtain ⟨e1, p1, -, p3⟩ := sv_ac_ok 2147483648 e
  obtain ⟨e2, q1, -, q3⟩ := sv_ma_ok (-1) e (2147483647, [])
  rw [p3, q3] at h
  cases hc : and (sv_p 3 a e1) (sv_p 3 a e2) with
  | true =>
    rw [hc, cond_true] at h
    rw [Bool.and_eq_true] at hc
    have g1 := sv_p_ok ha hc.1
    have g2 := sv_p_ok ha hc.2
    rw [p1] at g1
    rw [q1] at g2
    have e0 : sv_ev ρ ((2147483647, []) : sv_L) = 2147483647 := rfl
    rw [e0] at g2
    exact sv_res_same ha h hw (by unfold sv_I; omega) hz
  | false =>
    rw [hc, cond_false] at h
    have hlt : z < 4294967296 := by rw [← hz]; exact sv_u_lt _
    have hI := sv_g_I hlt
    unfold sv_I at hI
    exact sv_res_new (v := sv_g z) ha h hI.1 (by omega) (sv_g_I hlt) (sv_u_g hlt)
/-- any int -/
noncomputable def sv_tp (a : sv_A) (K : sv_A → sv_L → Bool) : Bool := sv_nw a (-2147483648) 2147483647 K
theorem sv_tp_ok {ρ : Nat → Int} {a : sv_A} {K : sv_A → sv_L → Bool} {z : Nat} (ha : sv_ak ρ a) (hz : z < 4294967296) (h : sv_tp a K = true) : sv_res ρ a K z := by
  have hI := sv_g_I hz
  unfold sv_I at hI
  exact sv_res_new (v := sv_g z) ha h hI.1 (by omega) (sv_g_I hz) (sv_u_g hz)
/-- the same number by the bounds -/
noncomputable def sv_cs (a : sv_A) (e : sv_L) (K : Int → Bool) (E : Bool) : Bool := sv_lbl a.2.1 e.2 e.1 fun l => sv_ubl a.2.1 e.2 e.1 fun u => cond (sv_ieq l u) (K l) E
theorem sv_cs_ok {ρ : Nat → Int} {a : sv_A} {e : sv_L} {K : Int → Bool} {E : Bool} (ha : sv_ak ρ a) (h : sv_cs a e K E = true) : K (sv_ev ρ e) = true ∨ E = true := by
  unfold sv_cs at h
  obtain ⟨m, m1, m2⟩ := sv_lbl_ok a.2.1 e.2 e.1
  rw [m2, sv_ubl_ok] at h
  cases hc : sv_ieq m (e.1 + sv_ms a.2.1 e.2) with
  | false => rw [hc, cond_false] at h; exact Or.inr h
  | true =>
    rw [hc, cond_true] at h
    have g := sv_ieq_ok hc
    have g1 := m1 ρ ha.1
    have g2 := sv_ms_le ha.1 e.2
    left
    have : sv_ev ρ e = m := by unfold sv_ev; omega
    rw [this]; exact h
noncomputable def sv_mulK (a : sv_A) (x y : sv_L) (K : sv_A → sv_L → Bool) : Bool := sv_cs a y (fun c => sv_ma c x (0, []) fun e => sv_nm a e K) (sv_cs a x (fun c => sv_ma c y (0, []) fun e => sv_nm a e K) (sv_tp a K))
theorem sv_wf0 (n : Nat) (c : Int) : sv_wf n (c, []) := fun _ h => by cases h
theorem sv_ev0 (ρ : Nat → Int) (c : Int) : sv_ev ρ (c, []) = c := by show c + 0 = c; omega
theorem sv_mulK_ok {ρ : Nat → Int} {a : sv_A} {K : sv_A → sv_L → Bool} {x y : sv_L} (ha : sv_ak ρ a) (hx : sv_wf a.1 x) (hy : sv_wf a.1 y) (h : sv_mulK a x y K = true) : sv_res ρ a K (ae_mul (sv_u (sv_ev ρ x)) (sv_u (sv_ev ρ y))) := by
  rw [sv_mul_u]
  unfold sv_mulK at h
  rcases sv_cs_ok ha h with h | h
  · obtain ⟨e, e1, e2, e3⟩ := sv_ma_ok (sv_ev ρ y) x (0, [])
    rw [e3] at h
    exact sv_nm_ok ha (e2 _ hx (sv_wf0 _ _)) (by rw [e1, sv_ev0, Int.mul_comm, Int.add_zero]) h
  · rcases sv_cs_ok ha h with h | h
    · obtain ⟨e, e1, e2, e3⟩ := sv_ma_ok (sv_ev ρ x) y (0, [])
      rw [e3] at h
      exact sv_nm_ok ha (e2 _ hy (sv_wf0 _ _)) (by rw [e1, sv_ev0, Int.add_zero]) h
    · exact sv_tp_ok ha (sv_u_lt _) h
noncomputable def sv_addK (a : sv_A) (x y : sv_L) (K : sv_A → sv_L → Bool) : Bool := sv_ma 1 y x fun e => sv_nm a e K
noncomputable def sv_subK (a : sv_A) (x y : sv_L) (K : sv_A → sv_L → Bool) : Bool := sv_ma (-1) y x fun e => sv_nm a e K
theorem sv_addK_ok {ρ : Nat → Int} {a : sv_A} {K : sv_A → sv_L → Bool} {x y : sv_L} (ha : sv_ak ρ a) (hx : sv_wf a.1 x) (hy : sv_wf a.1 y) (h : sv_addK a x y K = true) : sv_res ρ a K (ae_add (sv_u (sv_ev ρ x)) (sv_u (sv_ev ρ y))) := by
  rw [sv_add_u]
  obtain ⟨e, e1, e2, e3⟩ := sv_ma_ok 1 y x
  unfold sv_addK at h
  rw [e3] at h
  exact sv_nm_ok ha (e2 _ hy hx) (by rw [e1]; congr 1; omega) h
theorem sv_subK_ok {ρ : Nat → Int} {a : sv_A} {K : sv_A → sv_L → Bool} {x y : sv_L} (ha : sv_ak ρ a) (hx : sv_wf a.1 x) (hy : sv_wf a.1 y) (h : sv_subK a x y K = true) : sv_res ρ a K (ae_sub (sv_u (sv_ev ρ x)) (sv_u (sv_ev ρ y))) := by
  rw [sv_sub_u]
  obtain ⟨e, e1, e2, e3⟩ := sv_ma_ok (-1) y x
  unfold sv_subK at h
  rw [e3] at h
  exact sv_nm_ok ha (e2 _ hy hx) (by rw [e1]; congr 1; omega) h
