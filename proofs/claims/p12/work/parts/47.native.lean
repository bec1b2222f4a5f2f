/-! STRETCHES, LONGS INTO ROWS, WHAT THE LIBRARY DOES -/
theorem sv_rd_blit (A sp B dp n i : Nat) : ae_rd 32 (ae_blit A sp B dp n) i = if dp ≤ i ∧ i < dp + n then ae_rd 32 A (sp + (i - dp)) else ae_rd 32 B i := by
  have hlo : B % 2 ^ (32 * dp) < 2 ^ (32 * dp) := Nat.mod_lt _ (Nat.two_pow_pos _)
  have hmid : (A >>> (32 * sp)) % 2 ^ (32 * n) < 2 ^ (32 * n) := Nat.mod_lt _ (Nat.two_pow_pos _)
  generalize hV : (A >>> (32 * sp)) % 2 ^ (32 * n) = V at *
  have e1 : V <<< (32 * dp) + B % 2 ^ (32 * dp) = V <<< (32 * dp) ||| B % 2 ^ (32 * dp) := Nat.shiftLeft_add_eq_or_of_lt hlo V
  have h2 : V <<< (32 * dp) + B % 2 ^ (32 * dp) < 2 ^ (32 * (dp + n)) := by
    have e : 32 * (dp + n) = 32 * n + 32 * dp := by omega
    rw [Nat.shiftLeft_eq, e, Nat.pow_add]
    calc V * 2 ^ (32 * dp) + B % 2 ^ (32 * dp) < V * 2 ^ (32 * dp) + 2 ^ (32 * dp) := by omega
      _ = (V + 1) * 2 ^ (32 * dp) := (Nat.succ_mul V (2 ^ (32 * dp))).symm
      _ ≤ 2 ^ (32 * n) * 2 ^ (32 * dp) := Nat.mul_le_mul_right _ hmid
  have e2 : ae_blit A sp B dp n = (B >>> (32 * (dp + n))) <<< (32 * (dp + n)) ||| (V <<< (32 * dp) ||| B % 2 ^ (32 * dp)) := by
    show (B >>> (32 * (dp + n))) <<< (32 * (dp + n)) + (((A >>> (32 * sp)) % 2 ^ (32 * n)) <<< (32 * dp) + B % 2 ^ (32 * dp)) = _
    rw [hV, Nat.shiftLeft_add_eq_or_of_lt h2, e1]
  rw [e2]
  show (_ >>> (32 * i)) % 2 ^ 32 = _
  apply Nat.eq_of_testBit_eq
  intro b
  by_cases hb : b < 32
  · by_cases hin : dp ≤ i ∧ i < dp + n
    · rw [if_pos hin]
      show _ = ((A >>> (32 * (sp + (i - dp)))) % 2 ^ 32).testBit b
      have a1 : ¬ (32 * (dp + n) ≤ 32 * i + b) := by omega
      have a2 : ¬ (32 * i + b < 32 * dp) := by omega
      have a3 : 32 * dp ≤ 32 * i + b := by omega
      have a4 : 32 * i + b - 32 * dp < 32 * n := by omega
      have a5 : 32 * sp + (32 * i + b - 32 * dp) = 32 * (sp + (i - dp)) + b := by omega
      simp only [Nat.testBit_mod_two_pow, hb, decide_true, Bool.true_and, Nat.testBit_shiftRight, Nat.testBit_or, Nat.testBit_shiftLeft, a1, a2, a3, decide_false, Bool.false_and, Bool.false_or, Bool.or_false, ← hV, a4, a5]
    · rw [if_neg hin]
      show _ = ((B >>> (32 * i)) % 2 ^ 32).testBit b
      simp only [Nat.testBit_mod_two_pow, hb, decide_true, Bool.true_and, Nat.testBit_shiftRight, Nat.testBit_or, Nat.testBit_shiftLeft]
      by_cases q : i < dp
      · have a1 : ¬ (32 * (dp + n) ≤ 32 * i + b) := by omega
        have a2 : ¬ (32 * dp ≤ 32 * i + b) := by omega
        have a3 : 32 * i + b < 32 * dp := by omega
        simp [a1, a2, a3]
      · have a1 : 32 * (dp + n) ≤ 32 * i + b := by omega
        have a3 : ¬ (32 * i + b < 32 * dp) := by omega
        have hvb : V.testBit (32 * i + b - 32 * dp) = false := Nat.testBit_lt_two_pow (Nat.lt_of_lt_of_le hmid (Nat.pow_le_pow_right (by omega) (by omega)))
        have a4 : 32 * (dp + n) + (32 * i + b - 32 * (dp + n)) = 32 * i + b := by omega
        simp [a1, a3, hvb, a4]
  · have h3 : ∀ x : Nat, (x % 2 ^ 32).testBit b = false := fun x => by simp only [Nat.testBit_mod_two_pow, hb, decide_false, Bool.false_and]
    rw [h3]
    split
    · exact (h3 _).symm
    · exact (h3 _).symm
noncomputable def sx_cS (vs : List sv_V) : Nat := List.rec (motive := fun _ => Nat) 0 (fun v _ ih => Nat.add (cond (Nat.beq v.1 4) 2 1) ih) vs
theorem sx_cS_ok {ty : Nat → Option Nat} {ρ : Nat → Int} {n : Nat} : ∀ {vs : List sv_V} {cs : List ae_V}, sv_sk ty ρ n vs cs → ae_catS cs = sx_cS vs
  | [], cs, hh => by rw [show cs = [] from hh]; rfl
  | v :: vs, _, ⟨c, cs', e, h1, h2⟩ => by
    subst e
    show ae_cat c + ae_catS cs' = cond (Nat.beq v.1 4) 2 1 + sx_cS vs
    rw [sx_cS_ok h2]
    obtain ⟨g1, g2⟩ := sv_cat h1
    cases hb : Nat.beq v.1 4 with
    | true => rw [g1.mpr (Nat.eq_of_beq_eq_true hb)]; rfl
    | false =>
      have : ae_cat c = 1 := Nat.eq_of_beq_eq_true (sv_cat1 h1 hb)
      rw [this]; rfl
noncomputable def sx_mnmx (mn : Bool) (a : sv_A) (x y : sv_L) (K : sv_A → sv_L → Bool) : Bool := sv_lbl a.2.1 x.2 x.1 fun lx => sv_lbl a.2.1 y.2 y.1 fun ly => sv_ubl a.2.1 x.2 x.1 fun ux => sv_ubl a.2.1 y.2 y.1 fun uy => cond mn (sv_nw a (cond (sv_nn (lx - ly)) ly lx) (cond (sv_nn (ux - uy)) uy ux) fun a r => sv_ma (-1) r x fun e => sv_as a e fun a => sv_ma (-1) r y fun e => sv_as a e fun a => K a r) (sv_nw a (cond (sv_nn (lx - ly)) lx ly) (cond (sv_nn (ux - uy)) ux uy) fun a r => sv_ma (-1) x r fun e => sv_as a e fun a => sv_ma (-1) y r fun e => sv_as a e fun a => K a r)
theorem sv_cn {x y a b : Int} : cond (sv_nn (x - y)) a b = if y ≤ x then a else b := by
  by_cases h : y ≤ x
  · rw [if_pos h, sv_nn_iff.mpr (by omega : 0 ≤ x - y), cond_true]
  · rw [if_neg h]
    cases hb : sv_nn (x - y) with
    | false => rfl
    | true => exact absurd (sv_nn_iff.mp hb) (by omega)
theorem sv_blt_bs {x y : Int} (hx : sv_I x) (hy : sv_I y) {a b : Nat} : cond (Nat.blt (ae_bs (sv_u x)) (ae_bs (sv_u y))) a b = if x < y then a else b := by
  have h1 := sv_bs_u hx
  have h2 := sv_bs_u hy
  by_cases h : x < y
  · rw [if_pos h]
    have : Nat.blt (ae_bs (sv_u x)) (ae_bs (sv_u y)) = true := Nat.ble_eq_true_of_le (by omega)
    rw [this, cond_true]
  · rw [if_neg h]
    have : Nat.blt (ae_bs (sv_u x)) (ae_bs (sv_u y)) = false := sv_ble_f (by omega)
    rw [this, cond_false]
theorem sx_mn_ok {ρ : Nat → Int} {a : sv_A} {K : sv_A → sv_L → Bool} {x y : sv_L} (ha : sv_ak ρ a) (hx : sv_wf a.1 x) (hy : sv_wf a.1 y) (ix : sv_I (sv_ev ρ x)) (iy : sv_I (sv_ev ρ y)) (h : sx_mnmx true a x y K = true) : sv_res ρ a K (cond (Nat.blt (ae_bs (sv_u (sv_ev ρ y))) (ae_bs (sv_u (sv_ev ρ x)))) (sv_u (sv_ev ρ y)) (sv_u (sv_ev ρ x))) := by
  rw [sv_blt_bs iy ix]
  unfold sx_mnmx at h
  obtain ⟨lx, x1, x2⟩ := sv_lbl_ok a.2.1 x.2 x.1
  obtain ⟨ly, y1, y2⟩ := sv_lbl_ok a.2.1 y.2 y.1
  simp only [sv_ma_f] at h
  rw [x2, y2, sv_ubl_ok, sv_ubl_ok, cond_true, sv_cn, sv_cn] at h
  have hlx : lx ≤ sv_ev ρ x := x1 ρ ha.1
  have hly : ly ≤ sv_ev ρ y := y1 ρ ha.1
  have hux := sv_le_ub ha x
  have huy := sv_le_ub ha y
  generalize x.1 + sv_ms a.2.1 x.2 = ux at *
  generalize y.1 + sv_ms a.2.1 y.2 = uy at *
  exact sv_res_two (v := if sv_ev ρ y < sv_ev ρ x then sv_ev ρ y else sv_ev ρ x) (f := fun r => sv_mf (-1) r x) (g := fun r => sv_mf (-1) r y) ha h (by split <;> split <;> omega) (by split <;> split <;> omega) (by split; exact iy; exact ix) (by split <;> rfl)
    (fun ρ2 n r he hn hr hv => ⟨sv_mf_wf hr (sv_wf_up (by omega) hx), by rw [sv_mf_ev, hv, sv_ev_up he hx]; split <;> omega⟩)
    (fun ρ2 n r he hn hr hv => ⟨sv_mf_wf hr (sv_wf_up (by omega) hy), by rw [sv_mf_ev, hv, sv_ev_up he hy]; split <;> omega⟩)
theorem sx_mx_ok {ρ : Nat → Int} {a : sv_A} {K : sv_A → sv_L → Bool} {x y : sv_L} (ha : sv_ak ρ a) (hx : sv_wf a.1 x) (hy : sv_wf a.1 y) (ix : sv_I (sv_ev ρ x)) (iy : sv_I (sv_ev ρ y)) (h : sx_mnmx false a x y K = true) : sv_res ρ a K (cond (Nat.blt (ae_bs (sv_u (sv_ev ρ x))) (ae_bs (sv_u (sv_ev ρ y)))) (sv_u (sv_ev ρ y)) (sv_u (sv_ev ρ x))) := by
  rw [sv_blt_bs ix iy]
  unfold sx_mnmx at h
  obtain ⟨lx, x1, x2⟩ := sv_lbl_ok a.2.1 x.2 x.1
  obtain ⟨ly, y1, y2⟩ := sv_lbl_ok a.2.1 y.2 y.1
  simp only [sv_ma_f] at h
  rw [x2, y2, sv_ubl_ok, sv_ubl_ok, cond_false, sv_cn, sv_cn] at h
  have hlx : lx ≤ sv_ev ρ x := x1 ρ ha.1
  have hly : ly ≤ sv_ev ρ y := y1 ρ ha.1
  have hux := sv_le_ub ha x
  have huy := sv_le_ub ha y
  generalize x.1 + sv_ms a.2.1 x.2 = ux at *
  generalize y.1 + sv_ms a.2.1 y.2 = uy at *
  exact sv_res_two (v := if sv_ev ρ x < sv_ev ρ y then sv_ev ρ y else sv_ev ρ x) (f := fun r => sv_mf (-1) x r) (g := fun r => sv_mf (-1) y r) ha h (by split <;> split <;> omega) (by split <;> split <;> omega) (by split; exact iy; exact ix) (by split <;> rfl)
    (fun ρ2 n r he hn hr hv => ⟨sv_mf_wf (sv_wf_up (by omega) hx) hr, by rw [sv_mf_ev, hv, sv_ev_up he hx]; split <;> omega⟩)
    (fun ρ2 n r he hn hr hv => ⟨sv_mf_wf (sv_wf_up (by omega) hy) hr, by rw [sv_mf_ev, hv, sv_ev_up he hy]; split <;> omega⟩)
noncomputable def sx_abs (a : sv_A) (x : sv_L) (K : sv_A → sv_L → Bool) : Bool := and (sv_as a x fun a => K a x) (sv_ma (-1) x (-1, []) fun e => sv_as a e fun a => sv_subK a (0, []) x K)
theorem sx_abs_ok {ρ : Nat → Int} {a : sv_A} {K : sv_A → sv_L → Bool} {x : sv_L} (ha : sv_ak ρ a) (hx : sv_wf a.1 x) (ix : sv_I (sv_ev ρ x)) (h : sx_abs a x K = true) : sv_res ρ a K (cond (Nat.ble 2147483648 (sv_u (sv_ev ρ x))) (ae_sub 0 (sv_u (sv_ev ρ x))) (sv_u (sv_ev ρ x))) := by
  unfold sx_abs at h
  rw [Bool.and_eq_true, sv_ma_f] at h
  by_cases hn : 0 ≤ sv_ev ρ x
  · obtain ⟨a2, k2, r2, e2⟩ := sv_as_ok ha hx hn h.1
    have := sv_upos ix hn
    rw [sv_ble_f (by omega), cond_false]
    exact ⟨ρ, a2, x, k2, r2, by omega, fun _ _ => rfl, by rw [e2]; exact hx, ix, rfl⟩
  · obtain ⟨a2, k2, r2, e2⟩ := sv_as_ok ha (sv_mf_wf hx (sv_wf0 _ _)) (by rw [sv_mf_ev, sv_ev0]; omega) h.2
    have hu := sv_uneg ix (by omega)
    rw [Nat.ble_eq_true_of_le (by omega), cond_true]
    have hres := sv_subK_ok r2 (sv_wf0 _ 0) (by rw [e2]; exact hx) k2
    rw [sv_ev0, show sv_u 0 = 0 from rfl] at hres
    obtain ⟨ρ3, a3, e3, k3, r3, n3, u3, w3, i3, z3⟩ := hres
    exact ⟨ρ3, a3, e3, k3, r3, by omega, fun s hs => u3 s (by omega), w3, i3, z3⟩
