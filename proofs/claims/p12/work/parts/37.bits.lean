/-! BITS, SHIFTS, DIVISION -/
theorem sv_upos {x : Int} (h : sv_I x) (h0 : 0 ≤ x) : ((sv_u x : Nat) : Int) = x ∧ sv_u x < 2147483648 := by
  unfold sv_I at h
  have := sv_uc x
  omega
theorem sv_uneg {x : Int} (h : sv_I x) (h0 : x < 0) : ((sv_u x : Nat) : Int) = x + 4294967296 ∧ 2147483648 ≤ sv_u x := by
  unfold sv_I at h
  have := sv_uc x
  omega
theorem sv_u_nat {n : Nat} (h : n < 4294967296) : sv_u (n : Int) = n := by
  have := sv_uc (n : Int)
  omega
/-- a new number with two forms that hold of it -/
theorem sv_res_two {ρ : Nat → Int} {a : sv_A} {K : sv_A → sv_L → Bool} {lo hi v : Int} {z : Nat} {f g : sv_L → sv_L} (ha : sv_ak ρ a) (h : sv_nw a lo hi (fun a r => sv_as a (f r) fun a => sv_as a (g r) fun a => K a r) = true) (h1 : lo ≤ v) (h2 : v ≤ hi) (hi : sv_I v) (hz : sv_u v = z)
    (hf : ∀ ρ2 n r, (∀ s, s < a.1 → ρ2 s = ρ s) → a.1 < n → sv_wf n r → sv_ev ρ2 r = v → sv_wf n (f r) ∧ 0 ≤ sv_ev ρ2 (f r)) (hg : ∀ ρ2 n r, (∀ s, s < a.1 → ρ2 s = ρ s) → a.1 < n → sv_wf n r → sv_ev ρ2 r = v → sv_wf n (g r) ∧ 0 ≤ sv_ev ρ2 (g r)) : sv_res ρ a K z := by
  obtain ⟨hlt, a2, k2, r2, e2, v2⟩ := sv_nw_ok ha h1 h2 h
  have hw : sv_wf a2.1 (0, [(a.1, 1)]) := by rw [e2]; exact sv_wf1 _
  have hup := sv_up_lt (ρ := ρ) (v := v) hlt
  obtain ⟨f1, f2⟩ := hf _ a2.1 _ hup (by omega) hw v2
  obtain ⟨a3, k3, r3, e3⟩ := sv_as_ok r2 f1 f2 k2
  obtain ⟨g1, g2⟩ := hg _ a3.1 _ hup (by omega) (by rw [e3]; exact hw) v2
  obtain ⟨a4, k4, r4, e4⟩ := sv_as_ok r3 g1 g2 k3
  exact ⟨_, a4, _, k4, r4, by omega, hup, by rw [e4, e3]; exact hw, by rw [v2]; exact hi, by rw [v2]; exact hz⟩
/-- the form m * a + b, as it is -/
noncomputable def sv_mf (m : Int) (a b : sv_L) : sv_L := Classical.choose (sv_ma_ok m a b)
theorem sv_mf_ok (m : Int) (a b : sv_L) : (∀ ρ, sv_ev ρ (sv_mf m a b) = m * sv_ev ρ a + sv_ev ρ b) ∧ (∀ n, sv_wf n a → sv_wf n b → sv_wf n (sv_mf m a b)) ∧ ∀ k, sv_ma m a b k = k (sv_mf m a b) := Classical.choose_spec (sv_ma_ok m a b)
theorem sv_ma_f (m : Int) (a b : sv_L) (k : sv_L → Bool) : sv_ma m a b k = k (sv_mf m a b) := (sv_mf_ok m a b).2.2 k
theorem sv_mf_ev (m : Int) (a b : sv_L) (ρ : Nat → Int) : sv_ev ρ (sv_mf m a b) = m * sv_ev ρ a + sv_ev ρ b := (sv_mf_ok m a b).1 ρ
theorem sv_mf_wf {m : Int} {a b : sv_L} {n : Nat} (ha : sv_wf n a) (hb : sv_wf n b) : sv_wf n (sv_mf m a b) := (sv_mf_ok m a b).2.1 n ha hb
/-- x & y -/
noncomputable def sv_andK (a : sv_A) (x y : sv_L) (K : sv_A → sv_L → Bool) : Bool :=
  cond (and (sv_same y (255, [])) (and (sv_p 3 a x) (sv_ma (-1) x (255, []) fun e => sv_p 3 a e))) (K a x)
  (cond (and (sv_same y (255, [])) (and (sv_ac 128 x fun e => sv_p 3 a e) (sv_ma (-1) x (127, []) fun e => sv_p 3 a e))) (and (sv_as a x fun a => K a x) (sv_ma (-1) x (-1, []) fun e => sv_as a e fun a => sv_ac 256 x fun x2 => K a x2))
  (cond (sv_p 3 a x) (cond (sv_p 3 a y) (sv_ubl a.2.1 y.2 y.1 fun u => sv_nw a 0 u fun a r => sv_ma (-1) r x fun e => sv_as a e fun a => sv_ma (-1) r y fun e => sv_as a e fun a => K a r) (sv_ubl a.2.1 x.2 x.1 fun u => sv_nw a 0 u fun a r => sv_ma (-1) r x fun e => sv_as a e fun a => sv_as a r fun a => K a r))
  (cond (sv_p 3 a y) (sv_ubl a.2.1 y.2 y.1 fun u => sv_nw a 0 u fun a r => sv_ma (-1) r y fun e => sv_as a e fun a => sv_as a r fun a => K a r) (sv_tp a K))))
theorem sv_le_ub {ρ : Nat → Int} {a : sv_A} (ha : sv_ak ρ a) (e : sv_L) : sv_ev ρ e ≤ e.1 + sv_ms a.2.1 e.2 := by
  have := sv_ms_le ha.1 e.2
  unfold sv_ev; omega
theorem sv_andK_ok {ρ : Nat → Int} {a : sv_A} {K : sv_A → sv_L → Bool} {x y : sv_L} (ha : sv_ak ρ a) (hx : sv_wf a.1 x) (hy : sv_wf a.1 y) (ix : sv_I (sv_ev ρ x)) (iy : sv_I (sv_ev ρ y)) (h : sv_andK a x y K = true) : sv_res ρ a K (ae_and (sv_u (sv_ev ρ x)) (sv_u (sv_ev ρ y))) := by
  have h255 : ∀ X : Nat, Nat.land X 255 = X % 256 := fun X => Nat.and_two_pow_sub_one_eq_mod X 8
  have ux := sv_u_lt (sv_ev ρ x)
  have uy := sv_u_lt (sv_ev ρ y)
  have lel : Nat.land (sv_u (sv_ev ρ x)) (sv_u (sv_ev ρ y)) ≤ sv_u (sv_ev ρ x) := Nat.and_le_left
  have ler : Nat.land (sv_u (sv_ev ρ x)) (sv_u (sv_ev ρ y)) ≤ sv_u (sv_ev ρ y) := Nat.and_le_right
  show sv_res ρ a K (Nat.land (sv_u (sv_ev ρ x)) (sv_u (sv_ev ρ y)))
  unfold sv_andK at h
  simp only [sv_ma_f] at h
  cases c1 : and (sv_same y (255, [])) (and (sv_p 3 a x) (sv_p 3 a (sv_mf (-1) x (255, [])))) with
  | true =>
    rw [c1, cond_true] at h
    rw [Bool.and_eq_true, Bool.and_eq_true] at c1
    obtain ⟨q1, q2, q3⟩ := c1
    have e1 := sv_same_ok q1
    subst e1
    have g1 := sv_p_ok ha q2
    have g2 := sv_p_ok ha q3
    rw [sv_mf_ev, sv_ev0] at g2
    have hu := (sv_upos ix g1).1
    refine sv_res_same ha h hx ix ?_
    rw [sv_ev0, show sv_u 255 = 255 from rfl, h255]
    omega
  | false =>
    rw [c1, cond_false] at h
    obtain ⟨e8, p1, p2, p3⟩ := sv_ac_ok 128 x
    rw [p3] at h
    cases c2 : and (sv_same y (255, [])) (and (sv_p 3 a e8) (sv_p 3 a (sv_mf (-1) x (127, [])))) with
    | true =>
      rw [c2, cond_true] at h
      rw [Bool.and_eq_true, Bool.and_eq_true] at c2
      rw [Bool.and_eq_true] at h
      obtain ⟨q1, q2, q3⟩ := c2
      have e1 := sv_same_ok q1
      subst e1
      have g1 := sv_p_ok ha q2
      have g2 := sv_p_ok ha q3
      rw [p1] at g1
      rw [sv_mf_ev, sv_ev0] at g2
      rw [sv_ev0, show sv_u 255 = 255 from rfl, h255]
      by_cases hn : 0 ≤ sv_ev ρ x
      · obtain ⟨a2, k2, r2, e2⟩ := sv_as_ok ha hx hn h.1
        have hu := (sv_upos ix hn).1
        exact ⟨ρ, a2, x, k2, r2, by omega, fun _ _ => rfl, by rw [e2]; exact hx, ix, by omega⟩
      · obtain ⟨a2, k2, r2, e2⟩ := sv_as_ok ha (sv_mf_wf hx (sv_wf0 _ _)) (by rw [sv_mf_ev, sv_ev0]; omega) h.2
        obtain ⟨x2, s1, s2, s3⟩ := sv_ac_ok 256 x
        rw [s3] at k2
        have hu := (sv_uneg ix (by omega)).1
        refine ⟨ρ, a2, x2, k2, r2, by omega, fun _ _ => rfl, by rw [e2]; exact s2 _ hx, ?_, ?_⟩
        · rw [s1]; unfold sv_I; omega
        · rw [s1]
          have := sv_uc (256 + sv_ev ρ x)
          omega
    | false =>
      rw [c2, cond_false] at h
      simp only [sv_ubl_ok] at h
      have uR : Nat.land (sv_u (sv_ev ρ x)) (sv_u (sv_ev ρ y)) < 4294967296 := Nat.lt_of_le_of_lt lel ux
      cases px : sv_p 3 a x with
      | true =>
        rw [px, cond_true] at h
        have gx := sv_p_ok ha px
        obtain ⟨hu1, hu2⟩ := sv_upos ix gx
        have fX : ∀ ρ2 n r, (∀ s, s < a.1 → ρ2 s = ρ s) → a.1 < n → sv_wf n r → sv_ev ρ2 r = ((Nat.land (sv_u (sv_ev ρ x)) (sv_u (sv_ev ρ y)) : Nat) : Int) → sv_wf n (sv_mf (-1) r x) ∧ 0 ≤ sv_ev ρ2 (sv_mf (-1) r x) := fun ρ2 n r he hn hr hv => ⟨sv_mf_wf hr (sv_wf_up (by omega) hx), by rw [sv_mf_ev, hv, sv_ev_up he hx]; omega⟩
        cases py : sv_p 3 a y with
        | true =>
          rw [py, cond_true] at h
          have gy := sv_p_ok ha py
          obtain ⟨hv1, hv2⟩ := sv_upos iy gy
          have hub := sv_le_ub ha y
          exact sv_res_two (v := ((Nat.land (sv_u (sv_ev ρ x)) (sv_u (sv_ev ρ y)) : Nat) : Int)) ha h (by omega) (by omega) (by unfold sv_I; omega) (sv_u_nat uR) fX (fun ρ2 n r he hn hr hv => ⟨sv_mf_wf hr (sv_wf_up (by omega) hy), by rw [sv_mf_ev, hv, sv_ev_up he hy]; omega⟩)
        | false =>
          rw [py, cond_false] at h
          have hub := sv_le_ub ha x
          exact sv_res_two (g := fun r => r) (v := ((Nat.land (sv_u (sv_ev ρ x)) (sv_u (sv_ev ρ y)) : Nat) : Int)) ha h (by omega) (by omega) (by unfold sv_I; omega) (sv_u_nat uR) fX (fun ρ2 n r he hn hr hv => ⟨hr, by rw [hv]; omega⟩)
      | false =>
        rw [px, cond_false] at h
        cases py : sv_p 3 a y with
        | true =>
          rw [py, cond_true] at h
          have gy := sv_p_ok ha py
          obtain ⟨hv1, hv2⟩ := sv_upos iy gy
          have hub := sv_le_ub ha y
          exact sv_res_two (g := fun r => r) (v := ((Nat.land (sv_u (sv_ev ρ x)) (sv_u (sv_ev ρ y)) : Nat) : Int)) ha h (by omega) (by omega) (by unfold sv_I; omega) (sv_u_nat uR) (fun ρ2 n r he hn hr hv => ⟨sv_mf_wf hr (sv_wf_up (by omega) hy), by rw [sv_mf_ev, hv, sv_ev_up he hy]; omega⟩) (fun ρ2 n r he hn hr hv => ⟨hr, by rw [hv]; omega⟩)
        | false =>
          rw [py, cond_false] at h
          exact sv_tp_ok ha uR h
theorem sv_xor_all {X : Nat} (h : X < 4294967296) : Nat.xor X 4294967295 = 4294967295 - X := by
  have h1 : (BitVec.ofNat 32 X ^^^ BitVec.allOnes 32).toNat = 4294967295 - X := by
    rw [BitVec.xor_allOnes, BitVec.toNat_not, BitVec.toNat_ofNat, Nat.mod_eq_of_lt (show X < 2 ^ 32 from h)]
  rw [BitVec.toNat_xor, BitVec.toNat_allOnes, BitVec.toNat_ofNat, Nat.mod_eq_of_lt (show X < 2 ^ 32 from h)] at h1
  exact h1
/-- the least power of two above two numbers, less one -/
noncomputable def sv_pw (a : sv_A) (x y : sv_L) (K : Int → Bool) : Bool := sv_ubl a.2.1 x.2 x.1 fun u => sv_ubl a.2.1 y.2 y.1 fun w => sv_fn (Nat.log2 (Nat.max u.toNat w.toNat)) fun l => sv_fi (Int.ofNat (Nat.sub (Nat.pow 2 (Nat.succ l)) 1)) K
theorem sv_pw_ok {ρ : Nat → Int} {a : sv_A} {x y : sv_L} {K : Int → Bool} (ha : sv_ak ρ a) (h : sv_pw a x y K = true) : ∃ l : Nat, (sv_ev ρ x).toNat < 2 ^ (l + 1) ∧ (sv_ev ρ y).toNat < 2 ^ (l + 1) ∧ K (((2 ^ (l + 1) - 1 : Nat)) : Int) = true := by
  unfold sv_pw at h
  rw [sv_ubl_ok, sv_ubl_ok, sv_fn_eq, sv_fi_eq] at h
  have hx := sv_le_ub ha x
  have hy := sv_le_ub ha y
  have hb : Nat.max (x.1 + sv_ms a.2.1 x.2).toNat (y.1 + sv_ms a.2.1 y.2).toNat < 2 ^ (Nat.log2 (Nat.max (x.1 + sv_ms a.2.1 x.2).toNat (y.1 + sv_ms a.2.1 y.2).toNat) + 1) := Nat.lt_log2_self
  have h1 : (x.1 + sv_ms a.2.1 x.2).toNat ≤ Nat.max (x.1 + sv_ms a.2.1 x.2).toNat (y.1 + sv_ms a.2.1 y.2).toNat := Nat.le_max_left _ _
  have h2 : (y.1 + sv_ms a.2.1 y.2).toNat ≤ Nat.max (x.1 + sv_ms a.2.1 x.2).toNat (y.1 + sv_ms a.2.1 y.2).toNat := Nat.le_max_right _ _
  refine ⟨_, ?_, ?_, h⟩
  · omega
  · omega
/-- x | y and x ^ y of numbers that aren't below zero; x ^ -1 -/
noncomputable def sv_orK (a : sv_A) (x y : sv_L) (K : sv_A → sv_L → Bool) : Bool := cond (and (sv_p 3 a x) (sv_p 3 a y)) (sv_pw a x y fun u => sv_nw a 0 u K) (sv_tp a K)
noncomputable def sv_xorK (a : sv_A) (x y : sv_L) (K : sv_A → sv_L → Bool) : Bool := cond (sv_same y (-1, [])) (sv_ma (-1) x (-1, []) fun e => K a e) (sv_orK a x y K)
theorem sv_orx_ok {ρ : Nat → Int} {a : sv_A} {K : sv_A → sv_L → Bool} {x y : sv_L} {f : Nat → Nat → Nat} (hf : ∀ X Y n, X < 2 ^ n → Y < 2 ^ n → f X Y < 2 ^ n) (ha : sv_ak ρ a) (ix : sv_I (sv_ev ρ x)) (iy : sv_I (sv_ev ρ y)) (h : sv_orK a x y K = true) : sv_res ρ a K (f (sv_u (sv_ev ρ x)) (sv_u (sv_ev ρ y))) := by
  unfold sv_orK at h
  cases c : and (sv_p 3 a x) (sv_p 3 a y) with
  | false =>
    rw [c, cond_false] at h
    exact sv_tp_ok ha (hf _ _ 32 (sv_u_lt _) (sv_u_lt _)) h
  | true =>
    rw [c, cond_true] at h
    rw [Bool.and_eq_true] at c
    have gx := sv_p_ok ha c.1
    have gy := sv_p_ok ha c.2
    obtain ⟨x1, x2⟩ := sv_upos ix gx
    obtain ⟨y1, y2⟩ := sv_upos iy gy
    obtain ⟨l, l1, l2, l3⟩ := sv_pw_ok ha h
    have b1 := hf (sv_u (sv_ev ρ x)) (sv_u (sv_ev ρ y)) (l + 1) (by omega) (by omega)
    have b2 := hf (sv_u (sv_ev ρ x)) (sv_u (sv_ev ρ y)) 31 (show _ < 2147483648 from x2) (show _ < 2147483648 from y2)
    have b2 : f (sv_u (sv_ev ρ x)) (sv_u (sv_ev ρ y)) < 2147483648 := b2
    exact sv_res_new (v := ((f (sv_u (sv_ev ρ x)) (sv_u (sv_ev ρ y)) : Nat) : Int)) ha l3 (by omega) (by omega) (by unfold sv_I; omega) (sv_u_nat (by omega))
theorem sv_orK_ok {ρ : Nat → Int} {a : sv_A} {K : sv_A → sv_L → Bool} {x y : sv_L} (ha : sv_ak ρ a) (ix : sv_I (sv_ev ρ x)) (iy : sv_I (sv_ev ρ y)) (h : sv_orK a x y K = true) : sv_res ρ a K (ae_or (sv_u (sv_ev ρ x)) (sv_u (sv_ev ρ y))) := sv_orx_ok (f := ae_or) (fun X Y n h1 h2 => Nat.or_lt_two_pow h1 h2) ha ix iy h
theorem sv_xorK_ok {ρ : Nat → Int} {a : sv_A} {K : sv_A → sv_L → Bool} {x y : sv_L} (ha : sv_ak ρ a) (hx : sv_wf a.1 x) (ix : sv_I (sv_ev ρ x)) (iy : sv_I (sv_ev ρ y)) (h : sv_xorK a x y K = true) : sv_res ρ a K (ae_xor (sv_u (sv_ev ρ x)) (sv_u (sv_ev ρ y))) := by
  unfold sv_xorK at h
  rw [sv_ma_f] at h
  cases c : sv_same y (-1, []) with
  | true =>
    rw [c, cond_true] at h
    have e1 := sv_same_ok c
    subst e1
    have hux := sv_uc (sv_ev ρ x)
    have hlt := sv_u_lt (sv_ev ρ x)
    unfold sv_I at ix
    refine sv_res_same ha h (sv_mf_wf hx (sv_wf0 _ _)) ?_ ?_
    · rw [sv_mf_ev, sv_ev0]; unfold sv_I; omega
    · rw [sv_mf_ev, sv_ev0]
      show _ = Nat.xor _ (sv_u (-1))
      rw [show sv_u (-1) = 4294967295 from rfl, sv_xor_all hlt]
      have := sv_uc (-1 * sv_ev ρ x + -1)
      omega
  | false =>
    rw [c, cond_false] at h
    exact sv_orx_ok (f := ae_xor) (fun X Y n h1 h2 => Nat.xor_lt_two_pow h1 h2) ha ix iy h
/-- two known numbers -/
noncomputable def sv_cfK (f : Nat → Nat → Nat) (G : Bool) (a : sv_A) (x y : sv_L) (K : sv_A → sv_L → Bool) : Bool := sv_cs a x (fun c => sv_cs a y (fun d => cond (and (sv_nn c) (sv_nn d)) (sv_fi (Int.ofNat (f c.toNat d.toNat)) fun e => K a (e, [])) G) G) G
theorem sv_cfK_ok {ρ : Nat → Int} {a : sv_A} {K : sv_A → sv_L → Bool} {x y : sv_L} {f : Nat → Nat → Nat} {G : Bool} (hf : ∀ X Y n, X < 2 ^ n → Y < 2 ^ n → f X Y < 2 ^ n) (ha : sv_ak ρ a) (ix : sv_I (sv_ev ρ x)) (iy : sv_I (sv_ev ρ y)) (hG : G = true → sv_res ρ a K (f (sv_u (sv_ev ρ x)) (sv_u (sv_ev ρ y)))) (h : sv_cfK f G a x y K = true) : sv_res ρ a K (f (sv_u (sv_ev ρ x)) (sv_u (sv_ev ρ y))) := by
  unfold sv_cfK at h
  rcases sv_cs_ok ha h with h | h
  · rcases sv_cs_ok ha h with h | h
    · cases c : and (sv_nn (sv_ev ρ x)) (sv_nn (sv_ev ρ y)) with
      | false => rw [c, cond_false] at h; exact hG h
      | true =>
        rw [c, cond_true, sv_fi_eq] at h
        rw [Bool.and_eq_true] at c
        have gx := sv_nn_iff.mp c.1
        have gy := sv_nn_iff.mp c.2
        obtain ⟨x1, x2⟩ := sv_upos ix gx
        obtain ⟨y1, y2⟩ := sv_upos iy gy
        have ex : (sv_ev ρ x).toNat = sv_u (sv_ev ρ x) := by omega
        have ey : (sv_ev ρ y).toNat = sv_u (sv_ev ρ y) := by omega
        rw [ex, ey] at h
        have b2 : f (sv_u (sv_ev ρ x)) (sv_u (sv_ev ρ y)) < 2147483648 := hf _ _ 31 x2 y2
        refine sv_res_same ha h (sv_wf0 _ _) ?_ ?_
        · rw [sv_ev0]
          show sv_I ((f (sv_u (sv_ev ρ x)) (sv_u (sv_ev ρ y)) : Nat) : Int)
          unfold sv_I; omega
        · rw [sv_ev0]; exact sv_u_nat (by omega)
    · exact hG h
  · exact hG h
noncomputable def sv_andC (a : sv_A) (x y : sv_L) (K : sv_A → sv_L → Bool) : Bool := sv_cfK ae_and (sv_andK a x y K) a x y K
noncomputable def sv_orC (a : sv_A) (x y : sv_L) (K : sv_A → sv_L → Bool) : Bool := sv_cfK ae_or (sv_orK a x y K) a x y K
theorem sv_andC_ok {ρ : Nat → Int} {a : sv_A} {K : sv_A → sv_L → Bool} {x y : sv_L} (ha : sv_ak ρ a) (hx : sv_wf a.1 x) (hy : sv_wf a.1 y) (ix : sv_I (sv_ev ρ x)) (iy : sv_I (sv_ev ρ y)) (h : sv_andC a x y K = true) : sv_res ρ a K (ae_and (sv_u (sv_ev ρ x)) (sv_u (sv_ev ρ y))) := sv_cfK_ok (fun _ _ _ _ h2 => Nat.lt_of_le_of_lt Nat.and_le_right h2) ha ix iy (fun hG => sv_andK_ok ha hx hy ix iy hG) h
theorem sv_orC_ok {ρ : Nat → Int} {a : sv_A} {K : sv_A → sv_L → Bool} {x y : sv_L} (ha : sv_ak ρ a) (ix : sv_I (sv_ev ρ x)) (iy : sv_I (sv_ev ρ y)) (h : sv_orC a x y K = true) : sv_res ρ a K (ae_or (sv_u (sv_ev ρ x)) (sv_u (sv_ev ρ y))) := sv_cfK_ok (fun _ _ _ h1 h2 => Nat.or_lt_two_pow h1 h2) ha ix iy (fun hG => sv_orK_ok ha ix iy hG) h
