/-! FURTHER INSTRUCTIONS, read backwards (printed by wip/p35/gmore3.py) -/
section
variable {r : ae_R} {n mi pc : Nat} {M : ae_M} {lv : ae_L} {st : List ae_V} {h : ae_H} {x y : Int}
theorem iv_max {idx a b : Nat} (hM : ae_m mi = some M) (hd : decode M.2.2.1 pc = .ok (.invokestatic idx, 3)) (hc : ae_cp M.1 idx = some (9, a, b)) (hx : sv_I x) (hy : sv_I y) (hr : ae_exe n mi pc 0 0 lv (wk_i y :: wk_i x :: st) h = some r) : ∃ n', n = n' + 1 ∧ ae_exe n' mi (pc + 3) 0 0 lv (wk_i (if x < y then y else x) :: st) h = some r := by
  obtain ⟨m, e, hr⟩ := iv0 hM hd rfl hr
  refine ⟨m, e, ?_⟩
  have hr : ae_call M 0 idx pc 0 0 lv (wk_i y :: wk_i x :: st) h (fun pc ce sl lv st h => ae_f pc fun pc => ae_exe m mi pc ce sl lv st h) (fun mj as h => ae_exe m mj 0 0 0 (ae_args as 0) [] h) = some r := hr
  unfold ae_call at hr
  rw [hc] at hr
  obtain ⟨-, hr⟩ := ae_cond hr
  obtain ⟨-, hr⟩ := ae_cond hr
  have hr : ae_f (Nat.add pc 3) (fun pc => ae_exe m mi pc 0 0 lv (ae_i (cond (Nat.blt (ae_bs (sv_u x)) (ae_bs (sv_u y))) (sv_u y) (sv_u x)) :: st) h) = some r := hr
  rw [ae_f_eq] at hr
  have e2 : ae_i (cond (Nat.blt (ae_bs (sv_u x)) (ae_bs (sv_u y))) (sv_u y) (sv_u x)) = wk_i (if x < y then y else x) := by
    have hux := sv_uc x
    have huy := sv_uc y
    unfold sv_I at hx hy
    have bx : ae_bs (sv_u x) = (sv_u x + 2147483648) % 4294967296 := rfl
    have bY : ae_bs (sv_u y) = (sv_u y + 2147483648) % 4294967296 := rfl
    by_cases hq : x < y
    · rw [if_pos hq, show Nat.blt (ae_bs (sv_u x)) (ae_bs (sv_u y)) = true from Nat.ble_eq_true_of_le (by show ae_bs (sv_u x) + 1 ≤ _; rw [bx, bY]; omega)]
      rfl
    · rw [if_neg hq, show Nat.blt (ae_bs (sv_u x)) (ae_bs (sv_u y)) = false by
        cases hb : Nat.blt (ae_bs (sv_u x)) (ae_bs (sv_u y)) with
        | false => rfl
        | true => have := Nat.le_of_ble_eq_true hb; rw [bx, bY] at this; omega]
      rfl
  rw [e2] at hr
  exact hr
def dc_abs (x : Int) : Int := if x < 0 then dc_w (-x) else x
theorem dc_abs_I (hx : sv_I x) : sv_I (dc_abs x) := by
  unfold dc_abs
  split
  · exact dc_w_I _
  · exact hx
theorem iv_abs {idx a b : Nat} (hM : ae_m mi = some M) (hd : decode M.2.2.1 pc = .ok (.invokestatic idx, 3)) (hc : ae_cp M.1 idx = some (10, a, b)) (hx : sv_I x) (hr : ae_exe n mi pc 0 0 lv (wk_i x :: st) h = some r) : ∃ n', n = n' + 1 ∧ ae_exe n' mi (pc + 3) 0 0 lv (wk_i (dc_abs x) :: st) h = some r := by
  obtain ⟨m, e, hr⟩ := iv0 hM hd rfl hr
  refine ⟨m, e, ?_⟩
  have hr : ae_call M 0 idx pc 0 0 lv (wk_i x :: st) h (fun pc ce sl lv st h => ae_f pc fun pc => ae_exe m mi pc ce sl lv st h) (fun mj as h => ae_exe m mj 0 0 0 (ae_args as 0) [] h) = some r := hr
  unfold ae_call at hr
  rw [hc] at hr
  obtain ⟨-, hr⟩ := ae_cond hr
  obtain ⟨-, hr⟩ := ae_cond hr
  have hr : ae_f (Nat.add pc 3) (fun pc => ae_exe m mi pc 0 0 lv (ae_i (cond (Nat.ble 2147483648 (sv_u x)) (ae_sub 0 (sv_u x)) (sv_u x)) :: st) h) = some r := hr
  rw [ae_f_eq] at hr
  have e2 : ae_i (cond (Nat.ble 2147483648 (sv_u x)) (ae_sub 0 (sv_u x)) (sv_u x)) = wk_i (dc_abs x) := by
    have hux := sv_uc x
    have hx2 := hx
    unfold sv_I at hx2
    unfold dc_abs
    by_cases hq : x < 0
    · have eb : Nat.ble 2147483648 (sv_u x) = true := Nat.ble_eq_true_of_le (by omega)
      have es : ae_sub 0 (sv_u x) = sv_u (0 - x) := sv_sub_u 0 x
      rw [if_pos hq, eb, cond_true, es, show (0 : Int) - x = -x by omega]
      show wk_i (-x) = wk_i (dc_w (-x))
      rw [dc_w_i]
    · have eb : Nat.ble 2147483648 (sv_u x) = false := by
        cases hb : Nat.ble 2147483648 (sv_u x) with
        | false => rfl
        | true => have := Nat.le_of_ble_eq_true hb; omega
      rw [if_neg hq, eb]
      rfl
  rw [e2] at hr
  exact hr
/-- an exception is made: the runner stands still there -/
noncomputable def dc_nx (own idx : Nat) : Bool := match ae_cp own idx with
  | some (3, ci, _) => (ae_nf ci).isNone
  | _ => true
theorem iv_newx {idx : Nat} (hM : ae_m mi = some M) (hd : decode M.2.2.1 pc = .ok (.new idx, 3)) (hc : dc_nx M.1 idx = true) (hr : ae_exe n mi pc 0 0 lv st h = some r) : False := by
  obtain ⟨m, -, hr⟩ := iv0 hM hd rfl hr
  have hr : (match ae_cp M.1 idx with
    | some (3, ci, _) => (match ae_nf ci with
      | some fs => ae_mk M 0 0 fs.length h (.inr (ci, fs)) fun ce sl v h => ae_f (Nat.add pc 3) fun pc => ae_exe m mi pc ce sl lv (v :: st) h
      | none => none)
    | _ => none) = some r := hr
  unfold dc_nx at hc
  split at hr
  · next ci z e =>
    rw [e] at hc
    have hc : (ae_nf ci).isNone = true := hc
    split at hr
    · next fs ef => rw [ef] at hc; cases hc
    · cases hr
  · cases hr
/-- a switch -/
theorem iv_tsd {d lo hi : Int} {offs : Array Int} {len : Nat} (t : Nat) (hM : ae_m mi = some M) (hd : decode M.2.2.1 pc = .ok (.tableswitch d lo hi offs, len)) (ht : (pc : Int) + d = (t : Int)) (hx : sv_I x) (hc : x < lo ∨ hi < x) (hr : ae_exe n mi pc 0 0 lv (wk_i x :: st) h = some r) : ∃ n', n = n' + 1 ∧ ae_exe n' mi t 0 0 lv st h = some r := by
  have hb := sv_bs_u hx
  have e3 : (ae_bs (sv_u x) : Int) - 2147483648 = x := by omega
  exact iv_eq hM hd (Nat.beq_refl _) (fun K C => (sx_ts_d rfl e3 hc K C).trans (by unfold ae_tgt; rw [ht])) hr
theorem iv_tso {d lo hi off : Int} {offs : Array Int} {len : Nat} (t : Nat) (hM : ae_m mi = some M) (hd : decode M.2.2.1 pc = .ok (.tableswitch d lo hi offs, len)) (ht : (pc : Int) + off = (t : Int)) (hx : sv_I x) (h1 : lo ≤ x) (h2 : x ≤ hi) (ho : offs[(x - lo).toNat]? = some off) (hr : ae_exe n mi pc 0 0 lv (wk_i x :: st) h = some r) : ∃ n', n = n' + 1 ∧ ae_exe n' mi t 0 0 lv st h = some r := by
  have hb := sv_bs_u hx
  have e3 : (ae_bs (sv_u x) : Int) - 2147483648 = x := by omega
  exact iv_eq hM hd (Nat.beq_refl _) (fun K C => (sx_ts_o rfl e3 h1 h2 ho K C).trans (by unfold ae_tgt; rw [ht])) hr
/-- long shifts: a place from 0 to 63 -/
theorem iv_lsh {i : Instr} {f : Nat → Nat → Nat} {v : Nat} (hi : (i = .lushr ∧ f = ae_lushr) ∨ (i = .lshr ∧ f = ae_lshr) ∨ (i = .lshl ∧ f = ae_lshl)) (hM : ae_m mi = some M) (hd : decode M.2.2.1 pc = .ok (i, 1)) (hx : sv_I x) (hr : ae_exe n mi pc 0 0 lv (wk_i x :: wk_l v :: st) h = some r) : (0 ≤ x ∧ x < 64) ∧ ∃ n', n = n' + 1 ∧ ae_exe n' mi (pc + 1) 0 0 lv (wk_l (f v x.toNat) :: st) h = some r := by
  obtain ⟨m, e, hr⟩ := iv0 hM hd (by rcases hi with ⟨q, -⟩ | ⟨q, -⟩ | ⟨q, -⟩ <;> subst q <;> rfl) hr
  have hr : cond (Nat.blt (sv_u x) 64) (ae_f (f v (sv_u x)) fun z => ae_f (Nat.add pc 1) fun pc => ae_exe m mi pc 0 0 lv (ae_j z :: st) h) none = some r := by
    rcases hi with ⟨q, q2⟩ | ⟨q, q2⟩ | ⟨q, q2⟩ <;> subst q q2 <;> exact hr
  obtain ⟨b, hr⟩ := ae_cond hr
  have b := Nat.le_of_ble_eq_true b
  have u := sv_uc x
  unfold sv_I at hx
  have ex : sv_u x = x.toNat := by omega
  rw [ae_f_eq, ae_f_eq, ex] at hr
  exact ⟨⟨by omega, by omega⟩, m, e, hr⟩
theorem iv_lreturn {v : Nat} (hM : ae_m mi = some M) (hd : decode M.2.2.1 pc = .ok (.lreturn, 1)) (hr : ae_exe n mi pc 0 0 lv [wk_l v] h = some r) : r = (some (wk_l v), h) := by
  obtain ⟨k, -, hr⟩ := iv0 hM hd rfl hr
  unfold ae_step at hr
  dsimp only [wk_l] at hr
  obtain ⟨-, hr⟩ := ae_cond hr
  split at hr
  · first
      | (cases hr; rfl)
      | (rename_i h1 h2; cases h1; cases hr; rfl)
      | (rename_i h1 h2; injections; subst_vars; cases hr; rfl)
      | (rename_i h1; cases h1; cases hr; rfl)
  · cases hr
theorem iv_astore {k a : Nat} (hM : ae_m mi = some M) (hd : decode M.2.2.1 pc = .ok (.astore k, 2)) (hk : Nat.blt k M.2.2.2.1 = true) (hr : ae_exe n mi pc 0 0 lv (wk_r a :: st) h = some r) : ∃ lv', wk_sl lv k (wk_r a) lv' ∧ ∃ n', n = n' + 1 ∧ ae_exe n' mi (pc + 2) 0 0 lv' st h = some r :=
  ⟨_, wk_st1 lv k (wk_r a), iv_eq hM hd rfl (fun K C => by
    show ae_store 1 M.2.2.2.1 k lv (wk_r a :: st) (fun lv st => K (Nat.add pc 2) 0 0 lv st h) = _
    unfold ae_store; rw [hk]; rfl) hr⟩
theorem iv_ladd {u v : Nat} (hM : ae_m mi = some M) (hd : decode M.2.2.1 pc = .ok (.ladd, 1)) (hr : ae_exe n mi pc 0 0 lv (wk_l u :: wk_l v :: st) h = some r) : ∃ n', n = n' + 1 ∧ ae_exe n' mi (pc + 1) 0 0 lv (wk_l (ae_ladd v u) :: st) h = some r :=
  iv_eq hM hd rfl (fun K C => by
    show ae_f (ae_ladd v u) (fun z => K (Nat.add pc 1) 0 0 lv (ae_j z :: st) h) = _
    rw [ae_f_eq]; rfl) hr
theorem iv_l2i {v : Nat} (hM : ae_m mi = some M) (hd : decode M.2.2.1 pc = .ok (.l2i, 1)) (hr : ae_exe n mi pc 0 0 lv (wk_l v :: st) h = some r) : ∃ n', n = n' + 1 ∧ ae_exe n' mi (pc + 1) 0 0 lv (wk_i (sv_g (v % 4294967296)) :: st) h = some r :=
  iv_eq hM hd rfl (fun K C => by
    show ae_f (Nat.mod v 4294967296) (fun z => K (Nat.add pc 1) 0 0 lv (ae_i z :: st) h) = _
    rw [ae_f_eq]
    show K (Nat.add pc 1) 0 0 lv (ae_i (v % 4294967296) :: st) h = _
    rw [← wk_ig (show v % 4294967296 < 4294967296 from Nat.mod_lt _ (by decide))]) hr
theorem dc_ladd_lt (u v : Nat) : ae_ladd u v < 18446744073709551616 := Nat.mod_lt _ (by decide)
theorem dc_lushr_lt {u : Nat} (h : u < 18446744073709551616) (b : Nat) : ae_lushr u b < 18446744073709551616 := Nat.lt_of_le_of_lt (Nat.shiftRight_le u b) h
theorem dc_lshr_lt {u : Nat} (h : u < 18446744073709551616) (b : Nat) : ae_lshr u b < 18446744073709551616 := by
  unfold ae_lshr
  cases Nat.ble 9223372036854775808 u with
  | true => exact Nat.lt_of_le_of_lt (Nat.sub_le _ _) (by decide)
  | false => exact Nat.lt_of_le_of_lt (Nat.shiftRight_le u b) h
theorem dc_ite_I2 (hx : sv_I x) (hy : sv_I y) : sv_I (if x < y then y else x) := by split <;> assumption
/-- a thing or none: -1 stands for none -/
def dc_nv (z : Int) : ae_V := .inr (.inr (if z < 0 then none else some z.toNat))
def dc_np (z : Int) (t : Nat) : Prop := z = -1 ∨ ∃ k : Nat, z = (k : Int) ∧ sv_ty k = some t
theorem dc_nv_r {z : Int} (h : ¬ z < 0) : dc_nv z = wk_r z.toNat := by unfold dc_nv; rw [if_neg h]
theorem dc_nv_n {z : Int} (h : z < 0) : dc_nv z = .inr (.inr none) := by unfold dc_nv; rw [if_pos h]
theorem dc_nv_v {z : Int} {t : Nat} (h : dc_np z t) : dc_v (dc_nv z) = z := by
  rcases h with e | ⟨k, e, -⟩
  · subst e; rfl
  · subst e; rw [dc_nv_r (by omega)]; rfl
theorem dc_np_t {z : Int} {t : Nat} (h : dc_np z t) (h0 : ¬ z < 0) : sv_ty z.toNat = some t := by
  rcases h with e | ⟨k, e, ht⟩
  · omega
  · subst e; exact ht
theorem dc_np_f {z : Int} {t k : Nat} (h : dc_np z t) : dc_fk k (3, t) (dc_nv z) := by
  rcases h with e | ⟨k2, e, ht⟩
  · subst e; exact Or.inl rfl
  · subst e; rw [dc_nv_r (by omega)]; exact Or.inr ⟨_, rfl, ht⟩
theorem dc_np_0 (t : Nat) : dc_np (-1) t := Or.inl rfl
theorem dc_np_k {k t : Nat} (h : sv_ty k = some t) : dc_np (k : Int) t := Or.inr ⟨k, rfl, h⟩
theorem dc_fn {k t ci z0 j d : Nat} {fl : List (Nat × Nat)} (hk : dc_ok h) (ht : sv_ty k = some t) (hT : dc_tt[t]? = some (0, ci, z0, fl)) (hf : fl[j]? = some (3, d)) : wk_F h k j = some (dc_nv (dc_m h k j)) ∧ dc_np (dc_m h k j) d := by
  obtain ⟨v, h1, h2, h3⟩ := dc_f hk ht hT hf
  have h2 : v = .inr (.inr none) ∨ ∃ k2, v = wk_r k2 ∧ sv_ty k2 = some d := h2
  rcases h2 with e | ⟨k2, e, e2⟩
  · subst e
    have h3 : dc_m h k j = -1 := h3
    rw [h3]
    exact ⟨h1, Or.inl rfl⟩
  · subst e
    have h3 : dc_m h k j = (k2 : Int) := h3
    rw [h3, dc_nv_r (by omega)]
    exact ⟨h1, Or.inr ⟨k2, rfl, e2⟩⟩
theorem iv_anull (hM : ae_m mi = some M) (hd : decode M.2.2.1 pc = .ok (.aconst_null, 1)) (hr : ae_exe n mi pc 0 0 lv st h = some r) : ∃ n', n = n' + 1 ∧ ae_exe n' mi (pc + 1) 0 0 lv (dc_nv (-1) :: st) h = some r := iv_eq hM hd rfl (fun K C => rfl) hr
theorem iv_ifnull {off : Int} {z : Int} (t : Nat) (hM : ae_m mi = some M) (hd : decode M.2.2.1 pc = .ok (.ifnull off, 3)) (ht : (pc : Int) + off = (t : Int)) (hr : ae_exe n mi pc 0 0 lv (dc_nv z :: st) h = some r) : (z < 0 ∧ ∃ n', n = n' + 1 ∧ ae_exe n' mi t 0 0 lv st h = some r) ∨ (¬ z < 0 ∧ ∃ n', n = n' + 1 ∧ ae_exe n' mi (pc + 3) 0 0 lv st h = some r) := by
  by_cases h0 : z < 0
  · rw [dc_nv_n h0] at hr
    refine Or.inl ⟨h0, iv_eq hM hd rfl (fun K C => ?_) hr⟩
    show ae_tgt pc off (fun t => K t 0 0 lv st h) = _
    unfold ae_tgt; rw [ht]
  · rw [dc_nv_r h0] at hr
    exact Or.inr ⟨h0, iv_eq hM hd rfl (fun K C => rfl) hr⟩
theorem iv_ifnn {off : Int} {z : Int} (t : Nat) (hM : ae_m mi = some M) (hd : decode M.2.2.1 pc = .ok (.ifnonnull off, 3)) (ht : (pc : Int) + off = (t : Int)) (hr : ae_exe n mi pc 0 0 lv (dc_nv z :: st) h = some r) : (¬ z < 0 ∧ ∃ n', n = n' + 1 ∧ ae_exe n' mi t 0 0 lv st h = some r) ∨ (¬ ¬ z < 0 ∧ ∃ n', n = n' + 1 ∧ ae_exe n' mi (pc + 3) 0 0 lv st h = some r) := by
  by_cases h0 : z < 0
  · rw [dc_nv_n h0] at hr
    exact Or.inr ⟨fun w => w h0, iv_eq hM hd rfl (fun K C => rfl) hr⟩
  · rw [dc_nv_r h0] at hr
    refine Or.inl ⟨h0, iv_eq hM hd rfl (fun K C => ?_) hr⟩
    show ae_tgt pc off (fun t => K t 0 0 lv st h) = _
    unfold ae_tgt; rw [ht]
end
