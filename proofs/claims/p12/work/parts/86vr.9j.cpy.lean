/-! COPIES of rows (arraycopy), objects out of a row of objects -/
section
variable {r : ae_R} {n mi pc : Nat} {M : ae_M} {lv : ae_L} {st : List ae_V} {h : ae_H}
def dc_cpy (m : dc_M) (s : Nat) (sp : Int) (d : Nat) (dp c : Int) : dc_M := fun k i => if k = d ∧ dp ≤ i ∧ i < dp + c then m s (sp + (i - dp)) else m k i
theorem dc_cpy_k {m : dc_M} {s d k : Nat} {sp dp c i : Int} (e : k ≠ d) : dc_cpy m s sp d dp c k i = m k i := if_neg (fun z => e z.1)
theorem dc_cpy_i {m : dc_M} {s d : Nat} {sp dp c i : Int} (e1 : dp ≤ i) (e2 : i < dp + c) : dc_cpy m s sp d dp c d i = m s (sp + (i - dp)) := if_pos ⟨rfl, e1, e2⟩
theorem dc_cpy_o {m : dc_M} {s d : Nat} {sp dp c i : Int} (e : ¬ (dp ≤ i ∧ i < dp + c)) : dc_cpy m s sp d dp c d i = m d i := if_neg (fun z => e z.2)
theorem iv_cpy {idx a b s ts ns d td nd tag : Nat} {zs zd : List (Nat × Nat)} {sp dp c : Int} (hM : ae_m mi = some M) (hd : decode M.2.2.1 pc = .ok (.invokestatic idx, 3)) (hc : ae_cp M.1 idx = some (7, a, b)) (ok : dc_ok h) (hts : sv_ty s = some ts) (hTs : dc_tt[ts]? = some (1, tag, ns, zs)) (htd : sv_ty d = some td) (hTd : dc_tt[td]? = some (1, tag, nd, zd)) (h3 : tag ≠ 3) (i1 : sv_I sp) (i2 : sv_I dp) (i3 : sv_I c) (hr : ae_exe n mi pc 0 0 lv (wk_i c :: wk_i dp :: wk_r d :: wk_i sp :: wk_r s :: st) h = some r) : ((0 ≤ sp ∧ 0 ≤ c ∧ sp + c ≤ ns) ∧ 0 ≤ dp ∧ dp + c ≤ nd) ∧ ∃ h', dc_ok h' ∧ dc_m h' = dc_cpy (dc_m h) s sp d dp c ∧ ∃ n', n = n' + 1 ∧ ae_exe n' mi (pc + 3) 0 0 lv st h' = some r := by
  obtain ⟨A, g1⟩ := dc_a ok hts hTs
  obtain ⟨B, g2⟩ := dc_a ok htd hTd
  obtain ⟨m, e, hr⟩ := iv0 hM hd rfl hr
  have hr : ae_call M 0 idx pc 0 0 lv (wk_i c :: wk_i dp :: wk_r d :: wk_i sp :: wk_r s :: st) h (fun pc ce sl lv st h => ae_f pc fun pc => ae_exe m mi pc ce sl lv st h) (fun mj as h => ae_exe m mj 0 0 0 (ae_args as 0) [] h) = some r := hr
  unfold ae_call at hr
  rw [hc] at hr
  obtain ⟨-, hr⟩ := ae_cond hr
  unfold ae_cpy at hr
  dsimp only [wk_i, wk_r] at hr
  rw [g1, g2] at hr
  obtain ⟨b0, hr⟩ := ae_cond hr
  rw [ae_f_eq] at hr
  obtain ⟨-, hr⟩ := ae_cond hr
  rw [ae_f_eq] at hr
  obtain ⟨-, b0⟩ := ae_band b0
  obtain ⟨-, b0⟩ := ae_band b0
  obtain ⟨b1, b0⟩ := ae_band b0
  obtain ⟨b2, b0⟩ := ae_band b0
  obtain ⟨b3, b4⟩ := ae_band b0
  have b1 : sv_u sp + sv_u c ≤ ns := Nat.le_of_ble_eq_true b1
  have b2 : sv_u dp + sv_u c ≤ nd := Nat.le_of_ble_eq_true b2
  have b3 : ns < 2147483648 := Nat.le_of_ble_eq_true b3
  have b4 : nd < 2147483648 := Nat.le_of_ble_eq_true b4
  have u1 := sv_uc sp
  have u2 := sv_uc dp
  have u3 := sv_uc c
  unfold sv_I at i1 i2 i3
  have s1 : sv_u sp = sp.toNat := by omega
  have s2 : sv_u dp = dp.toNat := by omega
  have s3 : sv_u c = c.toNat := by omega
  refine ⟨⟨⟨by omega, by omega, by omega⟩, by omega, by omega⟩, _, ?_, ?_, m, e, hr⟩
  · intro k2 t2 ht2
    have h256 : d < 256 := sv_ty_lt d td htd
    by_cases e : k2 = d
    · subst e
      rw [htd] at ht2
      cases ht2
      exact ⟨_, hTd, _, wk_hg_s h256⟩
    · obtain ⟨S, e1, e2⟩ := ok k2 t2 ht2
      refine ⟨S, e1, ?_⟩
      unfold dc_sh at e2 ⊢
      rw [wk_hg_o h256 e]
      exact e2
  · have h256 : d < 256 := sv_ty_lt d td htd
    funext k2 i2
    by_cases e : k2 = d
    · subst e
      by_cases hi2 : i2 < 0
      · rw [dc_m_neg hi2, dc_cpy_o (by omega), dc_m_neg hi2]
      · rw [dc_ra (wk_hg_s h256) h3 (by omega), sv_rd_blit]
        by_cases ei : dp ≤ i2 ∧ i2 < dp + c
        · rw [if_pos (by omega), dc_cpy_i ei.1 ei.2, dc_ra g1 h3 (by omega), show (sp + (i2 - dp)).toNat = sv_u sp + (i2.toNat - sv_u dp) by omega]
        · rw [if_neg (by omega), dc_cpy_o ei, dc_ra g2 h3 (by omega)]
    · rw [dc_cpy_k e]
      unfold dc_m
      rw [wk_hg_o h256 e]
theorem dk_row {x : Int} (q : 0 ≤ x ∧ x < (8 : Nat)) : sv_ty (64 + 3 * x.toNat) = some 0 := by
  have key : ∀ j : Nat, j < 8 → sv_ty (64 + 3 * j) = some 0 := by decide
  exact key _ (by omega)
theorem iv_aald {k t len b z0 : Nat} {x : Int} (hM : ae_m mi = some M) (hd : decode M.2.2.1 pc = .ok (.aaload, 1)) (ok : dc_ok h) (ht : sv_ty k = some t) (hT : dc_tt[t]? = some (3, 4, len, [(z0, b)])) (hl : len < 2147483648) (hx : sv_I x) (hr : ae_exe n mi pc 0 0 lv (wk_i x :: wk_r k :: st) h = some r) : (0 ≤ x ∧ x < len) ∧ ∃ n', n = n' + 1 ∧ ae_exe n' mi (pc + 1) 0 0 lv (wk_r (b + 3 * x.toNat) :: st) h = some r := by
  have g1 : ae_hg h k = some (.inl (4, len, .inr (.inr ((List.range len).map (fun i => some (b + 3 * i)))))) := by
    obtain ⟨S, e, hs⟩ := ok k t ht
    rw [hT] at e
    cases e
    exact hs
  by_cases hi : 0 ≤ x ∧ x < len
  · have ex : sv_u x = x.toNat := sv_u_nn hi.1 (by omega)
    refine ⟨hi, iv_eq hM hd rfl (fun K C => ?_) hr⟩
    show ae_ald 4 (.inl (.inl (sv_u x)) :: .inr (.inr (some k)) :: st) h (fun st => K (Nat.add pc 1) 0 0 lv st h) = _
    unfold ae_ald; dsimp only
    rw [g1, ex]
    show cond (and (ae_tq 4 4) (ae_in (.inl x.toNat) len)) (match ae_nth ((List.range len).map (fun i => some (b + 3 * i))) x.toNat with
        | some r => cond (Nat.beq 4 4) (K (Nat.add pc 1) 0 0 lv (.inr (.inr r) :: st) h) none
        | none => none) none = _
    rw [sv_in_i (show x.toNat < len by omega) hl, ae_nth_eq, List.getElem?_map, List.getElem?_range (show x.toNat < len by omega)]
    rfl
  · exfalso
    obtain ⟨m, -, hr⟩ := iv0 hM hd rfl hr
    have hr : ae_ald 4 (wk_i x :: wk_r k :: st) h (fun st => ae_f (Nat.add pc 1) fun pc => ae_exe m mi pc 0 0 lv st h) = some r := hr
    unfold ae_ald at hr
    dsimp only [wk_i, wk_r] at hr
    rw [g1] at hr
    dsimp only at hr
    rw [dc_in_f hx hl hi, Bool.and_false, cond_false] at hr
    cases hr
end
