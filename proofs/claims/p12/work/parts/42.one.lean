def sx_jmp (b : Option Bool) (pc : Nat) (off : Int) (k2 : Nat → Option ae_R) : Option ae_R := match b with
  | some true => ae_tgt pc off k2
  | some false => ae_tgt pc off fun _ => k2 (Nat.add pc 3)
  | none => none
theorem sx_ts_d {M : ae_M} {pc : Nat} {lv : ae_L} {cs : List ae_V} {h : ae_H} {dflt lo hi x : Int} {offs : Array Int} {z b : Nat} (hrg : ae_rg (.inl z) = (b, b)) (hb : (b : Int) - 2147483648 = x) (hx : x < lo ∨ hi < x) (K : ae_K) (C : Nat → List ae_V → ae_H → Option ae_R) : ae_step (.tableswitch dflt lo hi offs) M pc 0 0 lv (.inl (.inl z) :: cs) h K C = ae_tgt pc dflt fun t => K t 0 0 lv cs h := by
  unfold ae_step; dsimp only
  rw [hrg]; dsimp only
  rw [hb]
  have : or (decide (x < lo)) (decide (hi < x)) = true := by
    rw [Bool.or_eq_true, decide_eq_true_eq, decide_eq_true_eq]; exact hx
  rw [this, cond_true]
theorem sx_ts_o {M : ae_M} {pc : Nat} {lv : ae_L} {cs : List ae_V} {h : ae_H} {dflt lo hi x off : Int} {offs : Array Int} {z b : Nat} (hrg : ae_rg (.inl z) = (b, b)) (hb : (b : Int) - 2147483648 = x) (h1 : lo ≤ x) (h2 : x ≤ hi) (ho : offs[(x - lo).toNat]? = some off) (K : ae_K) (C : Nat → List ae_V → ae_H → Option ae_R) : ae_step (.tableswitch dflt lo hi offs) M pc 0 0 lv (.inl (.inl z) :: cs) h K C = ae_tgt pc off fun t => K t 0 0 lv cs h := by
  unfold ae_step; dsimp only
  rw [hrg]; dsimp only
  rw [hb]
  have q1 : or (decide (x < lo)) (decide (hi < x)) = false := by
    rw [Bool.or_eq_false_iff, decide_eq_false_iff_not, decide_eq_false_iff_not]; omega
  have q2 : and (Nat.beq b b) (and (decide (lo ≤ x)) (decide (x ≤ hi))) = true := by
    rw [Nat.beq_refl, Bool.true_and, Bool.and_eq_true, decide_eq_true_eq, decide_eq_true_eq]; exact ⟨h1, h2⟩
  rw [q1, cond_false, q2, cond_true, ho]
theorem sv_lshr_lt {X Y : Nat} (h : X < 18446744073709551616) : ae_lshr X Y < 18446744073709551616 := by
  unfold ae_lshr
  cases Nat.ble 9223372036854775808 X with
  | true => show 18446744073709551615 - _ < 18446744073709551616; omega
  | false => exact Nat.lt_of_le_of_lt (Nat.shiftRight_le _ _) h
theorem sv_lcmp_u {x y : Int} (hx : sv_J x) (hy : sv_J y) : ae_lcmp (sv_ul x) (sv_ul y) = sv_cc (x - y) := by
  have h1 := sv_ulc x
  have h2 := sv_ulc y
  unfold sv_J at hx hy
  have b1 : ((ae_lbs (sv_ul x) : Nat) : Int) = x + 9223372036854775808 := by
    show (((sv_ul x + 9223372036854775808) % 18446744073709551616 : Nat) : Int) = _
    omega
  have b2 : ((ae_lbs (sv_ul y) : Nat) : Int) = y + 9223372036854775808 := by
    show (((sv_ul y + 9223372036854775808) % 18446744073709551616 : Nat) : Int) = _
    omega
  unfold ae_lcmp sv_cc
  generalize ae_lbs (sv_ul x) = u at *
  generalize ae_lbs (sv_ul y) = w at *
  by_cases h3 : u = w
  · subst h3
    rw [Nat.beq_refl, cond_true, if_neg (by omega), if_pos (by omega)]
  · have h4 : Nat.beq u w = false := by
      cases hb : Nat.beq u w with
      | false => rfl
      | true => exact absurd (Nat.eq_of_beq_eq_true hb) h3
    rw [h4, cond_false]
    by_cases h5 : u ≤ w
    · rw [Nat.ble_eq_true_of_le h5, cond_true, if_pos (by omega)]
    · rw [sv_ble_f h5, cond_false, if_neg (by omega), if_neg (by omega)]
theorem sv_cat1 {ty : Nat → Option Nat} {ρ : Nat → Int} {n : Nat} {v : sv_V} {c : ae_V} (hv : sv_vk ty ρ n v c) (h4 : Nat.beq v.1 4 = false) : Nat.beq (ae_cat c) 1 = true := by
  obtain ⟨h1, h2⟩ := sv_cat hv
  rcases h2 with z | z
  · rw [z]; rfl
  · rw [h1.mp z] at h4; cases h4
theorem sx_sw_ok {ρ : Nat → Int} {a : sv_A} {x : sv_L} {K : Nat → sv_A → Bool} {pc : Nat} (ha : sv_ak ρ a) (wx : sv_wf a.1 x) : ∀ (offs : List Int) (lo : Int), sx_sw pc a x K offs lo = true → lo ≤ sv_ev ρ x → sv_ev ρ x < lo + offs.length → ∃ off, offs[(sv_ev ρ x - lo).toNat]? = some off ∧ ∃ a2, sx_tgt pc off (fun t => K t a2) = true ∧ sv_ak ρ a2 ∧ a2.1 = a.1
  | [], lo, _, h1, h2 => by simp at h2; omega
  | off :: offs, lo, hs, h1, h2 => by
    have hs : and (sv_fi lo fun lo => sv_cd a .eq x (lo, []) fun a => sx_tgt pc off fun t => K t a) (sx_sw pc a x K offs (lo + 1)) = true := hs
    rw [Bool.and_eq_true, sv_fi_eq] at hs
    by_cases he : sv_ev ρ x = lo
    · obtain ⟨a2, k2, r2, e2⟩ := sv_cd_ok (c := .eq) ha wx (sv_wf0 _ lo) (by rw [sv_ev0]; exact he) hs.1
      refine ⟨off, ?_, a2, k2, r2, e2⟩
      rw [he, Int.sub_self]; rfl
    · obtain ⟨o2, q1, q2⟩ := sx_sw_ok ha wx offs (lo + 1) hs.2 (by omega) (by rw [List.length_cons] at h2; omega)
      refine ⟨o2, ?_, q2⟩
      have e1 : (sv_ev ρ x - lo).toNat = (sv_ev ρ x - (lo + 1)).toNat + 1 := by omega
      rw [e1]; exact q1
/-! EACH OF THESE STEPS IS SOUND -/
section
variable {ty : Nat → Option Nat} {tt : List sv_T} {op : Nat → ae_H → Nat → Nat → Int → Int → Int → Int → Prop} {ρ0 : Nat → Int} {n0 : Nat} {mods : List (Nat × Nat)} {h0 : ae_H} {ρ : Nat → Int} {S : sv_S} {lv : ae_L} {st : List ae_V} {h : ae_H} {K : Nat → sv_S → Bool} {G : Nat → ae_L → List ae_V → ae_H → Prop} {M : ae_M} {pc : Nat}
theorem sv_vk0 {n t : Nat} {x : sv_L} {c : ae_V} (hv : sv_vk ty ρ n (0, t, x) c) : sv_wf n x ∧ c = .inl (.inl (sv_u (sv_ev ρ x))) ∧ sv_I (sv_ev ρ x) := ⟨hv.1, hv.2.1, hv.2.2⟩
theorem sv_vk4 {n t : Nat} {x : sv_L} {c : ae_V} (hv : sv_vk ty ρ n (4, t, x) c) : sv_wf n x ∧ c = .inr (.inl (sv_ul (sv_ev ρ x))) ∧ sv_J (sv_ev ρ x) := ⟨hv.1, hv.2.1, hv.2.2⟩
theorem sv_mk0 {n : Nat} {x : sv_L} (hw : sv_wf n x) (hi : sv_I (sv_ev ρ x)) : sv_vk ty ρ n (0, 0, x) (.inl (.inl (sv_u (sv_ev ρ x)))) := ⟨hw, rfl, hi⟩
theorem sx_cst_ok {n : Int} {k : sv_S → Bool} (hR : sv_R ty tt op ρ0 n0 mods h0 ρ S lv st h) (h1 : -2147483648 ≤ n) (h2 : n < 2147483648) (hs : sx_cst n S k = true) : ∃ S2, k S2 = true ∧ sv_R ty tt op ρ0 n0 mods h0 ρ S2 lv (ae_i (ae_u n) :: st) h := by
  unfold sx_cst at hs
  rw [sv_fi_eq] at hs
  refine ⟨_, hs, sv_R_psh hR hR.2.2.2.1 ⟨sv_wf0 _ _, ?_, ?_⟩⟩
  · show ae_i (ae_u n) = _
    rw [sv_u_ae h1 h2, show sv_ev ρ ((0, 0, n, []) : sv_V).2.2 = n from sv_ev0 ρ n]; rfl
  · rw [show sv_ev ρ ((0, 0, n, []) : sv_V).2.2 = n from sv_ev0 ρ n]; exact ⟨h1, h2⟩
theorem sx_tgt_ok {off : Int} {k : Nat → Bool} (hs : sx_tgt pc off k = true) : ∃ t : Nat, k t = true ∧ ∀ (k2 : Nat → Option ae_R), ae_tgt pc off k2 = k2 t := by
  unfold sx_tgt at hs
  split at hs
  · next t e => exact ⟨t, hs, fun k2 => by unfold ae_tgt; rw [e]⟩
  · cases hs
theorem sv_kd {n : Nat} {v : sv_V} {c : ae_V} (hv : sv_vk ty ρ n v c) (hk : v.1 = 0) : ∃ x, c = .inl x := by
  obtain ⟨kd, t, e⟩ := v
  subst hk
  exact ⟨_, hv.2.1⟩
theorem sv_kd4 {n : Nat} {v : sv_V} {c : ae_V} (hv : sv_vk ty ρ n v c) (hk : v.1 = 4) : ∃ x, c = .inr (.inl x) := by
  obtain ⟨kd, t, e⟩ := v
  subst hk
  exact ⟨_, hv.2.1⟩
theorem sv_kdr {n : Nat} {v : sv_V} {c : ae_V} (hv : sv_vk ty ρ n v c) (hk : and (Nat.ble 1 v.1) (or (Nat.ble v.1 3) (Nat.beq v.1 6)) = true) : ∃ x, c = .inr (.inr x) := by
  obtain ⟨kd, t, e⟩ := v
  match kd, hk, hv with
  | 1, _, ⟨_, k, _, h2, _⟩ => exact ⟨_, h2⟩
  | 2, _, ⟨_, h2⟩ => exact ⟨_, h2⟩
  | 3, _, ⟨_, h2⟩ => rcases h2 with ⟨_, h2⟩ | ⟨k, _, h2, _⟩ <;> exact ⟨_, h2⟩
  | 6, _, ⟨_, h2⟩ => exact ⟨_, h2⟩
  | 0, hk, _ => cases hk
  | 4, hk, _ => cases hk
  | 5, hk, _ => cases hk
  | m + 7, _, ⟨_, h2⟩ => exact h2.elim
theorem sv_sk1 {n : Nat} {v : sv_V} {vs : List sv_V} {cs : List ae_V} (hh : sv_sk ty ρ n (v :: vs) cs) : ∃ c cs', cs = c :: cs' ∧ sv_vk ty ρ n v c ∧ sv_sk ty ρ n vs cs' := hh
theorem sx_sto_ok {b nL i : Nat} {k : sv_S → Bool} (hb : b ≤ 2) (hR : sv_R ty tt op ρ0 n0 mods h0 ρ S lv st h) (hs : sx_sto b nL i S k = true) : ∃ S2 lv2 st2, k S2 = true ∧ sv_R ty tt op ρ0 n0 mods h0 ρ S2 lv2 st2 h ∧ ∀ (k2 : ae_L → List ae_V → Option ae_R), ae_store b nL i lv st k2 = k2 lv2 st2 := by
  obtain ⟨ha, hn, hl, hk, hh, ht⟩ := hR
  unfold sx_sto at hs
  cases hi : Nat.blt i nL with
  | false => rw [hi, cond_false] at hs; cases hs
  | true =>
    rw [hi, cond_true] at hs
    split at hs
    · next v rest e =>
      rw [e] at hk
      obtain ⟨c, cs, rfl, hv, hr⟩ := sv_sk1 hk
      cases hb2 : Nat.beq b 2 with
      | true =>
        rw [hb2, cond_true] at hs
        cases hv4 : Nat.beq v.1 4 with
        | false => rw [hv4, cond_false] at hs; cases hs
        | true =>
          rw [hv4, cond_true] at hs
          cases hi2 : Nat.blt (Nat.succ i) nL with
          | false => rw [hi2, cond_false] at hs; cases hs
          | true =>
            rw [hi2, cond_true] at hs
            obtain ⟨x, rfl⟩ := sv_kd4 hv (Nat.eq_of_beq_eq_true hv4)
            refine ⟨_, _, _, hs, ⟨ha, hn, sv_lk_st2 hl i hv, hr, hh, ht⟩, fun k2 => ?_⟩
            show cond (Nat.blt i nL) (cond (Nat.beq b 2) (cond (Nat.blt (Nat.succ i) nL) (k2 _ _) none) none) none = _
            rw [hi, cond_true, hb2, cond_true, hi2, cond_true]
      | false =>
        rw [hb2, cond_false] at hs
        cases hc : cond (Nat.beq b 0) (Nat.beq v.1 0) (and (Nat.ble 1 v.1) (or (Nat.ble v.1 3) (Nat.beq v.1 6))) with
        | false => rw [hc, cond_false] at hs; cases hs
        | true =>
          rw [hc, cond_true] at hs
          cases hb0 : Nat.beq b 0 with
          | true =>
            rw [hb0, cond_true] at hc
            obtain ⟨x, rfl⟩ := sv_kd hv (Nat.eq_of_beq_eq_true hc)
            refine ⟨_, _, _, hs, ⟨ha, hn, sv_lk_st1 hl i hv, hr, hh, ht⟩, fun k2 => ?_⟩
            show cond (Nat.blt i nL) (cond (Nat.beq b 0) (k2 _ _) none) none = _
            rw [hi, cond_true, hb0, cond_true]
          | false =>
            rw [hb0, cond_false] at hc
            obtain ⟨x, rfl⟩ := sv_kdr hv hc
            have hb1 : Nat.beq b 1 = true := by
              match b, hb, hb0, hb2 with
              | 1, _, _, _ => rfl
              | 0, _, z, _ => cases z
              | 2, _, _, z => cases z
            refine ⟨_, _, _, hs, ⟨ha, hn, sv_lk_st1 hl i hv, hr, hh, ht⟩, fun k2 => ?_⟩
            show cond (Nat.blt i nL) (cond (Nat.beq b 1) (k2 _ _) none) none = _
            rw [hi, cond_true, hb1, cond_true]
    · cases hs
/-- two ints on the stack -/
theorem sx_bin_ok {f : sv_A → sv_L → sv_L → (sv_A → sv_L → Bool) → Bool} {g : Nat → Nat → Nat} {P : Int → Prop} {k : sv_S → Bool} (hR : sv_R ty tt op ρ0 n0 mods h0 ρ S lv st h)
    (hf : ∀ (x y : sv_L) (k : sv_A → sv_L → Bool), sv_wf S.1.1 x → sv_wf S.1.1 y → sv_I (sv_ev ρ x) → sv_I (sv_ev ρ y) → f S.1 x y k = true → P (sv_ev ρ y) ∧ sv_res ρ S.1 k (g (sv_u (sv_ev ρ x)) (sv_u (sv_ev ρ y)))) (hs : sx_bin f S k = true) : ∃ X Y rest ρ2 S2, st = .inl (.inl Y) :: .inl (.inl X) :: rest ∧ (∃ y, P y ∧ sv_I y ∧ Y = sv_u y) ∧ k S2 = true ∧ sv_R ty tt op ρ0 n0 mods h0 ρ2 S2 lv (ae_i (g X Y) :: rest) h := by
  unfold sx_bin at hs
  have hk := hR.2.2.2.1
  split at hs
  · next t1 y t2 x rest e =>
    rw [e] at hk
    obtain ⟨c1, cs1, e1, hv1, hk⟩ := sv_sk1 hk
    obtain ⟨c2, cs2, e2, hv2, hr⟩ := sv_sk1 hk
    obtain ⟨wy, rfl, iy⟩ := sv_vk0 hv1
    obtain ⟨wx, rfl, ix⟩ := sv_vk0 hv2
    obtain ⟨hp, hres⟩ := hf x y _ wx wy ix iy hs
    obtain ⟨ρ2, S2, k2, r2⟩ := sv_R_int hR hr hres
    exact ⟨_, _, _, ρ2, S2, by rw [e1, e2], ⟨_, hp, iy, rfl⟩, k2, r2⟩
  · cases hs
theorem sv_cc_cmp {c : Jvm.ClassFile.Cond} {d : Int} : (sv_holds c d 0 → ae_cmp c (ae_rg (.inl (sv_cc d))) (2147483648, 2147483648) = some true) ∧ (¬ sv_holds c d 0 → ae_cmp c (ae_rg (.inl (sv_cc d))) (2147483648, 2147483648) = some false) := by
  have key : ∀ s : Int, (s = -1 ∨ s = 0 ∨ s = 1) → sv_cc d = sv_u s → (sv_holds c d 0 ↔ sv_holds c s 0) → (sv_holds c d 0 → ae_cmp c (ae_rg (.inl (sv_cc d))) (2147483648, 2147483648) = some true) ∧ (¬ sv_holds c d 0 → ae_cmp c (ae_rg (.inl (sv_cc d))) (2147483648, 2147483648) = some false) := fun s hs e hh => by
    have hi : sv_I s := by unfold sv_I; omega
    rw [e, hh]
    exact sv_cmp_0 hi
  by_cases h1 : d < 0
  · exact key (-1) (Or.inl rfl) (by unfold sv_cc; rw [if_pos h1]; rfl) (by cases c <;> simp only [sv_holds] <;> omega)
  · by_cases h2 : d = 0
    · exact key 0 (Or.inr (Or.inl rfl)) (by unfold sv_cc; rw [if_neg h1, if_pos h2]; rfl) (by rw [h2])
    · exact key 1 (Or.inr (Or.inr rfl)) (by unfold sv_cc; rw [if_neg h1, if_neg h2]; rfl) (by cases c <;> simp only [sv_holds] <;> omega)
/-- a comparison that decides a jump -/
theorem sx_if_ok {c : Jvm.ClassFile.Cond} {off : Int} {x y : sv_L} {rest : List sv_V} {crest : List ae_V} {b : Option Bool} (hR : sv_R ty tt op ρ0 n0 mods h0 ρ S lv st h) (wx : sv_wf S.1.1 x) (wy : sv_wf S.1.1 y) (hr : sv_sk ty ρ S.1.1 rest crest) (hb : (sv_holds c (sv_ev ρ x) (sv_ev ρ y) → b = some true) ∧ (¬ sv_holds c (sv_ev ρ x) (sv_ev ρ y) → b = some false))
    (hK : ∀ pc S ρ lv st h, K pc S = true → sv_R ty tt op ρ0 n0 mods h0 ρ S lv st h → G pc lv st h)
    (hs : and (sv_cd S.1 c x y fun a => sx_tgt pc off fun t => K t (a, S.2.1, rest, S.2.2.2)) (and (sx_tgt pc off fun _ => true) (sv_cd S.1 (sv_ng c) x y fun a => K (Nat.add pc 3) (a, S.2.1, rest, S.2.2.2))) = true) :
    ∃ t, G t lv crest h ∧ ∀ (k2 : Nat → Option ae_R), sx_jmp b pc off k2 = k2 t := by
  rw [Bool.and_eq_true, Bool.and_eq_true] at hs
  obtain ⟨s1, s2, s3⟩ := hs
  by_cases hh : sv_holds c (sv_ev ρ x) (sv_ev ρ y)
  · obtain ⟨a2, k2, r2, e2⟩ := sv_cd_ok hR.1 wx wy hh s1
    obtain ⟨t, t1, t2⟩ := sx_tgt_ok k2
    refine ⟨t, hK _ _ _ _ _ _ t1 (sv_R_ar hR hr r2 e2), fun k => ?_⟩
    rw [hb.1 hh]; exact t2 k
  · obtain ⟨a2, k2, r2, e2⟩ := sv_cd_ok hR.1 wx wy (sv_ng_ok hh) s3
    obtain ⟨t, t1, t2⟩ := sx_tgt_ok s2
    refine ⟨_, hK _ _ _ _ _ _ k2 (sv_R_ar hR hr r2 e2), fun k => ?_⟩
    rw [hb.2 hh]; exact t2 _
theorem sx_1_iconst {n : Int} (hR : sv_R ty tt op ρ0 n0 mods h0 ρ S lv st h) (hs : sx_1 (.iconst n) M pc S K = true)
    (hK : ∀ pc S ρ lv st h, K pc S = true → sv_R ty tt op ρ0 n0 mods h0 ρ S lv st h → G pc lv st h)
    (hG : ∀ pc' lv' st', (∀ K C, ae_step (.iconst n) M pc 0 0 lv st h K C = K pc' 0 0 lv' st' h) → G pc' lv' st' h → G pc lv st h) : G pc lv st h := by
  have hk := hR.2.2.2.1
  have hs : cond (and (decide (-1 ≤ n)) (decide (n ≤ 5))) (sx_cst n S (K (Nat.add pc 1))) false = true := hs
  cases hc : and (decide (-1 ≤ n)) (decide (n ≤ 5)) with
  | false => rw [hc, cond_false] at hs; cases hs
  | true =>
    rw [hc, cond_true] at hs
    have hc2 := hc
    rw [Bool.and_eq_true] at hc2
    have b1 := of_decide_eq_true hc2.1
    have b2 := of_decide_eq_true hc2.2
    obtain ⟨S2, k2, r2⟩ := sx_cst_ok hR (by omega) (by omega) hs
    refine hG _ _ _ (fun K C => ?_) (hK _ _ _ _ _ _ k2 r2)
    show cond (and (decide (-1 ≤ n)) (decide (n ≤ 5))) (ae_f (ae_u n) fun z => K (Nat.add pc 1) 0 0 lv (ae_i z :: st) h) none = _
    rw [hc, cond_true, ae_f_eq]
theorem sx_1_bipush {n : Int} (hR : sv_R ty tt op ρ0 n0 mods h0 ρ S lv st h) (hs : sx_1 (.bipush n) M pc S K = true)
    (hK : ∀ pc S ρ lv st h, K pc S = true → sv_R ty tt op ρ0 n0 mods h0 ρ S lv st h → G pc lv st h)
    (hG : ∀ pc' lv' st', (∀ K C, ae_step (.bipush n) M pc 0 0 lv st h K C = K pc' 0 0 lv' st' h) → G pc' lv' st' h → G pc lv st h) : G pc lv st h := by
  have hk := hR.2.2.2.1
  have hs : cond (and (decide (-128 ≤ n)) (decide (n ≤ 127))) (sx_cst n S (K (Nat.add pc 2))) false = true := hs
  cases hc : and (decide (-128 ≤ n)) (decide (n ≤ 127)) with
  | false => rw [hc, cond_false] at hs; cases hs
  | true =>
    rw [hc, cond_true] at hs
    have hc2 := hc
    rw [Bool.and_eq_true] at hc2
    have b1 := of_decide_eq_true hc2.1
    have b2 := of_decide_eq_true hc2.2
    obtain ⟨S2, k2, r2⟩ := sx_cst_ok hR (by omega) (by omega) hs
    refine hG _ _ _ (fun K C => ?_) (hK _ _ _ _ _ _ k2 r2)
    show cond (and (decide (-128 ≤ n)) (decide (n ≤ 127))) (ae_f (ae_u n) fun z => K (Nat.add pc 2) 0 0 lv (ae_i z :: st) h) none = _
    rw [hc, cond_true, ae_f_eq]
theorem sx_1_sipush {n : Int} (hR : sv_R ty tt op ρ0 n0 mods h0 ρ S lv st h) (hs : sx_1 (.sipush n) M pc S K = true)
    (hK : ∀ pc S ρ lv st h, K pc S = true → sv_R ty tt op ρ0 n0 mods h0 ρ S lv st h → G pc lv st h)
    (hG : ∀ pc' lv' st', (∀ K C, ae_step (.sipush n) M pc 0 0 lv st h K C = K pc' 0 0 lv' st' h) → G pc' lv' st' h → G pc lv st h) : G pc lv st h := by
  have hk := hR.2.2.2.1
  have hs : cond (and (decide (-32768 ≤ n)) (decide (n ≤ 32767))) (sx_cst n S (K (Nat.add pc 3))) false = true := hs
  cases hc : and (decide (-32768 ≤ n)) (decide (n ≤ 32767)) with
  | false => rw [hc, cond_false] at hs; cases hs
  | true =>
    rw [hc, cond_true] at hs
    have hc2 := hc
    rw [Bool.and_eq_true] at hc2
    have b1 := of_decide_eq_true hc2.1
    have b2 := of_decide_eq_true hc2.2
    obtain ⟨S2, k2, r2⟩ := sx_cst_ok hR (by omega) (by omega) hs
    refine hG _ _ _ (fun K C => ?_) (hK _ _ _ _ _ _ k2 r2)
    show cond (and (decide (-32768 ≤ n)) (decide (n ≤ 32767))) (ae_f (ae_u n) fun z => K (Nat.add pc 3) 0 0 lv (ae_i z :: st) h) none = _
    rw [hc, cond_true, ae_f_eq]
theorem sx_1_lconst {n : Fin 2} (hR : sv_R ty tt op ρ0 n0 mods h0 ρ S lv st h) (hs : sx_1 (.lconst n) M pc S K = true)
    (hK : ∀ pc S ρ lv st h, K pc S = true → sv_R ty tt op ρ0 n0 mods h0 ρ S lv st h → G pc lv st h)
    (hG : ∀ pc' lv' st', (∀ K C, ae_step (.lconst n) M pc 0 0 lv st h K C = K pc' 0 0 lv' st' h) → G pc' lv' st' h → G pc lv st h) : G pc lv st h := by
  have hk := hR.2.2.2.1
  refine hG _ _ _ (fun K C => rfl) (hK _ _ _ _ _ _ hs (sv_R_psh hR hk ⟨sv_wf0 _ _, ?_, ?_⟩))
  · show ae_j n.val = _
    rw [show sv_ev ρ ((4, 0, Int.ofNat n.val, []) : sv_V).2.2 = (n.val : Int) from sv_ev0 ρ _]
    have := sv_ulc (n.val : Int)
    have h2 := n.isLt
    have : sv_ul (n.val : Int) = n.val := by omega
    rw [this]; rfl
  · rw [show sv_ev ρ ((4, 0, Int.ofNat n.val, []) : sv_V).2.2 = (n.val : Int) from sv_ev0 ρ _]
    have h2 := n.isLt
    unfold sv_J; omega
theorem sx_1_aconst_null (hR : sv_R ty tt op ρ0 n0 mods h0 ρ S lv st h) (hs : sx_1 .aconst_null M pc S K = true)
    (hK : ∀ pc S ρ lv st h, K pc S = true → sv_R ty tt op ρ0 n0 mods h0 ρ S lv st h → G pc lv st h)
    (hG : ∀ pc' lv' st', (∀ K C, ae_step .aconst_null M pc 0 0 lv st h K C = K pc' 0 0 lv' st' h) → G pc' lv' st' h → G pc lv st h) : G pc lv st h := by
  have hk := hR.2.2.2.1
  exact hG _ _ _ (fun K C => rfl) (hK _ _ _ _ _ _ hs (sv_R_psh hR hk ⟨sv_wf0 _ _, rfl⟩))
theorem sx_1_ldc {idx : Nat} (hR : sv_R ty tt op ρ0 n0 mods h0 ρ S lv st h) (hs : sx_1 (.ldc idx) M pc S K = true)
    (hK : ∀ pc S ρ lv st h, K pc S = true → sv_R ty tt op ρ0 n0 mods h0 ρ S lv st h → G pc lv st h)
    (hG : ∀ pc' lv' st', (∀ K C, ae_step (.ldc idx) M pc 0 0 lv st h K C = K pc' 0 0 lv' st' h) → G pc' lv' st' h → G pc lv st h) : G pc lv st h := by
  have hk := hR.2.2.2.1
  unfold sx_1 at hs; dsimp only at hs
  split at hs
  · next n x e =>
    cases hc : Nat.blt n 2147483648 with
    | false =>
      rw [hc, cond_false] at hs
      cases hc2 : Nat.blt n 4294967296 with
      | false => rw [hc2, cond_false] at hs; cases hs
      | true =>
        rw [hc2, cond_true, sv_fi_eq] at hs
        have hn : n < 4294967296 := Nat.le_of_ble_eq_true hc2
        have hn2 : ¬ n < 2147483648 := fun z => by rw [show Nat.blt n 2147483648 = true from Nat.ble_eq_true_of_le z] at hc; cases hc
        refine hG _ _ _ (fun K C => ?_) (hK _ _ _ _ _ _ hs (sv_R_psh (c := ae_i n) hR hk ⟨sv_wf0 _ _, ?_, ?_⟩))
        · unfold ae_step; dsimp only; rw [e]; rfl
        · rw [show sv_ev ρ ((0, 0, Int.ofNat n - 4294967296, []) : sv_V).2.2 = (n : Int) - 4294967296 from sv_ev0 ρ _]
          have h3 := sv_uc ((n : Int) - 4294967296)
          have h4 : sv_u ((n : Int) - 4294967296) = n := by omega
          rw [h4]; rfl
        · rw [show sv_ev ρ ((0, 0, Int.ofNat n - 4294967296, []) : sv_V).2.2 = (n : Int) - 4294967296 from sv_ev0 ρ _]; unfold sv_I; omega
    | true =>
      rw [hc, cond_true] at hs
      have hn : n < 2147483648 := Nat.le_of_ble_eq_true hc
      refine hG _ _ _ (fun K C => ?_) (hK _ _ _ _ _ _ hs (sv_R_psh (c := ae_i n) hR hk ⟨sv_wf0 _ _, ?_, ?_⟩))
      · unfold ae_step; dsimp only; rw [e]; rfl
      · rw [show sv_ev ρ ((0, 0, Int.ofNat n, []) : sv_V).2.2 = (n : Int) from sv_ev0 ρ _, sv_u_nat (by omega)]; rfl
      · rw [show sv_ev ρ ((0, 0, Int.ofNat n, []) : sv_V).2.2 = (n : Int) from sv_ev0 ρ _]; unfold sv_I; omega
  · next j x e =>
    rw [sv_fn_eq] at hs
    refine hG _ _ _ (fun K C => ?_) (hK _ _ _ _ _ _ hs (sv_R_psh (c := .inr (.inr (some (Nat.add 256 j)))) hR hk ⟨sv_wf0 _ _, rfl⟩))
    unfold ae_step; dsimp only; rw [e]; rfl
  · cases hs
theorem sx_1_ldc_w {idx : Nat} (hR : sv_R ty tt op ρ0 n0 mods h0 ρ S lv st h) (hs : sx_1 (.ldc_w idx) M pc S K = true)
    (hK : ∀ pc S ρ lv st h, K pc S = true → sv_R ty tt op ρ0 n0 mods h0 ρ S lv st h → G pc lv st h)
    (hG : ∀ pc' lv' st', (∀ K C, ae_step (.ldc_w idx) M pc 0 0 lv st h K C = K pc' 0 0 lv' st' h) → G pc' lv' st' h → G pc lv st h) : G pc lv st h := by
  have hk := hR.2.2.2.1
  unfold sx_1 at hs; dsimp only at hs
  split at hs
  · next n x e =>
    cases hc : Nat.blt n 2147483648 with
    | false =>
      rw [hc, cond_false] at hs
      cases hc2 : Nat.blt n 4294967296 with
      | false => rw [hc2, cond_false] at hs; cases hs
      | true =>
        rw [hc2, cond_true, sv_fi_eq] at hs
        have hn : n < 4294967296 := Nat.le_of_ble_eq_true hc2
        have hn2 : ¬ n < 2147483648 := fun z => by rw [show Nat.blt n 2147483648 = true from Nat.ble_eq_true_of_le z] at hc; cases hc
        refine hG _ _ _ (fun K C => ?_) (hK _ _ _ _ _ _ hs (sv_R_psh (c := ae_i n) hR hk ⟨sv_wf0 _ _, ?_, ?_⟩))
        · unfold ae_step; dsimp only; rw [e]; rfl
        · rw [show sv_ev ρ ((0, 0, Int.ofNat n - 4294967296, []) : sv_V).2.2 = (n : Int) - 4294967296 from sv_ev0 ρ _]
          have h3 := sv_uc ((n : Int) - 4294967296)
          have h4 : sv_u ((n : Int) - 4294967296) = n := by omega
          rw [h4]; rfl
        · rw [show sv_ev ρ ((0, 0, Int.ofNat n - 4294967296, []) : sv_V).2.2 = (n : Int) - 4294967296 from sv_ev0 ρ _]; unfold sv_I; omega
    | true =>
      rw [hc, cond_true] at hs
      have hn : n < 2147483648 := Nat.le_of_ble_eq_true hc
      refine hG _ _ _ (fun K C => ?_) (hK _ _ _ _ _ _ hs (sv_R_psh (c := ae_i n) hR hk ⟨sv_wf0 _ _, ?_, ?_⟩))
      · unfold ae_step; dsimp only; rw [e]; rfl
      · rw [show sv_ev ρ ((0, 0, Int.ofNat n, []) : sv_V).2.2 = (n : Int) from sv_ev0 ρ _, sv_u_nat (by omega)]; rfl
      · rw [show sv_ev ρ ((0, 0, Int.ofNat n, []) : sv_V).2.2 = (n : Int) from sv_ev0 ρ _]; unfold sv_I; omega
  · cases hs
theorem sx_1_ldc2_w {idx : Nat} (hR : sv_R ty tt op ρ0 n0 mods h0 ρ S lv st h) (hs : sx_1 (.ldc2_w idx) M pc S K = true)
    (hK : ∀ pc S ρ lv st h, K pc S = true → sv_R ty tt op ρ0 n0 mods h0 ρ S lv st h → G pc lv st h)
    (hG : ∀ pc' lv' st', (∀ K C, ae_step (.ldc2_w idx) M pc 0 0 lv st h K C = K pc' 0 0 lv' st' h) → G pc' lv' st' h → G pc lv st h) : G pc lv st h := by
  have hk := hR.2.2.2.1
  unfold sx_1 at hs; dsimp only at hs
  split at hs
  · next n x e =>
    have hstep : ∀ (K : ae_K) (C : Nat → List ae_V → ae_H → Option ae_R), ae_step (.ldc2_w idx) M pc 0 0 lv st h K C = K (Nat.add pc 3) 0 0 lv (ae_j n :: st) h := fun K C => by
      unfold ae_step; dsimp only; rw [e]; rfl
    cases hc : Nat.blt n 9223372036854775808 with
    | true =>
      rw [hc, cond_true] at hs
      have hn : n < 9223372036854775808 := Nat.le_of_ble_eq_true hc
      refine hG _ _ _ hstep (hK _ _ _ _ _ _ hs (sv_R_psh (c := ae_j n) hR hk ⟨sv_wf0 _ _, ?_, ?_⟩))
      · rw [show sv_ev ρ ((4, 0, Int.ofNat n, []) : sv_V).2.2 = (n : Int) from sv_ev0 ρ _]
        have := sv_ulc (n : Int)
        have : sv_ul (n : Int) = n := by omega
        rw [this]; rfl
      · rw [show sv_ev ρ ((4, 0, Int.ofNat n, []) : sv_V).2.2 = (n : Int) from sv_ev0 ρ _]; unfold sv_J; omega
    | false =>
      rw [hc, cond_false] at hs
      cases hc2 : Nat.blt n 18446744073709551616 with
      | false => rw [hc2, cond_false] at hs; cases hs
      | true =>
        rw [hc2, cond_true] at hs
        have hn : n < 18446744073709551616 := Nat.le_of_ble_eq_true hc2
        obtain ⟨ρ2, S2, k2, r2⟩ := sv_R_lng hR hk hn hs
        exact hG _ _ _ hstep (hK _ _ _ _ _ _ k2 r2)
  · cases hs
theorem sx_1_getstatic {idx : Nat} (hR : sv_R ty tt op ρ0 n0 mods h0 ρ S lv st h) (hs : sx_1 (.getstatic idx) M pc S K = true)
    (hK : ∀ pc S ρ lv st h, K pc S = true → sv_R ty tt op ρ0 n0 mods h0 ρ S lv st h → G pc lv st h)
    (hG : ∀ pc' lv' st', (∀ K C, ae_step (.getstatic idx) M pc 0 0 lv st h K C = K pc' 0 0 lv' st' h) → G pc' lv' st' h → G pc lv st h) : G pc lv st h := by
  have hk := hR.2.2.2.1
  unfold sx_1 at hs; dsimp only at hs
  split at hs
  · next j x e =>
    rw [sv_fn_eq] at hs
    refine hG _ _ _ (fun K C => ?_) (hK _ _ _ _ _ _ hs (sv_R_psh (c := .inr (.inr (some (Nat.add 256 j)))) hR hk ⟨sv_wf0 _ _, rfl⟩))
    unfold ae_step; dsimp only; rw [e]; rfl
  · cases hs
theorem sx_1_iload_n {k : Fin 4} (hR : sv_R ty tt op ρ0 n0 mods h0 ρ S lv st h) (hs : sx_1 (.iload_n k) M pc S K = true)
    (hK : ∀ pc S ρ lv st h, K pc S = true → sv_R ty tt op ρ0 n0 mods h0 ρ S lv st h → G pc lv st h)
    (hG : ∀ pc' lv' st', (∀ K C, ae_step (.iload_n k) M pc 0 0 lv st h K C = K pc' 0 0 lv' st' h) → G pc' lv' st' h → G pc lv st h) : G pc lv st h := by
  have hk := hR.2.2.2.1
  unfold sx_1 at hs; dsimp only at hs
  split at hs
  · next v e =>
    cases hc : Nat.beq v.1 0 with
    | false => rw [hc, cond_false] at hs; cases hs
    | true =>
      rw [hc, cond_true] at hs
      obtain ⟨c, hg, hv⟩ := sv_lk_get hR.2.2.1 e
      obtain ⟨x, rfl⟩ := sv_kd hv (Nat.eq_of_beq_eq_true hc)
      refine hG _ _ _ (fun K C => ?_) (hK _ _ _ _ _ _ hs (sv_R_psh hR hk hv))
      show ae_iload lv k.val (fun v => K (Nat.add pc 1) 0 0 lv (v :: st) h) = _
      unfold ae_iload
      rw [hg]
  · cases hs
theorem sx_1_iload {k : Nat} (hR : sv_R ty tt op ρ0 n0 mods h0 ρ S lv st h) (hs : sx_1 (.iload k) M pc S K = true)
    (hK : ∀ pc S ρ lv st h, K pc S = true → sv_R ty tt op ρ0 n0 mods h0 ρ S lv st h → G pc lv st h)
    (hG : ∀ pc' lv' st', (∀ K C, ae_step (.iload k) M pc 0 0 lv st h K C = K pc' 0 0 lv' st' h) → G pc' lv' st' h → G pc lv st h) : G pc lv st h := by
  have hk := hR.2.2.2.1
  unfold sx_1 at hs; dsimp only at hs
  split at hs
  · next v e =>
    cases hc : Nat.beq v.1 0 with
    | false => rw [hc, cond_false] at hs; cases hs
    | true =>
      rw [hc, cond_true] at hs
      obtain ⟨c, hg, hv⟩ := sv_lk_get hR.2.2.1 e
      obtain ⟨x, rfl⟩ := sv_kd hv (Nat.eq_of_beq_eq_true hc)
      refine hG _ _ _ (fun K C => ?_) (hK _ _ _ _ _ _ hs (sv_R_psh hR hk hv))
      show ae_iload lv k (fun v => K (Nat.add pc 2) 0 0 lv (v :: st) h) = _
      unfold ae_iload
      rw [hg]
  · cases hs
theorem sx_1_lload_n {k : Fin 4} (hR : sv_R ty tt op ρ0 n0 mods h0 ρ S lv st h) (hs : sx_1 (.lload_n k) M pc S K = true)
    (hK : ∀ pc S ρ lv st h, K pc S = true → sv_R ty tt op ρ0 n0 mods h0 ρ S lv st h → G pc lv st h)
    (hG : ∀ pc' lv' st', (∀ K C, ae_step (.lload_n k) M pc 0 0 lv st h K C = K pc' 0 0 lv' st' h) → G pc' lv' st' h → G pc lv st h) : G pc lv st h := by
  have hk := hR.2.2.2.1
  unfold sx_1 at hs; dsimp only at hs
  split at hs
  · next v e =>
    cases hc : Nat.beq v.1 4 with
    | false => rw [hc, cond_false] at hs; cases hs
    | true =>
      rw [hc, cond_true] at hs
      obtain ⟨c, hg, hv⟩ := sv_lk_get hR.2.2.1 e
      obtain ⟨x, rfl⟩ := sv_kd4 hv (Nat.eq_of_beq_eq_true hc)
      refine hG _ _ _ (fun K C => ?_) (hK _ _ _ _ _ _ hs (sv_R_psh hR hk hv))
      show ae_lload lv k.val (fun v => K (Nat.add pc 1) 0 0 lv (v :: st) h) = _
      unfold ae_lload
      rw [hg]
  · cases hs
theorem sx_1_lload {k : Nat} (hR : sv_R ty tt op ρ0 n0 mods h0 ρ S lv st h) (hs : sx_1 (.lload k) M pc S K = true)
    (hK : ∀ pc S ρ lv st h, K pc S = true → sv_R ty tt op ρ0 n0 mods h0 ρ S lv st h → G pc lv st h)
    (hG : ∀ pc' lv' st', (∀ K C, ae_step (.lload k) M pc 0 0 lv st h K C = K pc' 0 0 lv' st' h) → G pc' lv' st' h → G pc lv st h) : G pc lv st h := by
  have hk := hR.2.2.2.1
  unfold sx_1 at hs; dsimp only at hs
  split at hs
  · next v e =>
    cases hc : Nat.beq v.1 4 with
    | false => rw [hc, cond_false] at hs; cases hs
    | true =>
      rw [hc, cond_true] at hs
      obtain ⟨c, hg, hv⟩ := sv_lk_get hR.2.2.1 e
      obtain ⟨x, rfl⟩ := sv_kd4 hv (Nat.eq_of_beq_eq_true hc)
      refine hG _ _ _ (fun K C => ?_) (hK _ _ _ _ _ _ hs (sv_R_psh hR hk hv))
      show ae_lload lv k (fun v => K (Nat.add pc 2) 0 0 lv (v :: st) h) = _
      unfold ae_lload
      rw [hg]
  · cases hs
theorem sx_1_aload_n {k : Fin 4} (hR : sv_R ty tt op ρ0 n0 mods h0 ρ S lv st h) (hs : sx_1 (.aload_n k) M pc S K = true)
    (hK : ∀ pc S ρ lv st h, K pc S = true → sv_R ty tt op ρ0 n0 mods h0 ρ S lv st h → G pc lv st h)
    (hG : ∀ pc' lv' st', (∀ K C, ae_step (.aload_n k) M pc 0 0 lv st h K C = K pc' 0 0 lv' st' h) → G pc' lv' st' h → G pc lv st h) : G pc lv st h := by
  have hk := hR.2.2.2.1
  unfold sx_1 at hs; dsimp only at hs
  split at hs
  · next v e =>
    cases hc : and (Nat.ble 1 v.1) (or (Nat.ble v.1 3) (Nat.beq v.1 6)) with
    | false => rw [hc, cond_false] at hs; cases hs
    | true =>
      rw [hc, cond_true] at hs
      obtain ⟨c, hg, hv⟩ := sv_lk_get hR.2.2.1 e
      obtain ⟨x, rfl⟩ := sv_kdr hv hc
      refine hG _ _ _ (fun K C => ?_) (hK _ _ _ _ _ _ hs (sv_R_psh hR hk hv))
      show ae_aload lv k.val (fun v => K (Nat.add pc 1) 0 0 lv (v :: st) h) = _
      unfold ae_aload
      rw [hg]
  · cases hs
theorem sx_1_aload {k : Nat} (hR : sv_R ty tt op ρ0 n0 mods h0 ρ S lv st h) (hs : sx_1 (.aload k) M pc S K = true)
    (hK : ∀ pc S ρ lv st h, K pc S = true → sv_R ty tt op ρ0 n0 mods h0 ρ S lv st h → G pc lv st h)
    (hG : ∀ pc' lv' st', (∀ K C, ae_step (.aload k) M pc 0 0 lv st h K C = K pc' 0 0 lv' st' h) → G pc' lv' st' h → G pc lv st h) : G pc lv st h := by
  have hk := hR.2.2.2.1
  unfold sx_1 at hs; dsimp only at hs
  split at hs
  · next v e =>
    cases hc : and (Nat.ble 1 v.1) (or (Nat.ble v.1 3) (Nat.beq v.1 6)) with
    | false => rw [hc, cond_false] at hs; cases hs
    | true =>
      rw [hc, cond_true] at hs
      obtain ⟨c, hg, hv⟩ := sv_lk_get hR.2.2.1 e
      obtain ⟨x, rfl⟩ := sv_kdr hv hc
      refine hG _ _ _ (fun K C => ?_) (hK _ _ _ _ _ _ hs (sv_R_psh hR hk hv))
      show ae_aload lv k (fun v => K (Nat.add pc 2) 0 0 lv (v :: st) h) = _
      unfold ae_aload
      rw [hg]
  · cases hs
theorem sx_1_istore_n {k : Fin 4} (hR : sv_R ty tt op ρ0 n0 mods h0 ρ S lv st h) (hs : sx_1 (.istore_n k) M pc S K = true)
    (hK : ∀ pc S ρ lv st h, K pc S = true → sv_R ty tt op ρ0 n0 mods h0 ρ S lv st h → G pc lv st h)
    (hG : ∀ pc' lv' st', (∀ K C, ae_step (.istore_n k) M pc 0 0 lv st h K C = K pc' 0 0 lv' st' h) → G pc' lv' st' h → G pc lv st h) : G pc lv st h := by
  have hk := hR.2.2.2.1
  obtain ⟨S2, lv2, st2, k2, r2, e2⟩ := sx_sto_ok (b := 0) (by omega) hR hs
  exact hG _ _ _ (fun K C => e2 (fun lv st => K (Nat.add pc 1) 0 0 lv st h)) (hK _ _ _ _ _ _ k2 r2)
theorem sx_1_istore {k : Nat} (hR : sv_R ty tt op ρ0 n0 mods h0 ρ S lv st h) (hs : sx_1 (.istore k) M pc S K = true)
    (hK : ∀ pc S ρ lv st h, K pc S = true → sv_R ty tt op ρ0 n0 mods h0 ρ S lv st h → G pc lv st h)
    (hG : ∀ pc' lv' st', (∀ K C, ae_step (.istore k) M pc 0 0 lv st h K C = K pc' 0 0 lv' st' h) → G pc' lv' st' h → G pc lv st h) : G pc lv st h := by
  have hk := hR.2.2.2.1
  obtain ⟨S2, lv2, st2, k2, r2, e2⟩ := sx_sto_ok (b := 0) (by omega) hR hs
  exact hG _ _ _ (fun K C => e2 (fun lv st => K (Nat.add pc 2) 0 0 lv st h)) (hK _ _ _ _ _ _ k2 r2)
theorem sx_1_lstore_n {k : Fin 4} (hR : sv_R ty tt op ρ0 n0 mods h0 ρ S lv st h) (hs : sx_1 (.lstore_n k) M pc S K = true)
    (hK : ∀ pc S ρ lv st h, K pc S = true → sv_R ty tt op ρ0 n0 mods h0 ρ S lv st h → G pc lv st h)
    (hG : ∀ pc' lv' st', (∀ K C, ae_step (.lstore_n k) M pc 0 0 lv st h K C = K pc' 0 0 lv' st' h) → G pc' lv' st' h → G pc lv st h) : G pc lv st h := by
  have hk := hR.2.2.2.1
  obtain ⟨S2, lv2, st2, k2, r2, e2⟩ := sx_sto_ok (b := 2) (by omega) hR hs
  exact hG _ _ _ (fun K C => e2 (fun lv st => K (Nat.add pc 1) 0 0 lv st h)) (hK _ _ _ _ _ _ k2 r2)
theorem sx_1_lstore {k : Nat} (hR : sv_R ty tt op ρ0 n0 mods h0 ρ S lv st h) (hs : sx_1 (.lstore k) M pc S K = true)
    (hK : ∀ pc S ρ lv st h, K pc S = true → sv_R ty tt op ρ0 n0 mods h0 ρ S lv st h → G pc lv st h)
    (hG : ∀ pc' lv' st', (∀ K C, ae_step (.lstore k) M pc 0 0 lv st h K C = K pc' 0 0 lv' st' h) → G pc' lv' st' h → G pc lv st h) : G pc lv st h := by
  have hk := hR.2.2.2.1
  obtain ⟨S2, lv2, st2, k2, r2, e2⟩ := sx_sto_ok (b := 2) (by omega) hR hs
  exact hG _ _ _ (fun K C => e2 (fun lv st => K (Nat.add pc 2) 0 0 lv st h)) (hK _ _ _ _ _ _ k2 r2)
theorem sx_1_astore_n {k : Fin 4} (hR : sv_R ty tt op ρ0 n0 mods h0 ρ S lv st h) (hs : sx_1 (.astore_n k) M pc S K = true)
    (hK : ∀ pc S ρ lv st h, K pc S = true → sv_R ty tt op ρ0 n0 mods h0 ρ S lv st h → G pc lv st h)
    (hG : ∀ pc' lv' st', (∀ K C, ae_step (.astore_n k) M pc 0 0 lv st h K C = K pc' 0 0 lv' st' h) → G pc' lv' st' h → G pc lv st h) : G pc lv st h := by
  have hk := hR.2.2.2.1
  obtain ⟨S2, lv2, st2, k2, r2, e2⟩ := sx_sto_ok (b := 1) (by omega) hR hs
  exact hG _ _ _ (fun K C => e2 (fun lv st => K (Nat.add pc 1) 0 0 lv st h)) (hK _ _ _ _ _ _ k2 r2)
theorem sx_1_astore {k : Nat} (hR : sv_R ty tt op ρ0 n0 mods h0 ρ S lv st h) (hs : sx_1 (.astore k) M pc S K = true)
    (hK : ∀ pc S ρ lv st h, K pc S = true → sv_R ty tt op ρ0 n0 mods h0 ρ S lv st h → G pc lv st h)
    (hG : ∀ pc' lv' st', (∀ K C, ae_step (.astore k) M pc 0 0 lv st h K C = K pc' 0 0 lv' st' h) → G pc' lv' st' h → G pc lv st h) : G pc lv st h := by
  have hk := hR.2.2.2.1
  obtain ⟨S2, lv2, st2, k2, r2, e2⟩ := sx_sto_ok (b := 1) (by omega) hR hs
  exact hG _ _ _ (fun K C => e2 (fun lv st => K (Nat.add pc 2) 0 0 lv st h)) (hK _ _ _ _ _ _ k2 r2)
theorem sx_1_iinc {k : Nat} {n : Int} (hR : sv_R ty tt op ρ0 n0 mods h0 ρ S lv st h) (hs : sx_1 (.iinc k n) M pc S K = true)
    (hK : ∀ pc S ρ lv st h, K pc S = true → sv_R ty tt op ρ0 n0 mods h0 ρ S lv st h → G pc lv st h)
    (hG : ∀ pc' lv' st', (∀ K C, ae_step (.iinc k n) M pc 0 0 lv st h K C = K pc' 0 0 lv' st' h) → G pc' lv' st' h → G pc lv st h) : G pc lv st h := by
  have hk := hR.2.2.2.1
  have hs : cond (and (Nat.blt k M.2.2.2.1) (and (decide (-128 ≤ n)) (decide (n ≤ 127)))) (match ae_lk S.2.1 k with
    | some (0, _, e) => sv_ac n e fun e => sv_nm S.1 e fun a e => K (Nat.add pc 3) (a, sx_st1 S.2.1 k (0, 0, e), S.2.2)
    | _ => false) false = true := hs
  cases hc : and (Nat.blt k M.2.2.2.1) (and (decide (-128 ≤ n)) (decide (n ≤ 127))) with
  | false => rw [hc, cond_false] at hs; cases hs
  | true =>
    rw [hc, cond_true] at hs
    have hc2 := hc
    rw [Bool.and_eq_true, Bool.and_eq_true] at hc2
    have b1 := of_decide_eq_true hc2.2.1
    have b2 := of_decide_eq_true hc2.2.2
    split at hs
    · next t x e =>
      obtain ⟨c, hg, hv⟩ := sv_lk_get hR.2.2.1 e
      obtain ⟨wx, rfl, ix⟩ := sv_vk0 hv
      obtain ⟨e1, p1, p2, p3⟩ := sv_ac_ok n x
      rw [p3] at hs
      have hz : sv_u (sv_ev ρ e1) = ae_add (sv_u (sv_ev ρ x)) (ae_u n) := by
        rw [sv_u_ae (by omega) (by omega), sv_add_u, p1]; congr 1; omega
      obtain ⟨ρ2, a2, e2, k2, r2, n2, u2, w2, i2, z2⟩ := sv_nm_ok hR.1 (p2 _ wx) hz hs
      obtain ⟨ha, ⟨hn, h00⟩, hl, -, hh, ht⟩ := hR
      refine hG _ _ _ (fun K C => ?_) (hK _ _ ρ2 (ae_st1 lv k (ae_i (ae_add (sv_u (sv_ev ρ x)) (ae_u n)))) st h k2 ⟨r2, ⟨by show n0 ≤ a2.1; omega, fun s hs => (u2 s (by omega)).trans (h00 s hs)⟩, sv_lk_st1 (hl.up u2 n2) k ?_, hk.up u2 n2, hh.up u2 n2, ht⟩)
      · show cond (and (Nat.blt k M.2.2.2.1) (and (decide (-128 ≤ n)) (decide (n ≤ 127)))) (ae_iload lv k fun v => match v with
          | .inl (.inl x) => ae_f (ae_add x (ae_u n)) fun z => K (Nat.add pc 3) 0 0 (ae_st1 lv k (ae_i z)) st h
          | _ => K (Nat.add pc 3) 0 0 (ae_st1 lv k ae_top) st h) none = _
        rw [hc, cond_true]
        unfold ae_iload
        rw [hg]
        show ae_f _ _ = _
        rw [ae_f_eq]
      · rw [← z2]; exact sv_mk0 w2 i2
    · cases hs
theorem sx_1_iadd (hR : sv_R ty tt op ρ0 n0 mods h0 ρ S lv st h) (hs : sx_1 .iadd M pc S K = true)
    (hK : ∀ pc S ρ lv st h, K pc S = true → sv_R ty tt op ρ0 n0 mods h0 ρ S lv st h → G pc lv st h)
    (hG : ∀ pc' lv' st', (∀ K C, ae_step .iadd M pc 0 0 lv st h K C = K pc' 0 0 lv' st' h) → G pc' lv' st' h → G pc lv st h) : G pc lv st h := by
  have hk := hR.2.2.2.1
  obtain ⟨X, Y, rest, ρ2, S2, rfl, -, k2, r2⟩ := sx_bin_ok (g := ae_add) (P := fun _ => True) hR (fun x y k wx wy ix iy hh => ⟨trivial, sv_addK_ok hR.1 wx wy hh⟩) hs
  refine hG _ _ _ (fun K C => ?_) (hK _ _ _ _ _ _ k2 r2)
  show ae_f (ae_add X Y) (fun z => K (Nat.add pc 1) 0 0 lv (ae_i z :: rest) h) = _
  rw [ae_f_eq]
theorem sx_1_isub (hR : sv_R ty tt op ρ0 n0 mods h0 ρ S lv st h) (hs : sx_1 .isub M pc S K = true)
    (hK : ∀ pc S ρ lv st h, K pc S = true → sv_R ty tt op ρ0 n0 mods h0 ρ S lv st h → G pc lv st h)
    (hG : ∀ pc' lv' st', (∀ K C, ae_step .isub M pc 0 0 lv st h K C = K pc' 0 0 lv' st' h) → G pc' lv' st' h → G pc lv st h) : G pc lv st h := by
  have hk := hR.2.2.2.1
  obtain ⟨X, Y, rest, ρ2, S2, rfl, -, k2, r2⟩ := sx_bin_ok (g := ae_sub) (P := fun _ => True) hR (fun x y k wx wy ix iy hh => ⟨trivial, sv_subK_ok hR.1 wx wy hh⟩) hs
  refine hG _ _ _ (fun K C => ?_) (hK _ _ _ _ _ _ k2 r2)
  show ae_f (ae_sub X Y) (fun z => K (Nat.add pc 1) 0 0 lv (ae_i z :: rest) h) = _
  rw [ae_f_eq]
theorem sx_1_imul (hR : sv_R ty tt op ρ0 n0 mods h0 ρ S lv st h) (hs : sx_1 .imul M pc S K = true)
    (hK : ∀ pc S ρ lv st h, K pc S = true → sv_R ty tt op ρ0 n0 mods h0 ρ S lv st h → G pc lv st h)
    (hG : ∀ pc' lv' st', (∀ K C, ae_step .imul M pc 0 0 lv st h K C = K pc' 0 0 lv' st' h) → G pc' lv' st' h → G pc lv st h) : G pc lv st h := by
  have hk := hR.2.2.2.1
  obtain ⟨X, Y, rest, ρ2, S2, rfl, -, k2, r2⟩ := sx_bin_ok (g := ae_mul) (P := fun _ => True) hR (fun x y k wx wy ix iy hh => ⟨trivial, sv_mulK_ok hR.1 wx wy hh⟩) hs
  refine hG _ _ _ (fun K C => ?_) (hK _ _ _ _ _ _ k2 r2)
  show ae_f (ae_mul X Y) (fun z => K (Nat.add pc 1) 0 0 lv (ae_i z :: rest) h) = _
  rw [ae_f_eq]
theorem sx_1_iand (hR : sv_R ty tt op ρ0 n0 mods h0 ρ S lv st h) (hs : sx_1 .iand M pc S K = true)
    (hK : ∀ pc S ρ lv st h, K pc S = true → sv_R ty tt op ρ0 n0 mods h0 ρ S lv st h → G pc lv st h)
    (hG : ∀ pc' lv' st', (∀ K C, ae_step .iand M pc 0 0 lv st h K C = K pc' 0 0 lv' st' h) → G pc' lv' st' h → G pc lv st h) : G pc lv st h := by
  have hk := hR.2.2.2.1
  obtain ⟨X, Y, rest, ρ2, S2, rfl, -, k2, r2⟩ := sx_bin_ok (g := ae_and) (P := fun _ => True) hR (fun x y k wx wy ix iy hh => ⟨trivial, sv_andC_ok hR.1 wx wy ix iy hh⟩) hs
  refine hG _ _ _ (fun K C => ?_) (hK _ _ _ _ _ _ k2 r2)
  show ae_f (ae_and X Y) (fun z => K (Nat.add pc 1) 0 0 lv (ae_i z :: rest) h) = _
  rw [ae_f_eq]
theorem sx_1_ior (hR : sv_R ty tt op ρ0 n0 mods h0 ρ S lv st h) (hs : sx_1 .ior M pc S K = true)
    (hK : ∀ pc S ρ lv st h, K pc S = true → sv_R ty tt op ρ0 n0 mods h0 ρ S lv st h → G pc lv st h)
    (hG : ∀ pc' lv' st', (∀ K C, ae_step .ior M pc 0 0 lv st h K C = K pc' 0 0 lv' st' h) → G pc' lv' st' h → G pc lv st h) : G pc lv st h := by
  have hk := hR.2.2.2.1
  obtain ⟨X, Y, rest, ρ2, S2, rfl, -, k2, r2⟩ := sx_bin_ok (g := ae_or) (P := fun _ => True) hR (fun x y k wx wy ix iy hh => ⟨trivial, sv_orC_ok hR.1 ix iy hh⟩) hs
  refine hG _ _ _ (fun K C => ?_) (hK _ _ _ _ _ _ k2 r2)
  show ae_f (ae_or X Y) (fun z => K (Nat.add pc 1) 0 0 lv (ae_i z :: rest) h) = _
  rw [ae_f_eq]
theorem sx_1_ixor (hR : sv_R ty tt op ρ0 n0 mods h0 ρ S lv st h) (hs : sx_1 .ixor M pc S K = true)
    (hK : ∀ pc S ρ lv st h, K pc S = true → sv_R ty tt op ρ0 n0 mods h0 ρ S lv st h → G pc lv st h)
    (hG : ∀ pc' lv' st', (∀ K C, ae_step .ixor M pc 0 0 lv st h K C = K pc' 0 0 lv' st' h) → G pc' lv' st' h → G pc lv st h) : G pc lv st h := by
  have hk := hR.2.2.2.1
  obtain ⟨X, Y, rest, ρ2, S2, rfl, -, k2, r2⟩ := sx_bin_ok (g := ae_xor) (P := fun _ => True) hR (fun x y k wx wy ix iy hh => ⟨trivial, sv_xorK_ok hR.1 wx ix iy hh⟩) hs
  refine hG _ _ _ (fun K C => ?_) (hK _ _ _ _ _ _ k2 r2)
  show ae_f (ae_xor X Y) (fun z => K (Nat.add pc 1) 0 0 lv (ae_i z :: rest) h) = _
  rw [ae_f_eq]
theorem sx_1_ishl (hR : sv_R ty tt op ρ0 n0 mods h0 ρ S lv st h) (hs : sx_1 .ishl M pc S K = true)
    (hK : ∀ pc S ρ lv st h, K pc S = true → sv_R ty tt op ρ0 n0 mods h0 ρ S lv st h → G pc lv st h)
    (hG : ∀ pc' lv' st', (∀ K C, ae_step .ishl M pc 0 0 lv st h K C = K pc' 0 0 lv' st' h) → G pc' lv' st' h → G pc lv st h) : G pc lv st h := by
  have hk := hR.2.2.2.1
  obtain ⟨X, Y, rest, ρ2, S2, rfl, -, k2, r2⟩ := sx_bin_ok (g := ae_shl) (P := fun _ => True) hR (fun x y k wx wy ix iy hh => ⟨trivial, sv_shlK_ok hR.1 ix iy hh⟩) hs
  refine hG _ _ _ (fun K C => ?_) (hK _ _ _ _ _ _ k2 r2)
  show ae_f (ae_shl X Y) (fun z => K (Nat.add pc 1) 0 0 lv (ae_i z :: rest) h) = _
  rw [ae_f_eq]
theorem sx_1_ishr (hR : sv_R ty tt op ρ0 n0 mods h0 ρ S lv st h) (hs : sx_1 .ishr M pc S K = true)
    (hK : ∀ pc S ρ lv st h, K pc S = true → sv_R ty tt op ρ0 n0 mods h0 ρ S lv st h → G pc lv st h)
    (hG : ∀ pc' lv' st', (∀ K C, ae_step .ishr M pc 0 0 lv st h K C = K pc' 0 0 lv' st' h) → G pc' lv' st' h → G pc lv st h) : G pc lv st h := by
  have hk := hR.2.2.2.1
  obtain ⟨X, Y, rest, ρ2, S2, rfl, -, k2, r2⟩ := sx_bin_ok (g := ae_shr) (P := fun _ => True) hR (fun x y k wx wy ix iy hh => ⟨trivial, sv_shrK_ok hR.1 wx ix iy hh⟩) hs
  refine hG _ _ _ (fun K C => ?_) (hK _ _ _ _ _ _ k2 r2)
  show ae_f (ae_shr X Y) (fun z => K (Nat.add pc 1) 0 0 lv (ae_i z :: rest) h) = _
  rw [ae_f_eq]
theorem sx_1_iushr (hR : sv_R ty tt op ρ0 n0 mods h0 ρ S lv st h) (hs : sx_1 .iushr M pc S K = true)
    (hK : ∀ pc S ρ lv st h, K pc S = true → sv_R ty tt op ρ0 n0 mods h0 ρ S lv st h → G pc lv st h)
    (hG : ∀ pc' lv' st', (∀ K C, ae_step .iushr M pc 0 0 lv st h K C = K pc' 0 0 lv' st' h) → G pc' lv' st' h → G pc lv st h) : G pc lv st h := by
  have hk := hR.2.2.2.1
  obtain ⟨X, Y, rest, ρ2, S2, rfl, -, k2, r2⟩ := sx_bin_ok (g := ae_ushr) (P := fun _ => True) hR (fun x y k wx wy ix iy hh => ⟨trivial, sv_ushrK_ok hR.1 wx ix iy hh⟩) hs
  refine hG _ _ _ (fun K C => ?_) (hK _ _ _ _ _ _ k2 r2)
  show ae_f (ae_ushr X Y) (fun z => K (Nat.add pc 1) 0 0 lv (ae_i z :: rest) h) = _
  rw [ae_f_eq]
theorem sx_1_idiv (hR : sv_R ty tt op ρ0 n0 mods h0 ρ S lv st h) (hs : sx_1 .idiv M pc S K = true)
    (hK : ∀ pc S ρ lv st h, K pc S = true → sv_R ty tt op ρ0 n0 mods h0 ρ S lv st h → G pc lv st h)
    (hG : ∀ pc' lv' st', (∀ K C, ae_step .idiv M pc 0 0 lv st h K C = K pc' 0 0 lv' st' h) → G pc' lv' st' h → G pc lv st h) : G pc lv st h := by
  have hk := hR.2.2.2.1
  obtain ⟨X, Y, rest, ρ2, S2, rfl, ⟨y, hy, iy, rfl⟩, k2, r2⟩ := sx_bin_ok (g := ae_idiv) (P := fun y => 0 < y) hR (fun x y k wx wy ix iy hh => sv_divK_ok hR.1 wx ix iy hh) hs
  refine hG _ _ _ (fun K C => ?_) (hK _ _ _ _ _ _ k2 r2)
  obtain ⟨y1, y2⟩ := sv_upos iy (by omega)
  have q1 : Nat.blt 0 (sv_u y) = true := Nat.ble_eq_true_of_le (by omega)
  have q2 : Nat.blt (sv_u y) 2147483648 = true := Nat.ble_eq_true_of_le (by omega)
  show cond (and (Nat.blt 0 (sv_u y)) (Nat.blt (sv_u y) 2147483648)) (ae_f (ae_idiv X (sv_u y)) fun z => K (Nat.add pc 1) 0 0 lv (ae_i z :: rest) h) none = _
  rw [q1, q2, Bool.and_self, cond_true, ae_f_eq]
theorem sx_1_irem (hR : sv_R ty tt op ρ0 n0 mods h0 ρ S lv st h) (hs : sx_1 .irem M pc S K = true)
    (hK : ∀ pc S ρ lv st h, K pc S = true → sv_R ty tt op ρ0 n0 mods h0 ρ S lv st h → G pc lv st h)
    (hG : ∀ pc' lv' st', (∀ K C, ae_step .irem M pc 0 0 lv st h K C = K pc' 0 0 lv' st' h) → G pc' lv' st' h → G pc lv st h) : G pc lv st h := by
  have hk := hR.2.2.2.1
  obtain ⟨X, Y, rest, ρ2, S2, rfl, ⟨y, hy, iy, rfl⟩, k2, r2⟩ := sx_bin_ok (g := ae_irem) (P := fun y => 0 < y) hR (fun x y k wx wy ix iy hh => sv_remK_ok hR.1 wx ix iy hh) hs
  refine hG _ _ _ (fun K C => ?_) (hK _ _ _ _ _ _ k2 r2)
  obtain ⟨y1, y2⟩ := sv_upos iy (by omega)
  have q1 : Nat.blt 0 (sv_u y) = true := Nat.ble_eq_true_of_le (by omega)
  have q2 : Nat.blt (sv_u y) 2147483648 = true := Nat.ble_eq_true_of_le (by omega)
  show cond (and (Nat.blt 0 (sv_u y)) (Nat.blt (sv_u y) 2147483648)) (ae_f (ae_irem X (sv_u y)) fun z => K (Nat.add pc 1) 0 0 lv (ae_i z :: rest) h) none = _
  rw [q1, q2, Bool.and_self, cond_true, ae_f_eq]
theorem sx_1_ineg (hR : sv_R ty tt op ρ0 n0 mods h0 ρ S lv st h) (hs : sx_1 .ineg M pc S K = true)
    (hK : ∀ pc S ρ lv st h, K pc S = true → sv_R ty tt op ρ0 n0 mods h0 ρ S lv st h → G pc lv st h)
    (hG : ∀ pc' lv' st', (∀ K C, ae_step .ineg M pc 0 0 lv st h K C = K pc' 0 0 lv' st' h) → G pc' lv' st' h → G pc lv st h) : G pc lv st h := by
  have hk := hR.2.2.2.1
  unfold sx_1 at hs; dsimp only at hs
  split at hs
  · next t x rest e =>
    rw [e] at hk
    obtain ⟨c, cs, rfl, hv, hr⟩ := sv_sk1 hk
    obtain ⟨wx, rfl, ix⟩ := sv_vk0 hv
    have hres := sv_subK_ok hR.1 (sv_wf0 _ 0) wx hs
    rw [sv_ev0, show sv_u 0 = 0 from rfl] at hres
    obtain ⟨ρ2, S2, k2, r2⟩ := sv_R_int (K := K (Nat.add pc 1)) hR hr hres
    refine hG _ _ _ (fun K C => ?_) (hK _ _ _ _ _ _ k2 r2)
    exact ae_f_eq (ae_sub 0 (sv_u (sv_ev ρ x))) (fun z => K (Nat.add pc 1) 0 0 lv (ae_i z :: cs) h)
  · cases hs
theorem sx_1_i2b (hR : sv_R ty tt op ρ0 n0 mods h0 ρ S lv st h) (hs : sx_1 .i2b M pc S K = true)
    (hK : ∀ pc S ρ lv st h, K pc S = true → sv_R ty tt op ρ0 n0 mods h0 ρ S lv st h → G pc lv st h)
    (hG : ∀ pc' lv' st', (∀ K C, ae_step .i2b M pc 0 0 lv st h K C = K pc' 0 0 lv' st' h) → G pc' lv' st' h → G pc lv st h) : G pc lv st h := by
  have hk := hR.2.2.2.1
  unfold sx_1 at hs; dsimp only at hs
  split at hs
  · next t x rest e =>
    rw [e] at hk
    obtain ⟨c, cs, rfl, hv, hr⟩ := sv_sk1 hk
    obtain ⟨wx, rfl, ix⟩ := sv_vk0 hv
    have hstep : ∀ (K : ae_K) (C : Nat → List ae_V → ae_H → Option ae_R), ae_step .i2b M pc 0 0 lv (.inl (.inl (sv_u (sv_ev ρ x))) :: cs) h K C = K (Nat.add pc 1) 0 0 lv (ae_i (ae_b8 (sv_u (sv_ev ρ x))) :: cs) h := fun K C => by
      exact ae_f_eq (ae_b8 (sv_u (sv_ev ρ x))) (fun z => K (Nat.add pc 1) 0 0 lv (ae_i z :: cs) h)
    obtain ⟨e8, p1, -, p3⟩ := sv_ac_ok 128 x
    rw [p3, sv_ma_f] at hs
    have hu := sv_uc (sv_ev ρ x)
    cases hc : and (sv_p 3 S.1 e8) (sv_p 3 S.1 (sv_mf (-1) x (127, []))) with
    | true =>
      rw [hc, cond_true] at hs
      rw [Bool.and_eq_true] at hc
      have g1 := sv_p_ok hR.1 hc.1
      have g2 := sv_p_ok hR.1 hc.2
      rw [p1] at g1
      rw [sv_mf_ev, sv_ev0] at g2
      have hz : ae_b8 (sv_u (sv_ev ρ x)) = sv_u (sv_ev ρ x) := by
        unfold ae_b8
        by_cases hn : 0 ≤ sv_ev ρ x
        · have := (sv_upos ix hn).1
          have e1 : Nat.mod (sv_u (sv_ev ρ x)) 256 = sv_u (sv_ev ρ x) := Nat.mod_eq_of_lt (by omega)
          rw [e1, sv_ble_f (by omega)]; rfl
        · have := (sv_uneg ix (by omega)).1
          have e1 : Nat.mod (sv_u (sv_ev ρ x)) 256 = sv_u (sv_ev ρ x) - 4294967040 := by show sv_u (sv_ev ρ x) % 256 = _; omega
          rw [e1, Nat.ble_eq_true_of_le (by omega), cond_true]
          show sv_u (sv_ev ρ x) - 4294967040 + 4294967040 = _
          omega
      refine hG _ _ _ hstep (hK _ _ ρ _ _ _ hs ?_)
      rw [hz]
      exact sv_R_psh hR hr (sv_mk0 wx ix)
    | false =>
      rw [hc, cond_false] at hs
      have hv8 : ∃ v : Int, -128 ≤ v ∧ v ≤ 127 ∧ sv_u v = ae_b8 (sv_u (sv_ev ρ x)) := by
        unfold ae_b8
        have hlt : Nat.mod (sv_u (sv_ev ρ x)) 256 < 256 := Nat.mod_lt _ (by omega)
        generalize Nat.mod (sv_u (sv_ev ρ x)) 256 = w at *
        by_cases hw : 128 ≤ w
        · rw [Nat.ble_eq_true_of_le hw, cond_true]
          refine ⟨(w : Int) - 256, by omega, by omega, ?_⟩
          have := sv_uc ((w : Int) - 256)
          show _ = w + 4294967040
          omega
        · rw [sv_ble_f hw, cond_false]
          exact ⟨w, by omega, by omega, sv_u_nat (by omega)⟩
      obtain ⟨v, v1, v2, v3⟩ := hv8
      obtain ⟨ρ2, S2, k2, r2⟩ := sv_R_int (K := K (Nat.add pc 1)) hR hr (sv_res_new (v := v) hR.1 hs v1 v2 (by unfold sv_I; omega) v3)
      exact hG _ _ _ hstep (hK _ _ _ _ _ _ k2 r2)
  · cases hs
theorem sx_1_i2l (hR : sv_R ty tt op ρ0 n0 mods h0 ρ S lv st h) (hs : sx_1 .i2l M pc S K = true)
    (hK : ∀ pc S ρ lv st h, K pc S = true → sv_R ty tt op ρ0 n0 mods h0 ρ S lv st h → G pc lv st h)
    (hG : ∀ pc' lv' st', (∀ K C, ae_step .i2l M pc 0 0 lv st h K C = K pc' 0 0 lv' st' h) → G pc' lv' st' h → G pc lv st h) : G pc lv st h := by
  have hk := hR.2.2.2.1
  unfold sx_1 at hs; dsimp only at hs
  split at hs
  · next t x rest e =>
    rw [e] at hk
    obtain ⟨c, cs, rfl, hv, hr⟩ := sv_sk1 hk
    obtain ⟨wx, rfl, ix⟩ := sv_vk0 hv
    have hz : ae_i2l (sv_u (sv_ev ρ x)) = sv_ul (sv_ev ρ x) := by
      unfold ae_i2l
      have hul := sv_ulc (sv_ev ρ x)
      unfold sv_I at ix
      by_cases hn : 0 ≤ sv_ev ρ x
      · have := (sv_upos ix hn)
        rw [sv_ble_f (by omega), cond_false]; omega
      · have := (sv_uneg ix (by omega))
        rw [Nat.ble_eq_true_of_le (by omega), cond_true]
        show sv_u (sv_ev ρ x) + 18446744069414584320 = _
        omega
    refine hG _ _ _ (fun K C => ?_) (hK _ _ _ _ _ _ hs (sv_R_psh (c := ae_j (ae_i2l (sv_u (sv_ev ρ x)))) hR hr ⟨wx, ?_, ?_⟩))
    · exact ae_f_eq (ae_i2l (sv_u (sv_ev ρ x))) (fun z => K (Nat.add pc 1) 0 0 lv (ae_j z :: cs) h)
    · rw [hz]; rfl
    · unfold sv_I at ix; show sv_J (sv_ev ρ x); unfold sv_J; omega
  · cases hs
theorem sx_1_l2i (hR : sv_R ty tt op ρ0 n0 mods h0 ρ S lv st h) (hs : sx_1 .l2i M pc S K = true)
    (hK : ∀ pc S ρ lv st h, K pc S = true → sv_R ty tt op ρ0 n0 mods h0 ρ S lv st h → G pc lv st h)
    (hG : ∀ pc' lv' st', (∀ K C, ae_step .l2i M pc 0 0 lv st h K C = K pc' 0 0 lv' st' h) → G pc' lv' st' h → G pc lv st h) : G pc lv st h := by
  have hk := hR.2.2.2.1
  unfold sx_1 at hs; dsimp only at hs
  split at hs
  · next t x rest e =>
    rw [e] at hk
    obtain ⟨c, cs, rfl, hv, hr⟩ := sv_sk1 hk
    obtain ⟨wx, rfl, ix⟩ := sv_vk4 hv
    obtain ⟨ρ2, S2, k2, r2⟩ := sv_R_int (K := K (Nat.add pc 1)) hR hr (sv_tp_ok (z := Nat.mod (sv_ul (sv_ev ρ x)) 4294967296) hR.1 (Nat.mod_lt _ (by omega)) hs)
    refine hG _ _ _ (fun K C => ?_) (hK _ _ _ _ _ _ k2 r2)
    exact ae_f_eq (Nat.mod (sv_ul (sv_ev ρ x)) 4294967296) (fun z => K (Nat.add pc 1) 0 0 lv (ae_i z :: cs) h)
  · cases hs
theorem sx_1_ladd (hR : sv_R ty tt op ρ0 n0 mods h0 ρ S lv st h) (hs : sx_1 .ladd M pc S K = true)
    (hK : ∀ pc S ρ lv st h, K pc S = true → sv_R ty tt op ρ0 n0 mods h0 ρ S lv st h → G pc lv st h)
    (hG : ∀ pc' lv' st', (∀ K C, ae_step .ladd M pc 0 0 lv st h K C = K pc' 0 0 lv' st' h) → G pc' lv' st' h → G pc lv st h) : G pc lv st h := by
  have hk := hR.2.2.2.1
  unfold sx_1 at hs; dsimp only at hs
  split at hs
  · next t1 y t2 x rest e =>
    rw [e] at hk
    obtain ⟨c1, cs1, rfl, hv1, hk2⟩ := sv_sk1 hk
    obtain ⟨c2, cs2, rfl, hv2, hr⟩ := sv_sk1 hk2
    obtain ⟨wy, rfl, iy⟩ := sv_vk4 hv1
    obtain ⟨wx, rfl, ix⟩ := sv_vk4 hv2
    obtain ⟨ρ2, S2, k2, r2⟩ := sv_R_lng (z := ae_ladd (sv_ul (sv_ev ρ x)) (sv_ul (sv_ev ρ y))) (K := K (Nat.add pc 1)) hR hr (Nat.mod_lt _ (by decide)) hs
    refine hG _ _ _ (fun K C => ?_) (hK _ _ _ _ _ _ k2 r2)
    exact ae_f_eq (ae_ladd (sv_ul (sv_ev ρ x)) (sv_ul (sv_ev ρ y))) (fun z => K (Nat.add pc 1) 0 0 lv (ae_j z :: cs2) h)
  · cases hs
theorem sx_1_lsub (hR : sv_R ty tt op ρ0 n0 mods h0 ρ S lv st h) (hs : sx_1 .lsub M pc S K = true)
    (hK : ∀ pc S ρ lv st h, K pc S = true → sv_R ty tt op ρ0 n0 mods h0 ρ S lv st h → G pc lv st h)
    (hG : ∀ pc' lv' st', (∀ K C, ae_step .lsub M pc 0 0 lv st h K C = K pc' 0 0 lv' st' h) → G pc' lv' st' h → G pc lv st h) : G pc lv st h := by
  have hk := hR.2.2.2.1
  unfold sx_1 at hs; dsimp only at hs
  split at hs
  · next t1 y t2 x rest e =>
    rw [e] at hk
    obtain ⟨c1, cs1, rfl, hv1, hk2⟩ := sv_sk1 hk
    obtain ⟨c2, cs2, rfl, hv2, hr⟩ := sv_sk1 hk2
    obtain ⟨wy, rfl, iy⟩ := sv_vk4 hv1
    obtain ⟨wx, rfl, ix⟩ := sv_vk4 hv2
    obtain ⟨ρ2, S2, k2, r2⟩ := sv_R_lng (z := ae_lsub (sv_ul (sv_ev ρ x)) (sv_ul (sv_ev ρ y))) (K := K (Nat.add pc 1)) hR hr (Nat.mod_lt _ (by decide)) hs
    refine hG _ _ _ (fun K C => ?_) (hK _ _ _ _ _ _ k2 r2)
    exact ae_f_eq (ae_lsub (sv_ul (sv_ev ρ x)) (sv_ul (sv_ev ρ y))) (fun z => K (Nat.add pc 1) 0 0 lv (ae_j z :: cs2) h)
  · cases hs
theorem sx_1_land (hR : sv_R ty tt op ρ0 n0 mods h0 ρ S lv st h) (hs : sx_1 .land M pc S K = true)
    (hK : ∀ pc S ρ lv st h, K pc S = true → sv_R ty tt op ρ0 n0 mods h0 ρ S lv st h → G pc lv st h)
    (hG : ∀ pc' lv' st', (∀ K C, ae_step .land M pc 0 0 lv st h K C = K pc' 0 0 lv' st' h) → G pc' lv' st' h → G pc lv st h) : G pc lv st h := by
  have hk := hR.2.2.2.1
  unfold sx_1 at hs; dsimp only at hs
  split at hs
  · next t1 y t2 x rest e =>
    rw [e] at hk
    obtain ⟨c1, cs1, rfl, hv1, hk2⟩ := sv_sk1 hk
    obtain ⟨c2, cs2, rfl, hv2, hr⟩ := sv_sk1 hk2
    obtain ⟨wy, rfl, iy⟩ := sv_vk4 hv1
    obtain ⟨wx, rfl, ix⟩ := sv_vk4 hv2
    obtain ⟨ρ2, S2, k2, r2⟩ := sv_R_lng (z := Nat.land (sv_ul (sv_ev ρ x)) (sv_ul (sv_ev ρ y))) (K := K (Nat.add pc 1)) hR hr (Nat.lt_of_le_of_lt Nat.and_le_left (sv_ul_lt _)) hs
    refine hG _ _ _ (fun K C => ?_) (hK _ _ _ _ _ _ k2 r2)
    exact ae_f_eq (Nat.land (sv_ul (sv_ev ρ x)) (sv_ul (sv_ev ρ y))) (fun z => K (Nat.add pc 1) 0 0 lv (ae_j z :: cs2) h)
  · cases hs
theorem sx_1_lor (hR : sv_R ty tt op ρ0 n0 mods h0 ρ S lv st h) (hs : sx_1 .lor M pc S K = true)
    (hK : ∀ pc S ρ lv st h, K pc S = true → sv_R ty tt op ρ0 n0 mods h0 ρ S lv st h → G pc lv st h)
    (hG : ∀ pc' lv' st', (∀ K C, ae_step .lor M pc 0 0 lv st h K C = K pc' 0 0 lv' st' h) → G pc' lv' st' h → G pc lv st h) : G pc lv st h := by
  have hk := hR.2.2.2.1
  unfold sx_1 at hs; dsimp only at hs
  split at hs
  · next t1 y t2 x rest e =>
    rw [e] at hk
    obtain ⟨c1, cs1, rfl, hv1, hk2⟩ := sv_sk1 hk
    obtain ⟨c2, cs2, rfl, hv2, hr⟩ := sv_sk1 hk2
    obtain ⟨wy, rfl, iy⟩ := sv_vk4 hv1
    obtain ⟨wx, rfl, ix⟩ := sv_vk4 hv2
    obtain ⟨ρ2, S2, k2, r2⟩ := sv_R_lng (z := Nat.lor (sv_ul (sv_ev ρ x)) (sv_ul (sv_ev ρ y))) (K := K (Nat.add pc 1)) hR hr (Nat.or_lt_two_pow (n := 64) (sv_ul_lt _) (sv_ul_lt _)) hs
    refine hG _ _ _ (fun K C => ?_) (hK _ _ _ _ _ _ k2 r2)
    exact ae_f_eq (Nat.lor (sv_ul (sv_ev ρ x)) (sv_ul (sv_ev ρ y))) (fun z => K (Nat.add pc 1) 0 0 lv (ae_j z :: cs2) h)
  · cases hs
theorem sx_1_lushr (hR : sv_R ty tt op ρ0 n0 mods h0 ρ S lv st h) (hs : sx_1 .lushr M pc S K = true)
    (hK : ∀ pc S ρ lv st h, K pc S = true → sv_R ty tt op ρ0 n0 mods h0 ρ S lv st h → G pc lv st h)
    (hG : ∀ pc' lv' st', (∀ K C, ae_step .lushr M pc 0 0 lv st h K C = K pc' 0 0 lv' st' h) → G pc' lv' st' h → G pc lv st h) : G pc lv st h := by
  have hk := hR.2.2.2.1
  unfold sx_1 at hs; dsimp only at hs
  split at hs
  · next t1 y t2 x rest e =>
    rw [e] at hk
    obtain ⟨c1, cs1, rfl, hv1, hk2⟩ := sv_sk1 hk
    obtain ⟨c2, cs2, rfl, hv2, hr⟩ := sv_sk1 hk2
    obtain ⟨wy, rfl, iy⟩ := sv_vk0 hv1
    obtain ⟨wx, rfl, ix⟩ := sv_vk4 hv2
    rw [sv_ma_f] at hs
    cases hc : and (sv_p 3 S.1 y) (sv_p 3 S.1 (sv_mf (-1) y (63, []))) with
    | false => rw [hc, cond_false] at hs; cases hs
    | true =>
      rw [hc, cond_true] at hs
      rw [Bool.and_eq_true] at hc
      have g1 := sv_p_ok hR.1 hc.1
      have g2 := sv_p_ok hR.1 hc.2
      rw [sv_mf_ev, sv_ev0] at g2
      have hu := (sv_upos iy g1).1
      have hlt : Nat.blt (sv_u (sv_ev ρ y)) 64 = true := Nat.ble_eq_true_of_le (by omega)
      obtain ⟨ρ2, S2, k2, r2⟩ := sv_R_lng (z := ae_lushr (sv_ul (sv_ev ρ x)) (sv_u (sv_ev ρ y))) (K := K (Nat.add pc 1)) hR hr (Nat.lt_of_le_of_lt (Nat.shiftRight_le _ _) (sv_ul_lt _)) hs
      refine hG _ _ _ (fun K C => ?_) (hK _ _ _ _ _ _ k2 r2)
      show cond (Nat.blt (sv_u (sv_ev ρ y)) 64) (ae_f (ae_lushr (sv_ul (sv_ev ρ x)) (sv_u (sv_ev ρ y))) fun z => K (Nat.add pc 1) 0 0 lv (ae_j z :: cs2) h) none = _
      rw [hlt, cond_true, ae_f_eq]
  · cases hs
theorem sx_1_lshl (hR : sv_R ty tt op ρ0 n0 mods h0 ρ S lv st h) (hs : sx_1 .lshl M pc S K = true)
    (hK : ∀ pc S ρ lv st h, K pc S = true → sv_R ty tt op ρ0 n0 mods h0 ρ S lv st h → G pc lv st h)
    (hG : ∀ pc' lv' st', (∀ K C, ae_step .lshl M pc 0 0 lv st h K C = K pc' 0 0 lv' st' h) → G pc' lv' st' h → G pc lv st h) : G pc lv st h := by
  have hk := hR.2.2.2.1
  unfold sx_1 at hs; dsimp only at hs
  split at hs
  · next t1 y t2 x rest e =>
    rw [e] at hk
    obtain ⟨c1, cs1, rfl, hv1, hk2⟩ := sv_sk1 hk
    obtain ⟨c2, cs2, rfl, hv2, hr⟩ := sv_sk1 hk2
    obtain ⟨wy, rfl, iy⟩ := sv_vk0 hv1
    obtain ⟨wx, rfl, ix⟩ := sv_vk4 hv2
    rw [sv_ma_f] at hs
    cases hc : and (sv_p 3 S.1 y) (sv_p 3 S.1 (sv_mf (-1) y (63, []))) with
    | false => rw [hc, cond_false] at hs; cases hs
    | true =>
      rw [hc, cond_true] at hs
      rw [Bool.and_eq_true] at hc
      have g1 := sv_p_ok hR.1 hc.1
      have g2 := sv_p_ok hR.1 hc.2
      rw [sv_mf_ev, sv_ev0] at g2
      have hu := (sv_upos iy g1).1
      have hlt : Nat.blt (sv_u (sv_ev ρ y)) 64 = true := Nat.ble_eq_true_of_le (by omega)
      obtain ⟨ρ2, S2, k2, r2⟩ := sv_R_lng (z := ae_lshl (sv_ul (sv_ev ρ x)) (sv_u (sv_ev ρ y))) (K := K (Nat.add pc 1)) hR hr (Nat.mod_lt _ (by decide)) hs
      refine hG _ _ _ (fun K C => ?_) (hK _ _ _ _ _ _ k2 r2)
      show cond (Nat.blt (sv_u (sv_ev ρ y)) 64) (ae_f (ae_lshl (sv_ul (sv_ev ρ x)) (sv_u (sv_ev ρ y))) fun z => K (Nat.add pc 1) 0 0 lv (ae_j z :: cs2) h) none = _
      rw [hlt, cond_true, ae_f_eq]
  · cases hs
theorem sx_1_lshr (hR : sv_R ty tt op ρ0 n0 mods h0 ρ S lv st h) (hs : sx_1 .lshr M pc S K = true)
    (hK : ∀ pc S ρ lv st h, K pc S = true → sv_R ty tt op ρ0 n0 mods h0 ρ S lv st h → G pc lv st h)
    (hG : ∀ pc' lv' st', (∀ K C, ae_step .lshr M pc 0 0 lv st h K C = K pc' 0 0 lv' st' h) → G pc' lv' st' h → G pc lv st h) : G pc lv st h := by
  have hk := hR.2.2.2.1
  unfold sx_1 at hs; dsimp only at hs
  split at hs
  · next t1 y t2 x rest e =>
    rw [e] at hk
    obtain ⟨c1, cs1, rfl, hv1, hk2⟩ := sv_sk1 hk
    obtain ⟨c2, cs2, rfl, hv2, hr⟩ := sv_sk1 hk2
    obtain ⟨wy, rfl, iy⟩ := sv_vk0 hv1
    obtain ⟨wx, rfl, ix⟩ := sv_vk4 hv2
    rw [sv_ma_f] at hs
    cases hc : and (sv_p 3 S.1 y) (sv_p 3 S.1 (sv_mf (-1) y (63, []))) with
    | false => rw [hc, cond_false] at hs; cases hs
    | true =>
      rw [hc, cond_true] at hs
      rw [Bool.and_eq_true] at hc
      have g1 := sv_p_ok hR.1 hc.1
      have g2 := sv_p_ok hR.1 hc.2
      rw [sv_mf_ev, sv_ev0] at g2
      have hu := (sv_upos iy g1).1
      have hlt : Nat.blt (sv_u (sv_ev ρ y)) 64 = true := Nat.ble_eq_true_of_le (by omega)
      obtain ⟨ρ2, S2, k2, r2⟩ := sv_R_lng (z := ae_lshr (sv_ul (sv_ev ρ x)) (sv_u (sv_ev ρ y))) (K := K (Nat.add pc 1)) hR hr (sv_lshr_lt (sv_ul_lt _)) hs
      refine hG _ _ _ (fun K C => ?_) (hK _ _ _ _ _ _ k2 r2)
      show cond (Nat.blt (sv_u (sv_ev ρ y)) 64) (ae_f (ae_lshr (sv_ul (sv_ev ρ x)) (sv_u (sv_ev ρ y))) fun z => K (Nat.add pc 1) 0 0 lv (ae_j z :: cs2) h) none = _
      rw [hlt, cond_true, ae_f_eq]
  · cases hs
theorem sx_1_lcmp (hR : sv_R ty tt op ρ0 n0 mods h0 ρ S lv st h) (hs : sx_1 .lcmp M pc S K = true)
    (hK : ∀ pc S ρ lv st h, K pc S = true → sv_R ty tt op ρ0 n0 mods h0 ρ S lv st h → G pc lv st h)
    (hG : ∀ pc' lv' st', (∀ K C, ae_step .lcmp M pc 0 0 lv st h K C = K pc' 0 0 lv' st' h) → G pc' lv' st' h → G pc lv st h) : G pc lv st h := by
  have hk := hR.2.2.2.1
  unfold sx_1 at hs; dsimp only at hs
  split at hs
  · next t1 y t2 x rest e =>
    rw [e] at hk
    obtain ⟨c1, cs1, rfl, hv1, hk2⟩ := sv_sk1 hk
    obtain ⟨c2, cs2, rfl, hv2, hr⟩ := sv_sk1 hk2
    obtain ⟨wy, rfl, iy⟩ := sv_vk4 hv1
    obtain ⟨wx, rfl, ix⟩ := sv_vk4 hv2
    rw [sv_ma_f] at hs
    refine hG _ _ _ (fun K C => ?_) (hK _ _ _ _ _ _ hs (sv_R_psh (c := ae_i (ae_lcmp (sv_ul (sv_ev ρ x)) (sv_ul (sv_ev ρ y)))) hR hr ⟨sv_mf_wf wy wx, ?_⟩))
    · exact ae_f_eq (ae_lcmp (sv_ul (sv_ev ρ x)) (sv_ul (sv_ev ρ y))) (fun z => K (Nat.add pc 1) 0 0 lv (ae_i z :: cs2) h)
    · show ae_i _ = .inl (.inl (sv_cc (sv_ev ρ (sv_mf (-1) y x))))
      rw [sv_mf_ev, sv_lcmp_u ix iy]
      have : sv_ev ρ x - sv_ev ρ y = -1 * sv_ev ρ y + sv_ev ρ x := by omega
      rw [this]; rfl
  · cases hs
theorem sx_1_dup (hR : sv_R ty tt op ρ0 n0 mods h0 ρ S lv st h) (hs : sx_1 .dup M pc S K = true)
    (hK : ∀ pc S ρ lv st h, K pc S = true → sv_R ty tt op ρ0 n0 mods h0 ρ S lv st h → G pc lv st h)
    (hG : ∀ pc' lv' st', (∀ K C, ae_step .dup M pc 0 0 lv st h K C = K pc' 0 0 lv' st' h) → G pc' lv' st' h → G pc lv st h) : G pc lv st h := by
  have hk := hR.2.2.2.1
  unfold sx_1 at hs; dsimp only at hs
  split at hs
  · next v rest e =>
    rw [e] at hk
    obtain ⟨c, cs, rfl, hv, hr⟩ := sv_sk1 hk
    cases hc : Nat.beq v.1 4 with
    | true => rw [hc, cond_true] at hs; cases hs
    | false =>
      rw [hc, cond_false] at hs
      have h1 : Nat.beq (ae_cat c) 1 = true := sv_cat1 hv hc
      refine hG _ _ _ (fun K C => ?_) (hK _ _ _ _ _ _ hs (sv_R_psh hR (show sv_sk ty ρ S.1.1 (v :: rest) (c :: cs) from ⟨c, cs, rfl, hv, hr⟩) hv))
      show cond (Nat.beq (ae_cat c) 1) (K (Nat.add pc 1) 0 0 lv (c :: c :: cs) h) none = _
      rw [h1, cond_true]
  · cases hs
theorem sx_1_dup2 (hR : sv_R ty tt op ρ0 n0 mods h0 ρ S lv st h) (hs : sx_1 .dup2 M pc S K = true)
    (hK : ∀ pc S ρ lv st h, K pc S = true → sv_R ty tt op ρ0 n0 mods h0 ρ S lv st h → G pc lv st h)
    (hG : ∀ pc' lv' st', (∀ K C, ae_step .dup2 M pc 0 0 lv st h K C = K pc' 0 0 lv' st' h) → G pc' lv' st' h → G pc lv st h) : G pc lv st h := by
  have hk := hR.2.2.2.1
  unfold sx_1 at hs; dsimp only at hs
  split at hs
  · next v w rest e =>
    rw [e] at hk
    obtain ⟨c, cs1, rfl, hv, hk2⟩ := sv_sk1 hk
    obtain ⟨d, cs, rfl, hw, hr⟩ := sv_sk1 hk2
    cases hc : or (Nat.beq v.1 4) (Nat.beq w.1 4) with
    | true => rw [hc, cond_true] at hs; cases hs
    | false =>
      rw [hc, cond_false] at hs
      rw [Bool.or_eq_false_iff] at hc
      have h1 : Nat.beq (ae_cat c) 1 = true := sv_cat1 hv hc.1
      have h2 : Nat.beq (ae_cat d) 1 = true := sv_cat1 hw hc.2
      refine hG _ _ _ (fun K C => ?_) (hK _ _ _ _ _ _ hs (sv_R_stk hR (show sv_sk ty ρ S.1.1 (v :: w :: v :: w :: rest) (c :: d :: c :: d :: cs) from ⟨c, _, rfl, hv, d, _, rfl, hw, c, _, rfl, hv, d, _, rfl, hw, hr⟩)))
      show cond (and (Nat.beq (ae_cat c) 1) (Nat.beq (ae_cat d) 1)) (K (Nat.add pc 1) 0 0 lv (c :: d :: c :: d :: cs) h) none = _
      rw [h1, h2, Bool.and_self, cond_true]
  · cases hs
theorem sx_1_pop (hR : sv_R ty tt op ρ0 n0 mods h0 ρ S lv st h) (hs : sx_1 .pop M pc S K = true)
    (hK : ∀ pc S ρ lv st h, K pc S = true → sv_R ty tt op ρ0 n0 mods h0 ρ S lv st h → G pc lv st h)
    (hG : ∀ pc' lv' st', (∀ K C, ae_step .pop M pc 0 0 lv st h K C = K pc' 0 0 lv' st' h) → G pc' lv' st' h → G pc lv st h) : G pc lv st h := by
  have hk := hR.2.2.2.1
  unfold sx_1 at hs; dsimp only at hs
  split at hs
  · next v rest e =>
    rw [e] at hk
    obtain ⟨c, cs, rfl, hv, hr⟩ := sv_sk1 hk
    cases hc : Nat.beq v.1 4 with
    | true => rw [hc, cond_true] at hs; cases hs
    | false =>
      rw [hc, cond_false] at hs
      have h1 : Nat.beq (ae_cat c) 1 = true := sv_cat1 hv hc
      refine hG _ _ _ (fun K C => ?_) (hK _ _ _ _ _ _ hs (sv_R_stk hR hr))
      show cond (Nat.beq (ae_cat c) 1) (K (Nat.add pc 1) 0 0 lv cs h) none = _
      rw [h1, cond_true]
  · cases hs
theorem sx_1_goto {off : Int} (hR : sv_R ty tt op ρ0 n0 mods h0 ρ S lv st h) (hs : sx_1 (.goto off) M pc S K = true)
    (hK : ∀ pc S ρ lv st h, K pc S = true → sv_R ty tt op ρ0 n0 mods h0 ρ S lv st h → G pc lv st h)
    (hG : ∀ pc' lv' st', (∀ K C, ae_step (.goto off) M pc 0 0 lv st h K C = K pc' 0 0 lv' st' h) → G pc' lv' st' h → G pc lv st h) : G pc lv st h := by
  have hk := hR.2.2.2.1
  obtain ⟨t, t1, t2⟩ := sx_tgt_ok hs
  exact hG _ _ _ (fun K C => t2 (fun t => K t 0 0 lv st h)) (hK _ _ _ _ _ _ t1 hR)
theorem sx_1_if_icmp {c : Jvm.ClassFile.Cond} {off : Int} (hR : sv_R ty tt op ρ0 n0 mods h0 ρ S lv st h) (hs : sx_1 (.if_icmp c off) M pc S K = true)
    (hK : ∀ pc S ρ lv st h, K pc S = true → sv_R ty tt op ρ0 n0 mods h0 ρ S lv st h → G pc lv st h)
    (hG : ∀ pc' lv' st', (∀ K C, ae_step (.if_icmp c off) M pc 0 0 lv st h K C = K pc' 0 0 lv' st' h) → G pc' lv' st' h → G pc lv st h) : G pc lv st h := by
  have hk := hR.2.2.2.1
  unfold sx_1 at hs; dsimp only at hs
  split at hs
  · next t1 y t2 x rest e =>
    rw [e] at hk
    obtain ⟨c1, cs1, rfl, hv1, hk2⟩ := sv_sk1 hk
    obtain ⟨c2, cs2, rfl, hv2, hr⟩ := sv_sk1 hk2
    obtain ⟨wy, rfl, iy⟩ := sv_vk0 hv1
    obtain ⟨wx, rfl, ix⟩ := sv_vk0 hv2
    obtain ⟨t, g, eq⟩ := sx_if_ok hR wx wy hr (sv_cmp_u ix iy) hK hs
    exact hG _ _ _ (fun K C => eq (fun t => K t 0 0 lv cs2 h)) g
  · cases hs
theorem sx_1_ifCond {c : Jvm.ClassFile.Cond} {off : Int} (hR : sv_R ty tt op ρ0 n0 mods h0 ρ S lv st h) (hs : sx_1 (.ifCond c off) M pc S K = true)
    (hK : ∀ pc S ρ lv st h, K pc S = true → sv_R ty tt op ρ0 n0 mods h0 ρ S lv st h → G pc lv st h)
    (hG : ∀ pc' lv' st', (∀ K C, ae_step (.ifCond c off) M pc 0 0 lv st h K C = K pc' 0 0 lv' st' h) → G pc' lv' st' h → G pc lv st h) : G pc lv st h := by
  have hk := hR.2.2.2.1
  unfold sx_1 at hs; dsimp only at hs
  split at hs
  · next t1 x rest e =>
    rw [e] at hk
    obtain ⟨c1, cs, rfl, hv1, hr⟩ := sv_sk1 hk
    obtain ⟨wx, rfl, ix⟩ := sv_vk0 hv1
    obtain ⟨t, g, eq⟩ := sx_if_ok (y := (0, [])) hR wx (sv_wf0 _ _) hr (by rw [sv_ev0]; exact sv_cmp_0 ix) hK hs
    exact hG _ _ _ (fun K C => eq (fun t => K t 0 0 lv cs h)) g
  · next t1 x rest e =>
    rw [e] at hk
    obtain ⟨c1, cs, rfl, hv1, hr⟩ := sv_sk1 hk
    have ec : c1 = .inl (.inl (sv_cc (sv_ev ρ x))) := hv1.2
    subst ec
    obtain ⟨t, g, eq⟩ := sx_if_ok (y := (0, [])) hR hv1.1 (sv_wf0 _ _) hr (by rw [sv_ev0]; exact sv_cc_cmp) hK hs
    exact hG _ _ _ (fun K C => eq (fun t => K t 0 0 lv cs h)) g
  · cases hs
theorem sx_1_ifnull {off : Int} (hR : sv_R ty tt op ρ0 n0 mods h0 ρ S lv st h) (hs : sx_1 (.ifnull off) M pc S K = true)
    (hK : ∀ pc S ρ lv st h, K pc S = true → sv_R ty tt op ρ0 n0 mods h0 ρ S lv st h → G pc lv st h)
    (hG : ∀ pc' lv' st', (∀ K C, ae_step (.ifnull off) M pc 0 0 lv st h K C = K pc' 0 0 lv' st' h) → G pc' lv' st' h → G pc lv st h) : G pc lv st h := by
  have hk := hR.2.2.2.1
  unfold sx_1 at hs; dsimp only at hs
  split at hs
  · next t1 x rest e =>
    rw [e] at hk
    obtain ⟨c1, cs, rfl, hv1, hr⟩ := sv_sk1 hk
    obtain ⟨k, q1, ec, q3⟩ := hv1.2
    subst ec
    exact hG _ _ _ (fun K C => rfl) (hK _ _ _ _ _ _ hs (sv_R_stk hR hr))
  · next t1 x rest e =>
    rw [e] at hk
    obtain ⟨c1, cs, rfl, hv1, hr⟩ := sv_sk1 hk
    have ec : c1 = .inr (.inr none) := hv1.2
    subst ec
    obtain ⟨t, t1, t2⟩ := sx_tgt_ok hs
    exact hG _ _ _ (fun K C => t2 (fun t => K t 0 0 lv cs h)) (hK _ _ _ _ _ _ t1 (sv_R_stk hR hr))
  · next t1 x rest e =>
    rw [e] at hk
    obtain ⟨c1, cs, rfl, hv1, hr⟩ := sv_sk1 hk
    rw [Bool.and_eq_true] at hs
    obtain ⟨wx, hv⟩ := hv1
    rcases hv with ⟨hm, ec⟩ | ⟨k, q1, ec, q3⟩
    · subst ec
      have hm : sv_ev ρ x = -1 := hm
      obtain ⟨a2, k2, r2, e2⟩ := sv_cd_ok (c := .eq) hR.1 wx (sv_wf0 _ (-1)) (by rw [sv_ev0]; exact hm) hs.1
      obtain ⟨t, t1, t2⟩ := sx_tgt_ok k2
      exact hG _ _ _ (fun K C => t2 (fun t => K t 0 0 lv cs h)) (hK _ _ _ _ _ _ t1 (sv_R_ar hR hr r2 e2))
    · subst ec
      have hm : sv_ev ρ x = k := q1
      obtain ⟨a2, k2, r2, e2⟩ := sv_as_ok hR.1 wx (by omega) hs.2
      exact hG _ _ _ (fun K C => rfl) (hK _ _ _ _ _ _ k2 (sv_R_ar hR hr r2 e2))
  · cases hs
theorem sx_1_ifnonnull {off : Int} (hR : sv_R ty tt op ρ0 n0 mods h0 ρ S lv st h) (hs : sx_1 (.ifnonnull off) M pc S K = true)
    (hK : ∀ pc S ρ lv st h, K pc S = true → sv_R ty tt op ρ0 n0 mods h0 ρ S lv st h → G pc lv st h)
    (hG : ∀ pc' lv' st', (∀ K C, ae_step (.ifnonnull off) M pc 0 0 lv st h K C = K pc' 0 0 lv' st' h) → G pc' lv' st' h → G pc lv st h) : G pc lv st h := by
  have hk := hR.2.2.2.1
  unfold sx_1 at hs; dsimp only at hs
  split at hs
  · next t1 x rest e =>
    rw [e] at hk
    obtain ⟨c1, cs, rfl, hv1, hr⟩ := sv_sk1 hk
    obtain ⟨k, q1, ec, q3⟩ := hv1.2
    subst ec
    obtain ⟨t, t1, t2⟩ := sx_tgt_ok hs
    exact hG _ _ _ (fun K C => t2 (fun t => K t 0 0 lv cs h)) (hK _ _ _ _ _ _ t1 (sv_R_stk hR hr))
  · next t1 x rest e =>
    rw [e] at hk
    obtain ⟨c1, cs, rfl, hv1, hr⟩ := sv_sk1 hk
    have ec : c1 = .inr (.inr none) := hv1.2
    subst ec
    exact hG _ _ _ (fun K C => rfl) (hK _ _ _ _ _ _ hs (sv_R_stk hR hr))
  · next t1 x rest e =>
    rw [e] at hk
    obtain ⟨c1, cs, rfl, hv1, hr⟩ := sv_sk1 hk
    rw [Bool.and_eq_true] at hs
    obtain ⟨wx, hv⟩ := hv1
    rcases hv with ⟨hm, ec⟩ | ⟨k, q1, ec, q3⟩
    · subst ec
      have hm : sv_ev ρ x = -1 := hm
      obtain ⟨a2, k2, r2, e2⟩ := sv_cd_ok (c := .eq) hR.1 wx (sv_wf0 _ (-1)) (by rw [sv_ev0]; exact hm) hs.2
      exact hG _ _ _ (fun K C => rfl) (hK _ _ _ _ _ _ k2 (sv_R_ar hR hr r2 e2))
    · subst ec
      have hm : sv_ev ρ x = k := q1
      obtain ⟨a2, k2, r2, e2⟩ := sv_as_ok hR.1 wx (by omega) hs.1
      obtain ⟨t, t1, t2⟩ := sx_tgt_ok k2
      exact hG _ _ _ (fun K C => t2 (fun t => K t 0 0 lv cs h)) (hK _ _ _ _ _ _ t1 (sv_R_ar hR hr r2 e2))
  · cases hs
theorem sx_1_tableswitch {dflt : Int} {lo : Int} {hi : Int} {offs : Array Int} (hR : sv_R ty tt op ρ0 n0 mods h0 ρ S lv st h) (hs : sx_1 (.tableswitch dflt lo hi offs) M pc S K = true)
    (hK : ∀ pc S ρ lv st h, K pc S = true → sv_R ty tt op ρ0 n0 mods h0 ρ S lv st h → G pc lv st h)
    (hG : ∀ pc' lv' st', (∀ K C, ae_step (.tableswitch dflt lo hi offs) M pc 0 0 lv st h K C = K pc' 0 0 lv' st' h) → G pc' lv' st' h → G pc lv st h) : G pc lv st h := by
  have hk := hR.2.2.2.1
  unfold sx_1 at hs; dsimp only at hs
  split at hs
  · next t1 x rest e =>
    rw [e] at hk
    obtain ⟨c1, cs, rfl, hv1, hr⟩ := sv_sk1 hk
    obtain ⟨wx, rfl, ix⟩ := sv_vk0 hv1
    cases hd : decide (hi = lo + (offs.size : Int) - 1) with
    | false => rw [hd, cond_false] at hs; cases hs
    | true =>
      rw [hd, cond_true, Bool.and_eq_true, Bool.and_eq_true, sv_fi_eq, sv_fi_eq] at hs
      have hhi := of_decide_eq_true hd
      obtain ⟨s1, s2, s3⟩ := hs
      have hb := sv_bs_u ix
      have hrg : ae_rg (.inl (sv_u (sv_ev ρ x))) = (ae_bs (sv_u (sv_ev ρ x)), ae_bs (sv_u (sv_ev ρ x))) := rfl
      have e3 : (ae_bs (sv_u (sv_ev ρ x)) : Int) - 2147483648 = sv_ev ρ x := by omega
      by_cases h1 : sv_ev ρ x < lo
      · obtain ⟨a2, k2, r2, e2⟩ := sv_cd_ok (c := .lt) hR.1 wx (sv_wf0 _ lo) (by rw [sv_ev0]; exact h1) s2
        obtain ⟨t, t1, t2⟩ := sx_tgt_ok k2
        exact hG _ _ _ (fun K C => (sx_ts_d hrg e3 (Or.inl h1) K C).trans (t2 (fun t => K t 0 0 lv cs h))) (hK _ _ _ _ _ _ t1 (sv_R_ar hR hr r2 e2))
      · by_cases h2 : hi < sv_ev ρ x
        · obtain ⟨a2, k2, r2, e2⟩ := sv_cd_ok (c := .gt) hR.1 wx (sv_wf0 _ hi) (by rw [sv_ev0]; exact h2) s3
          obtain ⟨t, t1, t2⟩ := sx_tgt_ok k2
          exact hG _ _ _ (fun K C => (sx_ts_d hrg e3 (Or.inr h2) K C).trans (t2 (fun t => K t 0 0 lv cs h))) (hK _ _ _ _ _ _ t1 (sv_R_ar hR hr r2 e2))
        · obtain ⟨off, o1, a2, k2, r2, e2⟩ := sx_sw_ok hR.1 wx offs.toList lo s1 (by omega) (by rw [Array.length_toList]; omega)
          obtain ⟨t, t1, t2⟩ := sx_tgt_ok k2
          rw [Array.getElem?_toList] at o1
          exact hG _ _ _ (fun K C => (sx_ts_o hrg e3 (by omega) (by omega) o1 K C).trans (t2 (fun t => K t 0 0 lv cs h))) (hK _ _ _ _ _ _ t1 (sv_R_ar hR hr r2 e2))
  · cases hs
theorem sx_1_ok {i : Instr} (hR : sv_R ty tt op ρ0 n0 mods h0 ρ S lv st h) (hs : sx_1 i M pc S K = true)
    (hK : ∀ pc S ρ lv st h, K pc S = true → sv_R ty tt op ρ0 n0 mods h0 ρ S lv st h → G pc lv st h)
    (hG : ∀ pc' lv' st', (∀ K C, ae_step i M pc 0 0 lv st h K C = K pc' 0 0 lv' st' h) → G pc' lv' st' h → G pc lv st h) : G pc lv st h := by
  cases i with
  | iconst n => exact sx_1_iconst hR hs hK hG
  | bipush n => exact sx_1_bipush hR hs hK hG
  | sipush n => exact sx_1_sipush hR hs hK hG
  | lconst n => exact sx_1_lconst hR hs hK hG
  | aconst_null => exact sx_1_aconst_null hR hs hK hG
  | ldc idx => exact sx_1_ldc hR hs hK hG
  | ldc_w idx => exact sx_1_ldc_w hR hs hK hG
  | ldc2_w idx => exact sx_1_ldc2_w hR hs hK hG
  | getstatic idx => exact sx_1_getstatic hR hs hK hG
  | iload_n k => exact sx_1_iload_n hR hs hK hG
  | iload k => exact sx_1_iload hR hs hK hG
  | lload_n k => exact sx_1_lload_n hR hs hK hG
  | lload k => exact sx_1_lload hR hs hK hG
  | aload_n k => exact sx_1_aload_n hR hs hK hG
  | aload k => exact sx_1_aload hR hs hK hG
  | istore_n k => exact sx_1_istore_n hR hs hK hG
  | istore k => exact sx_1_istore hR hs hK hG
  | lstore_n k => exact sx_1_lstore_n hR hs hK hG
  | lstore k => exact sx_1_lstore hR hs hK hG
  | astore_n k => exact sx_1_astore_n hR hs hK hG
  | astore k => exact sx_1_astore hR hs hK hG
  | iinc k n => exact sx_1_iinc hR hs hK hG
  | iadd => exact sx_1_iadd hR hs hK hG
  | isub => exact sx_1_isub hR hs hK hG
  | imul => exact sx_1_imul hR hs hK hG
  | iand => exact sx_1_iand hR hs hK hG
  | ior => exact sx_1_ior hR hs hK hG
  | ixor => exact sx_1_ixor hR hs hK hG
  | ishl => exact sx_1_ishl hR hs hK hG
  | ishr => exact sx_1_ishr hR hs hK hG
  | iushr => exact sx_1_iushr hR hs hK hG
  | idiv => exact sx_1_idiv hR hs hK hG
  | irem => exact sx_1_irem hR hs hK hG
  | ineg => exact sx_1_ineg hR hs hK hG
  | i2b => exact sx_1_i2b hR hs hK hG
  | i2l => exact sx_1_i2l hR hs hK hG
  | l2i => exact sx_1_l2i hR hs hK hG
  | ladd => exact sx_1_ladd hR hs hK hG
  | lsub => exact sx_1_lsub hR hs hK hG
  | land => exact sx_1_land hR hs hK hG
  | lor => exact sx_1_lor hR hs hK hG
  | lushr => exact sx_1_lushr hR hs hK hG
  | lshl => exact sx_1_lshl hR hs hK hG
  | lshr => exact sx_1_lshr hR hs hK hG
  | lcmp => exact sx_1_lcmp hR hs hK hG
  | dup => exact sx_1_dup hR hs hK hG
  | dup2 => exact sx_1_dup2 hR hs hK hG
  | pop => exact sx_1_pop hR hs hK hG
  | goto off => exact sx_1_goto hR hs hK hG
  | if_icmp c off => exact sx_1_if_icmp hR hs hK hG
  | ifCond c off => exact sx_1_ifCond hR hs hK hG
  | ifnull off => exact sx_1_ifnull hR hs hK hG
  | ifnonnull off => exact sx_1_ifnonnull hR hs hK hG
  | tableswitch dflt lo hi offs => exact sx_1_tableswitch hR hs hK hG
  | _ => exact absurd hs (by unfold sx_1; simp)
end
