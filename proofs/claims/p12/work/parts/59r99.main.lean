section
variable {p : Program} {l : Launch} {e : Env} {s : State} {m : MethodId} {args : Array Value} {below : List Frame} {meth : Method} {c : Code} {Q : State → Prop} {D : va_G} {kA : Nat → ClassId} {A : Nat → Prop} {pre : Nat → Option Nat} {M : ae_M} {R : Room}
  {pc ce sl : Nat} {lv : ae_L} {st : List ae_V} {h : ae_H} {K : ae_K} {C : Nat → List ae_V → ae_H → Option ae_R} {r : ae_R}
theorem ae_objI (X : ae_Cx p s m args meth c D kA A M) (hR : R = ae_room M) {idx x y k : Nat} {rest : List ae_V} (hd : decode M.2.2.1 pc = .ok (.invokespecial idx, 3)) (hc : ae_cp M.1 idx = some (6, x, y)) (hf : 1 ≤ M.2.2.2.2.2.2.2.1) (hlo : ae_catS rest + 12 ≤ M.2.2.2.2.2.2.2.2.1)
    (kk : ae_At p l e R s m args below meth c Q D kA A pre M.2.2.2.1 (pc + 3) ce sl lv rest h) : ae_At p l e R s m args below meth c Q D kA A pre M.2.2.2.1 pc ce sl lv (.inr (.inr (some k)) :: rest) h := by
  obtain ⟨hx, hb, hml, hown, hts, hKK, hA, -⟩ := X
  intro ws H locs ls lvC stC hl hlr hsr hhr hpx hP hD hS
  obtain ⟨a, xs, rfl, had, hs1⟩ := ae_sr_r hsr
  have hw : Jvm.Cond.methodLink (ae_on M.1) idx objectInit ∈ lw_tbl := (ae_cp_ok hc).1
  have h1 : Jvm.Cond.instanceMethod objectInit ∈ lw_tbl := List.mem_of_getElem? (i := 146) (by decide +kernel)
  have h2 : Jvm.Cond.code objectInit ⟨#[0xb1]⟩ 1 none ∈ lw_tbl := List.mem_of_getElem? (i := 147) (by decide +kernel)
  have gt : ∀ {w : Jvm.Cond}, w ∈ lw_tbl → goodWord w = true → w.before args s = true := fun q g => hts _ (ae_gw_in q g)
  subst hR
  refine W.objInit hx hb hown (gt hw rfl) (gt h1 rfl) (gt h2 rfl) rfl (by rw [hml]; exact hl.1) rfl hd hf (by show 2 * 0 + _ + 12 ≤ M.2.2.2.2.2.2.2.2.1; rw [ae_sr_cat hs1]; omega) ?_
  exact kk ws H locs ls lvC _ hl hlr hs1 hhr hpx hP hD hS
theorem ae_min (X : ae_Cx p s m args meth c D kA A M) (hR : R = ae_room M) {idx u v x y : Nat} {rest : List ae_V} (hd : decode M.2.2.1 pc = .ok (.invokestatic idx, 3)) (hc : ae_cp M.1 idx = some (8, u, v)) (hf : 1 ≤ M.2.2.2.2.2.2.2.1) (hce : ce ≤ M.2.2.2.2.2.2.2.2.2.1) (hsl : sl ≤ M.2.2.2.2.2.2.2.2.2.2) (hlo : ae_catS rest + 13 ≤ M.2.2.2.2.2.2.2.2.1)
    (kk : ae_At p l e R s m args below meth c Q D kA A pre M.2.2.2.1 (pc + 3) ce sl lv (ae_i (cond (Nat.blt (ae_bs y) (ae_bs x)) y x) :: rest) h) : ae_At p l e R s m args below meth c Q D kA A pre M.2.2.2.1 pc ce sl lv (.inl (.inl y) :: .inl (.inl x) :: rest) h := by
  obtain ⟨hx, hb, hml, hown, hts, hKK, hA, -⟩ := X
  intro ws H locs ls lvC stC hl hlr hsr hhr hpx hP hD hS
  obtain ⟨Y, xs0, rfl, ⟨rfl, hy⟩, hs0⟩ := ae_sr_i hsr
  obtain ⟨Z, xs, rfl, ⟨rfl, hz⟩, hs1⟩ := ae_sr_i hs0
  have hw : Jvm.Cond.methodLink (ae_on M.1) idx Lib.Math.min.name ∈ lw_tbl := (ae_cp_ok hc).1
  have h1 : Jvm.Cond.static Lib.Math.min.name ∈ lw_tbl := List.mem_of_getElem? (i := 746) (by decide +kernel)
  have h2 : Jvm.Cond.code Lib.Math.min.name Lib.Math.min.code 2 (some .int) ∈ lw_tbl := List.mem_of_getElem? (i := 747) (by decide +kernel)
  have h3 : Jvm.Cond.initialized "java/lang/Math" ∈ lw_tbl := List.mem_of_getElem? (i := 131) (by decide +kernel)
  have gt : ∀ {w : Jvm.Cond}, w ∈ lw_tbl → goodWord w = true → w.before args s = true := fun q g => hts _ (ae_gw_in q g)
  subst hR
  refine va_mmin hx hb (by rw [hml]; exact hl.1.symm) hown (gt hw rfl) (gt h1 rfl) (gt h3 rfl) (gt h2 rfl) hf (by rw [ae_sr_cat hs1]; exact hlo) hce hsl hd ?_
  refine kk ws H locs ls lvC _ hl hlr (ae_sr_c ?_ hs1) hhr hpx hP hD hS
  have hlt : nI y < nI x ↔ ae_bs y < ae_bs x := by rw [ae_lt_iff, ae_bi_nI, ae_bi_nI]
  cases q : Nat.blt (ae_bs y) (ae_bs x) with
  | true => rw [if_pos (hlt.mpr (ae_blt q))]; exact ae_vr_i hy
  | false =>
    rw [if_neg (fun z => by
      have := hlt.mp z
      have : Nat.blt (ae_bs y) (ae_bs x) = true := Nat.ble_eq_true_of_le this
      rw [this] at q; cases q)]
    exact ae_vr_i hz
theorem ae_max (X : ae_Cx p s m args meth c D kA A M) (hR : R = ae_room M) {idx u v x y : Nat} {rest : List ae_V} (hd : decode M.2.2.1 pc = .ok (.invokestatic idx, 3)) (hc : ae_cp M.1 idx = some (9, u, v)) (hf : 1 ≤ M.2.2.2.2.2.2.2.1) (hce : ce ≤ M.2.2.2.2.2.2.2.2.2.1) (hsl : sl ≤ M.2.2.2.2.2.2.2.2.2.2) (hlo : ae_catS rest + 13 ≤ M.2.2.2.2.2.2.2.2.1)
    (kk : ae_At p l e R s m args below meth c Q D kA A pre M.2.2.2.1 (pc + 3) ce sl lv (ae_i (cond (Nat.blt (ae_bs x) (ae_bs y)) y x) :: rest) h) : ae_At p l e R s m args below meth c Q D kA A pre M.2.2.2.1 pc ce sl lv (.inl (.inl y) :: .inl (.inl x) :: rest) h := by
  obtain ⟨hx, hb, hml, hown, hts, hKK, hA, -⟩ := X
  intro ws H locs ls lvC stC hl hlr hsr hhr hpx hP hD hS
  obtain ⟨Y, xs0, rfl, ⟨rfl, hy⟩, hs0⟩ := ae_sr_i hsr
  obtain ⟨Z, xs, rfl, ⟨rfl, hz⟩, hs1⟩ := ae_sr_i hs0
  have hw : Jvm.Cond.methodLink (ae_on M.1) idx Lib.Math.max.name ∈ lw_tbl := (ae_cp_ok hc).1
  have h1 : Jvm.Cond.static Lib.Math.max.name ∈ lw_tbl := List.mem_of_getElem? (i := 903) (by decide +kernel)
  have h2 : Jvm.Cond.code Lib.Math.max.name Lib.Math.max.code 2 (some .int) ∈ lw_tbl := List.mem_of_getElem? (i := 904) (by decide +kernel)
  have h3 : Jvm.Cond.initialized "java/lang/Math" ∈ lw_tbl := List.mem_of_getElem? (i := 131) (by decide +kernel)
  have gt : ∀ {w : Jvm.Cond}, w ∈ lw_tbl → goodWord w = true → w.before args s = true := fun q g => hts _ (ae_gw_in q g)
  subst hR
  refine va_mmax hx hb (by rw [hml]; exact hl.1.symm) hown (gt hw rfl) (gt h1 rfl) (gt h3 rfl) (gt h2 rfl) hf (by rw [ae_sr_cat hs1]; exact hlo) hce hsl hd ?_
  refine kk ws H locs ls lvC _ hl hlr (ae_sr_c ?_ hs1) hhr hpx hP hD hS
  have hlt : nI x < nI y ↔ ae_bs x < ae_bs y := by rw [ae_lt_iff, ae_bi_nI, ae_bi_nI]
  cases q : Nat.blt (ae_bs x) (ae_bs y) with
  | true => rw [if_pos (hlt.mpr (ae_blt q))]; exact ae_vr_i hy
  | false =>
    rw [if_neg (fun z => by
      have := hlt.mp z
      have : Nat.blt (ae_bs x) (ae_bs y) = true := Nat.ble_eq_true_of_le this
      rw [this] at q; cases q)]
    exact ae_vr_i hz
theorem ae_abs (X : ae_Cx p s m args meth c D kA A M) (hR : R = ae_room M) {idx u v x : Nat} {rest : List ae_V} (hd : decode M.2.2.1 pc = .ok (.invokestatic idx, 3)) (hc : ae_cp M.1 idx = some (10, u, v)) (hf : 1 ≤ M.2.2.2.2.2.2.2.1) (hce : ce ≤ M.2.2.2.2.2.2.2.2.2.1) (hsl : sl ≤ M.2.2.2.2.2.2.2.2.2.2) (hlo : ae_catS rest + 13 ≤ M.2.2.2.2.2.2.2.2.1)
    (kk : ae_At p l e R s m args below meth c Q D kA A pre M.2.2.2.1 (pc + 3) ce sl lv (ae_i (cond (Nat.ble 2147483648 x) (ae_sub 0 x) x) :: rest) h) : ae_At p l e R s m args below meth c Q D kA A pre M.2.2.2.1 pc ce sl lv (.inl (.inl x) :: rest) h := by
  obtain ⟨hx, hb, hml, hown, hts, hKK, hA, -⟩ := X
  intro ws H locs ls lvC stC hl hlr hsr hhr hpx hP hD hS
  obtain ⟨Z, xs, rfl, ⟨rfl, hz⟩, hs1⟩ := ae_sr_i hsr
  have hw : Jvm.Cond.methodLink (ae_on M.1) idx Lib.Math.abs.name ∈ lw_tbl := (ae_cp_ok hc).1
  have h1 : Jvm.Cond.static Lib.Math.abs.name ∈ lw_tbl := List.mem_of_getElem? (i := 1007) (by decide +kernel)
  have h2 : Jvm.Cond.code Lib.Math.abs.name Lib.Math.abs.code 1 (some .int) ∈ lw_tbl := List.mem_of_getElem? (i := 1008) (by decide +kernel)
  have h3 : Jvm.Cond.initialized "java/lang/Math" ∈ lw_tbl := List.mem_of_getElem? (i := 131) (by decide +kernel)
  have gt : ∀ {w : Jvm.Cond}, w ∈ lw_tbl → goodWord w = true → w.before args s = true := fun q g => hts _ (ae_gw_in q g)
  subst hR
  refine va_mabs hx hb (by rw [hml]; exact hl.1.symm) hown (gt hw rfl) (gt h1 rfl) (gt h3 rfl) (gt h2 rfl) hf (by rw [ae_sr_cat hs1]; exact hlo) hce hsl hd ?_
  refine kk ws H locs ls lvC _ hl hlr (ae_sr_c ?_ hs1) hhr hpx hP hD hS
  have e0 : ae_bs x = (x + 2147483648) % 4294967296 := rfl
  have hle : 0 ≤ nI x ↔ 2147483648 ≤ ae_bs x := by rw [ae_le_iff, ae_bi_nI, ae_bi0]
  cases q : Nat.ble 2147483648 x with
  | true =>
    have := ae_ble q
    rw [if_neg (fun z => by have := hle.mp z; omega)]
    rw [show (0 : Int32) - nI x = nI (ae_sub 0 x) from ae_sub_ok (a := 0) hz]
    exact ae_vr_i (Nat.mod_lt _ (by omega))
  | false =>
    have := ae_blt_f q
    rw [if_pos (hle.mpr (by omega))]
    exact ae_vr_i hz
theorem ae_copy (X : ae_Cx p s m args meth c D kA A M) (hR : R = ae_room M) {idx u v t dp d sp sr n n0 n1 A0 B : Nat} {rest : List ae_V} (hd : decode M.2.2.1 pc = .ok (.invokestatic idx, 3)) (hc : ae_cp M.1 idx = some (7, u, v)) (hf : 1 ≤ M.2.2.2.2.2.2.2.1) (hlo : 60 ≤ M.2.2.2.2.2.2.2.2.1) (hrest : ae_catS rest ≤ 8) (ht : t ≤ 1)
    (hg0 : ae_hg h sr = some (.inl (t, n0, .inl A0))) (hg1 : ae_hg h d = some (.inl (t, n1, .inl B))) (h1 : sp + n ≤ n0) (h2 : dp + n ≤ n1) (h3 : n0 < 2147483648) (h4 : n1 < 2147483648)
    (kk : ae_At p l e R s m args below meth c Q D kA A pre M.2.2.2.1 (pc + 3) ce sl lv rest (ae_hs h d (.inl (t, n1, .inl (ae_blit A0 sp B dp n))))) : ae_At p l e R s m args below meth c Q D kA A pre M.2.2.2.1 pc ce sl lv (.inl (.inl n) :: .inl (.inl dp) :: .inr (.inr (some d)) :: .inl (.inl sp) :: .inr (.inr (some sr)) :: rest) h := by
  obtain ⟨hx, hb, hml, hown, hts, ⟨hK, -, -⟩, hA, -⟩ := X
  intro ws H locs ls lvC stC hl hlr hsr hhr hpx hP hD hS
  obtain ⟨Y0, xs0, rfl, ⟨rfl, hy0⟩, hs0⟩ := ae_sr_i hsr
  obtain ⟨Y1, xs1, rfl, ⟨rfl, hy1⟩, hs1⟩ := ae_sr_i hs0
  obtain ⟨ad, xs2, rfl, had, hs2⟩ := ae_sr_r hs1
  obtain ⟨Y3, xs3, rfl, ⟨rfl, hy3⟩, hs3⟩ := ae_sr_i hs2
  obtain ⟨as, xs, rfl, has, hs4⟩ := ae_sr_r hs3
  obtain ⟨y0, hw0, hxr0⟩ := ae_rf hhr hg0 has
  obtain ⟨y1, hw1, hxr1⟩ := ae_rf hhr hg1 had
  obtain ⟨f, rfl, hf0⟩ := ae_ldi (j := 0) (by omega) hxr0
  obtain ⟨g, rfl, hg⟩ := ae_ldi (j := 0) (by omega) hxr1
  have hw : Jvm.Cond.methodLink (ae_on M.1) idx arraycopyName ∈ lw_tbl := (ae_cp_ok hc).1
  have w1 : Jvm.Cond.static arraycopyName ∈ lw_tbl := List.mem_of_getElem? (i := 882) (by decide +kernel)
  have w2 : Jvm.Cond.native arraycopyName ∈ lw_tbl := List.mem_of_getElem? (i := 883) (by decide +kernel)
  have w3 : Jvm.Cond.initialized "java/lang/System" ∈ lw_tbl := List.mem_of_getElem? (i := 136) (by decide +kernel)
  have gt : ∀ {w : Jvm.Cond}, w ∈ lw_tbl → goodWord w = true → w.before args s = true := fun q g => hts _ (ae_gw_in q g)
  subst hR
  have c0 : (nI n).toNatClampNeg = n := nI_clamp (by omega)
  have c2 : (nI dp).toNatClampNeg = dp := nI_clamp (by omega)
  have c3 : (nI sp).toNatClampNeg = sp := nI_clamp (by omega)
  have fin : ∀ ty : FieldType, (ae_tys kA)[t]? = some (kA t, ty) → refKind ty = false → (∀ i, fits ty (.int (f i)) = true) → W p l e (ae_room M) s m args below meth c H locs ce sl Q (F0 m pc ls (.int (nI n) :: .int (nI dp) :: .ref ad :: .int (nI sp) :: .ref as :: xs)) := by
    intro ty htt hpr hft
    refine va_copyi (D := D) hx hb (by rw [hml]; exact hl.1.symm) hown (gt hw rfl) (gt w2 rfl) (gt w1 rfl) (gt w3 rfl) hK hP hD hS sr d t t (ty := ty) hw0 hw1 htt htt hpr (nI_pos (by omega)) (nI_pos (by omega)) (nI_pos (by omega)) (by rw [c3, c0]; exact h1) (by rw [c2, c0]; exact h2) (fun i hi => hft _) hf (by
      rw [ae_sr_cat hs4]
      have : nativeFrameWords "java/lang/System" "arraycopy" 5 + 11 ≤ 52 := by decide +kernel
      show ae_catS rest + _ ≤ M.2.2.2.2.2.2.2.2.1
      omega) hd (fun H1 locs1 hP1 hD1 hS1 => ae_hset (c1 := .inl (t, n1, .inl (ae_blit A0 sp B dp n))) (e1 := .inl (kA t, n1, .inl (va_cpy f g (nI sp).toNatClampNeg (nI dp).toNatClampNeg (nI n).toNatClampNeg))) hl hlr hs4 hhr hpx hg1 hw1 ⟨_, rfl, Or.inl ⟨by omega, _, rfl, fun q i => ?_, fun B' hB k hk => ?_⟩⟩ hP1 hD1 hS1 kk)
    · unfold va_cpy
      split
      · exact ae_ldb hxr0 q _
      · exact ae_ldb hxr1 q _
    · cases hB
      rw [c0, c2, c3, sv_rd_blit]
      unfold va_cpy
      by_cases hh : dp ≤ k ∧ k < dp + n
      · rw [if_pos hh, if_pos hh, hf0 A0 rfl _ (by omega)]
      · rw [if_neg hh, if_neg hh, hg B rfl k hk]
  have ht2 : t = 0 ∨ t = 1 := by omega
  rcases ht2 with rfl | rfl
  · exact fin .int rfl rfl (fun _ => rfl)
  · exact fin .byte rfl rfl (fun i => ae_ldb hxr0 rfl i)
theorem ae_gets (X : ae_Cx p s m args meth c D kA A M) {idx j z : Nat} (hd : decode M.2.2.1 pc = .ok (.getstatic idx, 3)) (hc : ae_cp M.1 idx = some (20, j, z))
    (kk : ae_At p l e R s m args below meth c Q D kA A pre M.2.2.2.1 (pc + 3) ce sl lv (.inr (.inr (some (256 + j))) :: st) h) : ae_At p l e R s m args below meth c Q D kA A pre M.2.2.2.1 pc ce sl lv st h := by
  obtain ⟨hx, hb, hml, hown, hts, hKK, hA, -, -, -, hEX⟩ := X
  intro ws H locs ls lvC stC hl hlr hsr hhr hpx hP hD hS
  have hw : Jvm.Cond.fieldLink (ae_on M.1) idx "PlugHall$Board" (ae_sn j) "[I" ∈ lw_tbl := (ae_cp_ok hc).1
  have hj : Nat.blt j 3 = true := (ae_cp_ok hc).2
  refine va_gets (C := "PlugHall$Board") hx hb (hEX.1 j (ae_blt hj)).1 hS hown (hts _ (ae_gw_in hw rfl)) (fun _ h9 => h9) hd ?_
  exact kk ws H locs ls lvC _ hl hlr (ae_sr_c ⟨kA (256 + j), ae_ad_x (by rw [hhr.1]; exact hhr.2.1) (by omega), rfl⟩ hsr) hhr hpx hP hD hS
theorem ae_ldcs (X : ae_Cx p s m args meth c D kA A M) {idx j z : Nat} (hd : decode M.2.2.1 pc = .ok (.ldc idx, 2)) (hc : ae_cp M.1 idx = some (21, j, z))
    (kk : ae_At p l e R s m args below meth c Q D kA A pre M.2.2.2.1 (pc + 2) ce sl lv (.inr (.inr (some (256 + j))) :: st) h) : ae_At p l e R s m args below meth c Q D kA A pre M.2.2.2.1 pc ce sl lv st h := by
  obtain ⟨hx, hb, hml, hown, hts, hKK, hA, -, -, -, hEX⟩ := X
  intro ws H locs ls lvC stC hl hlr hsr hhr hpx hP hD hS
  obtain ⟨tx, hR9⟩ := hEX.2.1 M.1 idx j z hc
  refine va_ldcS hx hb hown hR9 hd ?_
  exact kk ws H locs ls lvC _ hl hlr (ae_sr_c ⟨kA (256 + j), ae_ad_x (by rw [hhr.1]; exact hhr.2.1) (by omega), rfl⟩ hsr) hhr hpx hP hD hS
theorem ae_ldxs (X : ae_Cx p s m args meth c D kA A M) {v0 : ae_V} {a0 : Nat} {r0 : List ae_V} (hd : decode M.2.2.1 pc = .ok (.iaload, 1)) (ha : 256 ≤ a0) (hs : ae_ldx (v0 :: .inr (.inr (some a0)) :: r0) (fun st => K (Nat.add pc 1) ce sl lv st h) = some r)
    (hK : ∀ (pc ce sl : Nat) (lv : ae_L) (st : List ae_V) (h : ae_H), K pc ce sl lv st h = some r → ae_At p l e R s m args below meth c Q D kA A pre M.2.2.2.1 pc ce sl lv st h) : ae_At p l e R s m args below meth c Q D kA A pre M.2.2.2.1 pc ce sl lv (v0 :: .inr (.inr (some a0)) :: r0) h := by
  obtain ⟨hx, hb, hml, hown, hts, hKK, hA, -, -, -, hEX⟩ := X
  unfold ae_ldx at hs
  split at hs
  · next i a rest heq =>
    cases heq
    replace hs := ae_cond hs; obtain ⟨q0, hs⟩ := hs
    obtain ⟨-, q2⟩ := ae_band q0
    have q2 := ae_blt q2
    split at hs
    · next L hL =>
      split at hs
      · next z hz =>
        rw [ae_nth_eq] at hL hz
        intro ws H locs ls lvC stC hl hlr hsr hhr hpx hP hD hS
        obtain ⟨Y, xs0, rfl, ⟨rfl, hy⟩, hs0⟩ := ae_sr_i hsr
        obtain ⟨ad, xs, rfl, had, hs1⟩ := ae_sr_r hs0
        have had2 : ae_ad kA ws a0 = some (kA a0) := ae_ad_x (by rw [hhr.1]; exact hhr.2.1) ha
        have ead : ad = kA a0 := Option.some.inj (had.symm.trans had2)
        subst ead
        obtain ⟨j, rfl⟩ : ∃ j, a0 = 256 + j := ⟨a0 - 256, by omega⟩
        have hL2 : ae_exs[j]? = some L := by
          have e9 : Nat.sub (256 + j) 256 = j := Nat.add_sub_cancel_left 256 j
          rw [e9] at hL; exact hL
        have hx9 : ae_xr9 j = L := by unfold ae_xr9; rw [List.getD_eq_getElem?_getD, hL2]; rfl
        have hT := (hEX.1 j (by omega)).2
        rw [hx9] at hT
        have hi : i < L.length := (List.getElem?_eq_some_iff.mp hz).1
        have hlen : ∀ l ∈ ae_exs, l.length < 1000 ∧ ∀ z ∈ l, z < 4294967296 := by decide +kernel
        obtain ⟨hl1, hl2⟩ := hlen L (List.mem_of_getElem? hL2)
        refine va_ti hx hb hT hS (vp_in_nI hi (by omega)) (v := .int (nI z)) (by
          rw [nI_clamp (by omega), List.getD_eq_getElem?_getD, hz]; rfl) hd ?_
        exact hK _ _ _ _ _ _ hs ws H locs ls lvC _ hl hlr (ae_sr_c (ae_vr_i (hl2 z (List.mem_of_getElem? hz))) hs1) hhr hpx hP hD hS
      · cases hs
    · cases hs
  · cases hs
/-- what String.length and String.charAt do to a text that stands outside -/
def ae_Str (l : Launch) (D : va_G) (kA : Nat → ClassId) : Prop :=
  ∀ (p : Program) (e : Env) (s : State) (m : MethodId) (args : Array Value) (below : List Frame) (meth : Method) (c : Code) (Q : State → Prop) (A : Nat → Prop) (M : ae_M) (pc ce sl idx u v a : Nat) (L : List Nat) (H : Heap) (locs : List Loc) (ls : Array Slot) (restC : List Value),
    ae_Cx p s m args meth c D kA A M → 4 ≤ M.2.2.2.2.2.2.2.1 → ce ≤ M.2.2.2.2.2.2.2.2.2.1 → sl ≤ M.2.2.2.2.2.2.2.2.2.2 → 259 ≤ a → ae_xt a = some L → (restC.map fun v => v.category).sum + 60 ≤ M.2.2.2.2.2.2.2.2.1 → ls.size = M.2.2.2.1 → va_S A s.heap H locs → decode M.2.2.1 pc = .ok (.invokevirtual idx, 3) →
    (ae_cp M.1 idx = some (22, u, v) → W p l e (ae_room M) s m args below meth c H locs ce sl Q (F0 m (pc + 3) ls (.int (nI L.length) :: restC)) → W p l e (ae_room M) s m args below meth c H locs ce sl Q (F0 m pc ls (.ref (kA a) :: restC))) ∧
    (∀ i z, ae_nth L i = some z → ae_cp M.1 idx = some (23, u, v) → W p l e (ae_room M) s m args below meth c H locs ce sl Q (F0 m (pc + 3) ls (.int (nI z) :: restC)) → W p l e (ae_room M) s m args below meth c H locs ce sl Q (F0 m pc ls (.int (nI i) :: .ref (kA a) :: restC)))
theorem ae_xt_lt {a : Nat} {L : List Nat} (h : ae_xt a = some L) : L.length < 1000 ∧ ∀ z ∈ L, z < 4294967296 := by
  have hlen : ∀ l ∈ ae_exs, l.length < 1000 ∧ ∀ z ∈ l, z < 4294967296 := by decide +kernel
  unfold ae_xt at h
  obtain ⟨-, h⟩ := ae_cond h
  rw [ae_nth_eq] at h
  exact hlen L (List.mem_of_getElem? h)
theorem ae_strlen (hStr : ae_Str l D kA) (X : ae_Cx p s m args meth c D kA A M) (hR : R = ae_room M) {idx u v a : Nat} {L : List Nat} {rest : List ae_V} (hd : decode M.2.2.1 pc = .ok (.invokevirtual idx, 3)) (hc : ae_cp M.1 idx = some (22, u, v)) (hf : 4 ≤ M.2.2.2.2.2.2.2.1) (hce : ce ≤ M.2.2.2.2.2.2.2.2.2.1) (hsl : sl ≤ M.2.2.2.2.2.2.2.2.2.2) (hL : ae_xt a = some L) (ha : 259 ≤ a) (hlo : ae_catS rest + 60 ≤ M.2.2.2.2.2.2.2.2.1)
    (kk : ae_At p l e R s m args below meth c Q D kA A pre M.2.2.2.1 (pc + 3) ce sl lv (ae_i L.length :: rest) h) : ae_At p l e R s m args below meth c Q D kA A pre M.2.2.2.1 pc ce sl lv (.inr (.inr (some a)) :: rest) h := by
  intro ws H locs ls lvC stC hl hlr hsr hhr hpx hP hD hS
  obtain ⟨ad, xs, rfl, had, hs1⟩ := ae_sr_r hsr
  have ead : ad = kA a := Option.some.inj (had.symm.trans (ae_ad_x (by rw [hhr.1]; exact hhr.2.1) (by omega)))
  subst ead
  subst hR
  refine (hStr p e s m args below meth c Q A M pc ce sl idx u v a L H locs ls xs X hf hce hsl ha hL (by rw [ae_sr_cat hs1]; exact hlo) hl.1 hS hd).1 hc ?_
  exact kk ws H locs ls lvC _ hl hlr (ae_sr_c (ae_vr_i (by have := (ae_xt_lt hL).1; omega)) hs1) hhr hpx hP hD hS
theorem ae_strchr (hStr : ae_Str l D kA) (X : ae_Cx p s m args meth c D kA A M) (hR : R = ae_room M) {idx u v a i z : Nat} {L : List Nat} {rest : List ae_V} (hd : decode M.2.2.1 pc = .ok (.invokevirtual idx, 3)) (hc : ae_cp M.1 idx = some (23, u, v)) (hf : 4 ≤ M.2.2.2.2.2.2.2.1) (hce : ce ≤ M.2.2.2.2.2.2.2.2.2.1) (hsl : sl ≤ M.2.2.2.2.2.2.2.2.2.2) (hL : ae_xt a = some L) (hz : ae_nth L i = some z) (ha : 259 ≤ a) (hlo : ae_catS rest + 60 ≤ M.2.2.2.2.2.2.2.2.1)
    (kk : ae_At p l e R s m args below meth c Q D kA A pre M.2.2.2.1 (pc + 3) ce sl lv (ae_i z :: rest) h) : ae_At p l e R s m args below meth c Q D kA A pre M.2.2.2.1 pc ce sl lv (.inl (.inl i) :: .inr (.inr (some a)) :: rest) h := by
  intro ws H locs ls lvC stC hl hlr hsr hhr hpx hP hD hS
  obtain ⟨Y, xs0, rfl, ⟨rfl, hy⟩, hs0⟩ := ae_sr_i hsr
  obtain ⟨ad, xs, rfl, had, hs1⟩ := ae_sr_r hs0
  have ead : ad = kA a := Option.some.inj (had.symm.trans (ae_ad_x (by rw [hhr.1]; exact hhr.2.1) (by omega)))
  subst ead
  subst hR
  refine (hStr p e s m args below meth c Q A M pc ce sl idx u v a L H locs ls xs X hf hce hsl ha hL (by rw [ae_sr_cat hs1]; exact hlo) hl.1 hS hd).2 i z hz hc ?_
  exact kk ws H locs ls lvC _ hl hlr (ae_sr_c (ae_vr_i ((ae_xt_lt hL).2 z (by rw [ae_nth_eq] at hz; exact List.mem_of_getElem? hz))) hs1) hhr hpx hP hD hS
theorem ae_shr_lt {a b : Nat} (ha : a < 4294967296) : ae_shr a b < 4294967296 := by
  unfold ae_shr
  cases Nat.ble 2147483648 a with
  | true => show 4294967295 - _ < 4294967296; omega
  | false => exact Nat.lt_of_le_of_lt (Nat.shiftRight_le _ _) ha
theorem ae_b8_lt (z : Nat) : ae_b8 z < 4294967296 := by
  unfold ae_b8
  have : Nat.mod z 256 < 256 := Nat.mod_lt _ (by omega)
  cases Nat.ble 128 (Nat.mod z 256) with
  | true => show Nat.mod z 256 + 4294967040 < 4294967296; omega
  | false => show Nat.mod z 256 < 4294967296; omega
theorem ae_i2l_lt {a : Nat} (ha : a < 4294967296) : ae_i2l a < 18446744073709551616 := by
  unfold ae_i2l
  cases Nat.ble 2147483648 a with
  | true => show a + 18446744069414584320 < _; omega
  | false => show a < _; omega
theorem ae_lcmp_lt (a b : Nat) : ae_lcmp a b < 4294967296 := by
  unfold ae_lcmp
  cases Nat.beq (ae_lbs a) (ae_lbs b) <;> cases Nat.ble (ae_lbs a) (ae_lbs b) <;> decide
theorem ae_cf {α : Type} {P : Prop} {x : Option α} {r : α} (h : cond false x none = some r) : P := by cases h
theorem ae_tq0 {t : Nat} (h : ae_tq t 0 = true) : t = 0 := by
  unfold ae_tq at h
  rw [Bool.or_eq_true] at h
  rcases h with q | q
  · exact ae_beq q
  · exact absurd (ae_band q).1 (by decide)
theorem ae_tq1 {t : Nat} (h : ae_tq t 1 = true) : t = 1 ∨ t = 2 := by
  unfold ae_tq at h
  rw [Bool.or_eq_true] at h
  rcases h with q | q
  · exact Or.inl (ae_beq q)
  · exact Or.inr (ae_beq (ae_band q).2)
theorem ae_tq3 {t : Nat} (h : ae_tq t 3 = true) : t = 3 := by
  unfold ae_tq at h
  rw [Bool.or_eq_true] at h
  rcases h with q | q
  · exact ae_beq q
  · exact absurd (ae_band q).1 (by decide)
theorem ae_tq4 {t : Nat} (h : ae_tq t 4 = true) : t = 4 := by
  unfold ae_tq at h
  rw [Bool.or_eq_true] at h
  rcases h with q | q
  · exact ae_beq q
  · exact absurd (ae_band q).1 (by decide)
theorem ae_mk_ok {n : Nat} {c0 : ae_C} {K0 : Nat → Nat → ae_V → ae_H → Option ae_R} (hs : ae_mk M ce sl n h c0 K0 = some r) : h.1 < 256 ∧ ce + 1 ≤ M.2.2.2.2.2.2.2.2.2.1 ∧ sl + n ≤ M.2.2.2.2.2.2.2.2.2.2 ∧ K0 (ce + 1) (sl + n) (.inr (.inr (some h.1))) (ae_hp h c0) = some r := by
  unfold ae_mk at hs
  replace hs := ae_cond hs; obtain ⟨q0, hs⟩ := hs
  obtain ⟨q1, q2⟩ := ae_band q0
  obtain ⟨q2, q3⟩ := ae_band q2
  rw [ae_f_eq, ae_f_eq, ae_f_eq] at hs
  exact ⟨ae_blt q1, ae_ble q2, ae_ble q3, hs⟩
theorem ae_nest2 {own idx mj z vir : Nat} {N : ae_M} (hc : ae_cp own idx = some (2, mj, z)) (hN : ae_m mj = some N) (q1 : N.2.2.2.2.2.1 = vir) : vir = 2 := by
  have h2 : (match ae_m mj with
    | some N => Nat.beq N.2.2.2.2.2.1 2
    | none => false) = true := (ae_cp_ok hc).2
  rw [hN] at h2
  rw [← q1]
  exact ae_beq h2
theorem ae_im_ok {ad : Nat → Option Nat} {stC : List Value} {K0 : List ae_V → Option ae_R} (hs : ae_im st K0 = some r) (hsr : ae_sr ad st stC) : ∃ (x y : Int32) (restC : List Value) (st' : List ae_V), stC = .int y :: .int x :: restC ∧ K0 st' = some r ∧ ae_sr ad st' (.int (x * y) :: restC) := by
  unfold ae_im at hs
  split at hs
  · next y g rest =>
    obtain ⟨Y, xs1, rfl, ⟨rfl, hy⟩, hs1⟩ := ae_sr_i hsr
    obtain ⟨Z, xs2, rfl, hz, hs2⟩ := ae_sr_i hs1
    cases hq : and (Nat.ble 2147483648 g.1) (and (Nat.ble g.2 4294967295) (Nat.blt (Nat.mul (Nat.sub g.2 2147483648) y) 2147483648)) with
    | false => rw [hq, cond_false] at hs; exact ⟨Z, nI y, xs2, _, rfl, hs, ae_sr_c (ae_vr_top _) hs2⟩
    | true =>
      rw [hq, cond_true] at hs
      obtain ⟨q1, q2⟩ := ae_band hq
      obtain ⟨q2, q3⟩ := ae_band q2
      have q1 := ae_ble q1
      have q2 := ae_ble q2
      have q3 : (g.2 - 2147483648) * y < 2147483648 := ae_blt q3
      obtain ⟨z1, z2⟩ := hz
      obtain ⟨k, hk⟩ : ∃ k, ae_bi Z = 2147483648 + k := ⟨ae_bi Z - 2147483648, by omega⟩
      have hkl : k ≤ g.2 - 2147483648 := by omega
      have hkg : g.1 - 2147483648 ≤ k := by omega
      have m1 : k * y ≤ (g.2 - 2147483648) * y := Nat.mul_le_mul_right y hkl
      have m2 : (g.1 - 2147483648) * y ≤ k * y := Nat.mul_le_mul_right y hkg
      have hZ : Z = nI k := ae_bi_inj (by
        rw [hk, ae_bi_nI]
        show _ = (k + 2147483648) % 4294967296
        omega)
      have hb9 : ae_bi (nI k * nI y) = 2147483648 + k * y := by
        rw [pk_mul, ae_bi_nI]
        show (k * y + 2147483648) % 4294967296 = _
        omega
      refine ⟨Z, nI y, xs2, _, rfl, hs, ae_sr_c ⟨_, rfl, ?_⟩ hs2⟩
      rw [hZ]
      show 2147483648 + (g.1 - 2147483648) * y ≤ ae_bi (nI k * nI y) ∧ ae_bi (nI k * nI y) ≤ 2147483648 + (g.2 - 2147483648) * y
      rw [hb9]
      omega
  · exact ae_ii_ok (op := fun a b => a * b) (fun a b ha9 hb9 => ⟨ae_mul_ok a b, Nat.mod_lt _ (by omega)⟩) hs hsr
theorem ae_call_ok (hStr : ae_Str l D kA) (X : ae_Cx p s m args meth c D kA A M) (hR : R = ae_room M) {vir idx : Nat} (hd : decode M.2.2.1 pc = .ok (match vir with | 0 => .invokestatic idx | 1 => .invokevirtual idx | _ => .invokespecial idx, 3)) (hv : vir ≤ 2)
    (hK : ∀ (pc ce sl : Nat) (lv : ae_L) (st : List ae_V) (h : ae_H), K pc ce sl lv st h = some r → ae_At p l e R s m args below meth c Q D kA A pre M.2.2.2.1 pc ce sl lv st h)
    (hC : ∀ (mj : Nat) (as : List ae_V) (h : ae_H) (r2 : ae_R), C mj as h = some r2 → ae_Mt l D kA mj as h r2)
    (hs : ae_call M vir idx pc ce sl lv st h K C = some r) : ae_At p l e R s m args below meth c Q D kA A pre M.2.2.2.1 pc ce sl lv st h := by
  unfold ae_call at hs
  have main : ∀ kd mj z, (kd = 1 ∨ kd = 2) → ae_cp M.1 idx = some (kd, mj, z) → (match ae_m mj with
    | some N => cond (and (Nat.beq N.2.2.2.2.2.1 vir) (and (Nat.blt N.2.2.2.2.2.2.2.1 M.2.2.2.2.2.2.2.1) (and (Nat.ble (Nat.add (Nat.add 19 N.2.2.2.1) N.2.2.2.2.2.2.2.2.1) M.2.2.2.2.2.2.2.2.1) (and (Nat.ble (Nat.add ce N.2.2.2.2.2.2.2.2.2.1) M.2.2.2.2.2.2.2.2.2.1) (Nat.ble (Nat.add sl N.2.2.2.2.2.2.2.2.2.2) M.2.2.2.2.2.2.2.2.2.2))))) (match ae_pop (cond (Nat.beq vir 0) N.2.2.2.2.2.2.1 (Nat.succ N.2.2.2.2.2.2.1)) [] st with
      | some (as, rest) => cond (and (and (Nat.ble (ae_catS rest) 8) (Nat.ble (ae_catS as) N.2.2.2.1)) (ae_rcv vir as h N.1)) (match C mj as h with
        | some (some v, h2) => ae_f (Nat.add ce N.2.2.2.2.2.2.2.2.2.1) fun ce2 => ae_f (Nat.add sl N.2.2.2.2.2.2.2.2.2.2) fun sl2 => K (Nat.add pc 3) ce2 sl2 lv (v :: rest) h2
        | some (none, h2) => ae_f (Nat.add ce N.2.2.2.2.2.2.2.2.2.1) fun ce2 => ae_f (Nat.add sl N.2.2.2.2.2.2.2.2.2.2) fun sl2 => K (Nat.add pc 3) ce2 sl2 lv rest h2
        | none => none) none
      | none => none) none
    | none => none) = some r → ae_At p l e R s m args below meth c Q D kA A pre M.2.2.2.1 pc ce sl lv st h := by
    intro kd mj z hkd hc hs
    split at hs
    · next N hN =>
      replace hs := ae_cond hs; obtain ⟨q0, hs⟩ := hs
      obtain ⟨q1, q0⟩ := ae_band q0
      obtain ⟨q2, q0⟩ := ae_band q0
      obtain ⟨q3, q0⟩ := ae_band q0
      obtain ⟨q4, q5⟩ := ae_band q0
      have q1 := ae_beq q1
      have q2 := ae_blt q2
      have q3 : 19 + N.2.2.2.1 + N.2.2.2.2.2.2.2.2.1 ≤ M.2.2.2.2.2.2.2.2.1 := ae_ble q3
      have q4 : ce + N.2.2.2.2.2.2.2.2.2.1 ≤ M.2.2.2.2.2.2.2.2.2.1 := ae_ble q4
      have q5 : sl + N.2.2.2.2.2.2.2.2.2.2 ≤ M.2.2.2.2.2.2.2.2.2.2 := ae_ble q5
      have hkd2 : kd = 1 ∨ kd = 2 ∧ vir = 2 := by
        rcases hkd with q | q
        · exact Or.inl q
        · refine Or.inr ⟨q, ?_⟩
          subst q
          exact ae_nest2 hc hN q1
      split at hs
      · next as rest hp =>
        replace hs := ae_cond hs; obtain ⟨q6, hs⟩ := hs
        obtain ⟨q6, q8⟩ := ae_band q6
        obtain ⟨q6, q7⟩ := ae_band q6
        have q6 := ae_ble q6
        have q7 := ae_ble q7
        split at hs
        · next v h2 hr2 =>
          rw [ae_f_eq, ae_f_eq] at hs
          exact ae_callM X hR hd hv hc hkd2 hN q1 q2 q3 q4 q5 hp q6 q7 q8 (hC _ _ _ _ hr2) (hK _ _ _ _ _ _ hs)
        · next h2 hr2 =>
          rw [ae_f_eq, ae_f_eq] at hs
          exact ae_callM X hR hd hv hc hkd2 hN q1 q2 q3 q4 q5 hp q6 q7 q8 (hC _ _ _ _ hr2) (hK _ _ _ _ _ _ hs)
        · cases hs
      · cases hs
    · cases hs
  split at hs
  · next mj z hc => exact main 1 mj z (Or.inl rfl) hc hs
  · next mj z hc => exact main 2 mj z (Or.inr rfl) hc hs
  · next x y hc =>
    replace hs := ae_cond hs; obtain ⟨q0, hs⟩ := hs
    obtain ⟨q1, q2⟩ := ae_band q0
    have q1 := ae_beq q1
    subst q1
    split at hs
    · next k rest =>
      replace hs := ae_cond hs; obtain ⟨q3, hs⟩ := hs
      exact ae_objI X hR hd hc (ae_ble q2) (ae_ble q3) (hK _ _ _ _ _ _ hs)
    · cases hs
  · next x y hc =>
    replace hs := ae_cond hs; obtain ⟨q0, hs⟩ := hs
    obtain ⟨q1, q2⟩ := ae_band q0
    obtain ⟨q2, q3⟩ := ae_band q2
    have q1 := ae_beq q1
    subst q1
    unfold ae_cpy at hs
    split at hs
    · next n dp d sp sr rest =>
      split at hs
      · next t n0 B0 t1 n1 B hg0 hg1 =>
        replace hs := ae_cond hs; obtain ⟨g0, hs⟩ := hs
        obtain ⟨g1, g0⟩ := ae_band g0
        obtain ⟨g2, g0⟩ := ae_band g0
        obtain ⟨g3, g0⟩ := ae_band g0
        obtain ⟨g4, g0⟩ := ae_band g0
        obtain ⟨g5, g6⟩ := ae_band g0
        have g2 := ae_beq g2
        subst g2
        rw [ae_f_eq] at hs
        replace hs := ae_cond hs; obtain ⟨g8, hs⟩ := hs
        exact ae_copy X hR hd hc (ae_ble q2) (ae_ble q3) (ae_ble g8) (ae_ble g1) hg0 hg1 (ae_ble g3) (ae_ble g4) (ae_blt g5) (ae_blt g6) (hK _ _ _ _ _ _ hs)
      · cases hs
    · cases hs
  · next x y hc =>
    replace hs := ae_cond hs; obtain ⟨q0, hs⟩ := hs
    obtain ⟨q1, q2⟩ := ae_band q0
    obtain ⟨q2, q3⟩ := ae_band q2
    obtain ⟨q3, q4⟩ := ae_band q3
    have q1 := ae_beq q1
    subst q1
    split at hs
    · replace hs := ae_cond hs; obtain ⟨q5, hs⟩ := hs
      exact ae_max X hR hd hc (ae_ble q2) (ae_ble q3) (ae_ble q4) (ae_ble q5) (hK _ _ _ _ _ _ hs)
    · cases hs
  · next x y hc =>
    replace hs := ae_cond hs; obtain ⟨q0, hs⟩ := hs
    obtain ⟨q1, q2⟩ := ae_band q0
    obtain ⟨q2, q3⟩ := ae_band q2
    obtain ⟨q3, q4⟩ := ae_band q3
    have q1 := ae_beq q1
    subst q1
    split at hs
    · replace hs := ae_cond hs; obtain ⟨q5, hs⟩ := hs
      exact ae_abs X hR hd hc (ae_ble q2) (ae_ble q3) (ae_ble q4) (ae_ble q5) (hK _ _ _ _ _ _ hs)
    · cases hs
  · next x y hc =>
    replace hs := ae_cond hs; obtain ⟨q0, hs⟩ := hs
    obtain ⟨q1, q2⟩ := ae_band q0
    obtain ⟨q2, q3⟩ := ae_band q2
    obtain ⟨q3, q4⟩ := ae_band q3
    have q1 := ae_beq q1
    subst q1
    split at hs
    · next a rest =>
      split at hs
      · next l hl =>
        replace hs := ae_cond hs; obtain ⟨q5, hs⟩ := hs
        obtain ⟨q5, q6⟩ := ae_band q5
        exact ae_strlen hStr X hR hd hc (ae_ble q2) (ae_ble q3) (ae_ble q4) hl (ae_ble q5) (ae_ble q6) (hK _ _ _ _ _ _ hs)
      · cases hs
    · cases hs
  · next x y hc =>
    replace hs := ae_cond hs; obtain ⟨q0, hs⟩ := hs
    obtain ⟨q1, q2⟩ := ae_band q0
    obtain ⟨q2, q3⟩ := ae_band q2
    obtain ⟨q3, q4⟩ := ae_band q3
    have q1 := ae_beq q1
    subst q1
    split at hs
    · next i a rest =>
      split at hs
      · next l hl =>
        split at hs
        · next z hz =>
          replace hs := ae_cond hs; obtain ⟨q5, hs⟩ := hs
          obtain ⟨q5, q6⟩ := ae_band q5
          exact ae_strchr hStr X hR hd hc (ae_ble q2) (ae_ble q3) (ae_ble q4) hl hz (ae_ble q5) (ae_ble q6) (hK _ _ _ _ _ _ hs)
        · cases hs
      · cases hs
    · cases hs
  · next x y hc =>
    replace hs := ae_cond hs; obtain ⟨q0, hs⟩ := hs
    obtain ⟨q1, q2⟩ := ae_band q0
    obtain ⟨q2, q3⟩ := ae_band q2
    obtain ⟨q3, q4⟩ := ae_band q3
    have q1 := ae_beq q1
    subst q1
    split at hs
    · replace hs := ae_cond hs; obtain ⟨q5, hs⟩ := hs
      exact ae_min X hR hd hc (ae_ble q2) (ae_ble q3) (ae_ble q4) (ae_ble q5) (hK _ _ _ _ _ _ hs)
    · cases hs
  · cases hs
theorem ae_iald (X0 : ae_Cx p s m args meth c D kA A M) (hd : decode M.2.2.1 pc = .ok (.iaload, 1))
    (hK : ∀ (pc ce sl : Nat) (lv : ae_L) (st : List ae_V) (h : ae_H), K pc ce sl lv st h = some r → ae_At p l e R s m args below meth c Q D kA A pre M.2.2.2.1 pc ce sl lv st h)
    (hs : ae_ald 0 st h (fun st => K (Nat.add pc 1) ce sl lv st h) = some r) : ae_At p l e R s m args below meth c Q D kA A pre M.2.2.2.1 pc ce sl lv st h := by
  unfold ae_ald at hs
  split at hs
  · next ix a rest =>
    split at hs
    · next t n x hg =>
      replace hs := ae_cond hs; obtain ⟨q0, hs⟩ := hs
      obtain ⟨qt, qi⟩ := ae_band q0
      have hi := (Or.inl ⟨rfl, ae_tq0 qt⟩ : (Instr.iaload = .iaload ∧ t = 0) ∨ (Instr.iaload = .baload ∧ (t = 1 ∨ t = 2)))
      split at hs
      · next B j =>
        have hs : ae_f (ae_rd 32 B j) (fun z => K (Nat.add pc 1) ce sl lv (ae_i z :: rest) h) = some r := hs
        rw [ae_f_eq] at hs
        refine ae_ldI X0 hd (hi) hg qi (fun ad f Y hf hY hiY => ?_) (hK _ _ _ _ _ _ hs)
        obtain ⟨-, -, hj⟩ := ae_in_ok qi hiY
        obtain ⟨e1, e2⟩ := hj j rfl
        rw [e1, hf B rfl j e2]
        exact ae_vr_i (ae_rd_lt 32 B j)
      · split at hs
        · exact ae_cf hs
        · cases hs
      · next B g =>
        replace hs := ae_cond hs; obtain ⟨-, hs⟩ := hs
        cases hB : Nat.beq B 0 with
        | true =>
          rw [hB] at hs
          refine ae_ldI X0 hd (hi) hg qi (fun ad f Y hf hY hiY => ?_) (hK _ _ _ _ _ _ hs)
          obtain ⟨j, hj, rfl⟩ := vp_in_of hY (ae_in_ok qi hiY).2.1
          rw [nI_clamp (Nat.lt_trans hj (ae_in_ok qi hiY).2.1), hf B rfl j hj, ae_beq hB, ae_rd0]
          exact ae_vr_i (by omega)
        | false =>
          rw [hB] at hs
          exact ae_ldI X0 hd (hi) hg qi (fun ad f Y hf hY hiY => ae_vr_top _) (hK _ _ _ _ _ _ hs)
      · replace hs := ae_cond hs; obtain ⟨-, hs⟩ := hs
        exact ae_ldI X0 hd (hi) hg qi (fun ad f Y hf hY hiY => ae_vr_top _) (hK _ _ _ _ _ _ hs)
      · cases hs
    · cases hs
  · cases hs
/-- one instruction -/
theorem ae_step_ok (hStr : ae_Str l D kA) (X : ae_Cx p s m args meth c D kA A M) (hR : R = ae_room M) (hQ : (r.1 = none ∧ M.2.2.2.2.1 ≠ none) ∨ Q = MQ below (ae_Qc D kA A pre r) args s M.2.2.2.2.2.2.2.2.2.1 M.2.2.2.2.2.2.2.2.2.2 A) {i : Instr} {len : Nat} (hd : decode M.2.2.1 pc = .ok (i, ae_ln i len))
    (hK : ∀ (pc ce sl : Nat) (lv : ae_L) (st : List ae_V) (h : ae_H), K pc ce sl lv st h = some r → ae_At p l e R s m args below meth c Q D kA A pre M.2.2.2.1 pc ce sl lv st h)
    (hC : ∀ (mj : Nat) (as : List ae_V) (h : ae_H) (r2 : ae_R), C mj as h = some r2 → ae_Mt l D kA mj as h r2)
    (hs : ae_step i M pc ce sl lv st h K C = some r) : ae_At p l e R s m args below meth c Q D kA A pre M.2.2.2.1 pc ce sl lv st h := by
  have X0 := X
  obtain ⟨hx, hb, hml, hown, hts, hKK, hA, hin, hrt, hlocks, hEX⟩ := X
  cases i with
  | iconst n =>
    unfold ae_step at hs; (try dsimp only at hs)
    obtain ⟨h1, h2⟩ := ae_cond hs
    rw [ae_f_eq] at h2
    obtain ⟨q1, q2⟩ := ae_band h1
    have q1 := of_decide_eq_true q1
    have q2 := of_decide_eq_true q2
    intro ws H locs ls lvC stC hl hlr hsr hhr hpx hP hD hS
    refine lv_iconst (v := nI (ae_u n)) hx hb hd (ae_u_ok n (by omega) (by omega)) ?_
    exact hK _ _ _ _ _ _ h2 ws H locs ls lvC _ hl hlr (ae_sr_c (ae_vr_i (ae_u_lt (b := 5) (by omega) (by omega) (by omega))) hsr) hhr hpx hP hD hS
  | bipush n =>
    unfold ae_step at hs; (try dsimp only at hs)
    obtain ⟨h1, h2⟩ := ae_cond hs
    rw [ae_f_eq] at h2
    obtain ⟨q1, q2⟩ := ae_band h1
    have q1 := of_decide_eq_true q1
    have q2 := of_decide_eq_true q2
    intro ws H locs ls lvC stC hl hlr hsr hhr hpx hP hD hS
    refine lv_bipush (v := nI (ae_u n)) hx hb hd (ae_ub8 n (by omega) (by omega)) ?_
    exact hK _ _ _ _ _ _ h2 ws H locs ls lvC _ hl hlr (ae_sr_c (ae_vr_i (ae_u_lt (b := 128) (by omega) (by omega) (by omega))) hsr) hhr hpx hP hD hS
  | sipush n =>
    unfold ae_step at hs; (try dsimp only at hs)
    obtain ⟨h1, h2⟩ := ae_cond hs
    rw [ae_f_eq] at h2
    obtain ⟨q1, q2⟩ := ae_band h1
    have q1 := of_decide_eq_true q1
    have q2 := of_decide_eq_true q2
    intro ws H locs ls lvC stC hl hlr hsr hhr hpx hP hD hS
    refine lv_sipush (v := nI (ae_u n)) hx hb hd (ae_ub16 n (by omega) (by omega)) ?_
    exact hK _ _ _ _ _ _ h2 ws H locs ls lvC _ hl hlr (ae_sr_c (ae_vr_i (ae_u_lt (b := 32768) (by omega) (by omega) (by omega))) hsr) hhr hpx hP hD hS
  | lconst n =>
    unfold ae_step at hs; (try dsimp only at hs)
    intro ws H locs ls lvC stC hl hlr hsr hhr hpx hP hD hS
    refine lv_lconst (v := lN n.val) hx hb hd rfl ?_
    exact hK _ _ _ _ _ _ hs ws H locs ls lvC _ hl hlr (ae_sr_c (ae_vr_j (by have := n.isLt; omega)) hsr) hhr hpx hP hD hS
  | aconst_null =>
    unfold ae_step at hs; (try dsimp only at hs)
    intro ws H locs ls lvC stC hl hlr hsr hhr hpx hP hD hS
    refine lv_null hx hb hd ?_
    exact hK _ _ _ _ _ _ hs ws H locs ls lvC _ hl hlr (ae_sr_c rfl hsr) hhr hpx hP hD hS
  | ldc idx =>
    unfold ae_step at hs; (try dsimp only at hs)
    split at hs
    · next n z hc =>
      intro ws H locs ls lvC stC hl hlr hsr hhr hpx hP hD hS
      obtain ⟨w1, w2⟩ := ae_cp_ok hc
      have w1 : Jvm.Cond.constant (ae_on M.1) idx (nI n) ∈ lw_tbl := w1
      have w2 : Nat.blt n 4294967296 = true := w2
      refine lv_ldc hx hb hown (hts _ (ae_gw_in w1 rfl)) hd ?_
      exact hK _ _ _ _ _ _ hs ws H locs ls lvC _ hl hlr (ae_sr_c (ae_vr_i (ae_blt w2)) hsr) hhr hpx hP hD hS
    · next j z hc => exact ae_ldcs X0 hd hc (hK _ _ _ _ _ _ hs)
    · cases hs
  | ldc_w idx =>
    unfold ae_step at hs; (try dsimp only at hs)
    split at hs
    · next n z hc =>
      intro ws H locs ls lvC stC hl hlr hsr hhr hpx hP hD hS
      obtain ⟨w1, w2⟩ := ae_cp_ok hc
      have w1 : Jvm.Cond.constant (ae_on M.1) idx (nI n) ∈ lw_tbl := w1
      have w2 : Nat.blt n 4294967296 = true := w2
      refine lv_ldcw hx hb hown (hts _ (ae_gw_in w1 rfl)) hd ?_
      exact hK _ _ _ _ _ _ hs ws H locs ls lvC _ hl hlr (ae_sr_c (ae_vr_i (ae_blt w2)) hsr) hhr hpx hP hD hS
    · cases hs
  | ldc2_w idx =>
    unfold ae_step at hs; (try dsimp only at hs)
    split at hs
    · next n z hc =>
      intro ws H locs ls lvC stC hl hlr hsr hhr hpx hP hD hS
      obtain ⟨w1, w2⟩ := ae_cp_ok hc
      have w1 : Jvm.Cond.constantLong (ae_on M.1) idx (lN n) ∈ lw_tbl := w1
      have w2 : Nat.blt n 18446744073709551616 = true := w2
      refine W.ldc2 hx hb hown (hts _ (ae_gw_in w1 rfl)) rfl hd ?_
      exact hK _ _ _ _ _ _ hs ws H locs ls lvC _ hl hlr (ae_sr_c (ae_vr_j (ae_blt w2)) hsr) hhr hpx hP hD hS
    · cases hs
  | iload_n k =>
    unfold ae_step at hs; (try dsimp only at hs)
    intro ws H locs ls lvC stC hl hlr hsr hhr hpx hP hD hS
    obtain ⟨x, q, y, h2, g1, g2⟩ := ae_iload_ok hs hlr
    refine lv_iload_n hx hb hd rfl (lv_at hl q g1) ?_
    exact hK _ _ _ _ _ _ h2 ws H locs ls lvC _ hl hlr (ae_sr_c ⟨y, rfl, g2⟩ hsr) hhr hpx hP hD hS
  | iload k =>
    unfold ae_step at hs; (try dsimp only at hs)
    intro ws H locs ls lvC stC hl hlr hsr hhr hpx hP hD hS
    obtain ⟨x, q, y, h2, g1, g2⟩ := ae_iload_ok hs hlr
    refine lv_iload hx hb hd (lv_at hl q g1) ?_
    exact hK _ _ _ _ _ _ h2 ws H locs ls lvC _ hl hlr (ae_sr_c ⟨y, rfl, g2⟩ hsr) hhr hpx hP hD hS
  | lload_n k =>
    unfold ae_step at hs; (try dsimp only at hs)
    intro ws H locs ls lvC stC hl hlr hsr hhr hpx hP hD hS
    obtain ⟨x, q, h2, g1, g2⟩ := ae_lload_ok hs hlr
    refine lv_lload_n hx hb hd rfl (lv_at hl q g1) ?_
    exact hK _ _ _ _ _ _ h2 ws H locs ls lvC _ hl hlr (ae_sr_c ⟨rfl, g2⟩ hsr) hhr hpx hP hD hS
  | lload k =>
    unfold ae_step at hs; (try dsimp only at hs)
    intro ws H locs ls lvC stC hl hlr hsr hhr hpx hP hD hS
    obtain ⟨x, q, h2, g1, g2⟩ := ae_lload_ok hs hlr
    refine lv_lload hx hb hd (lv_at hl q g1) ?_
    exact hK _ _ _ _ _ _ h2 ws H locs ls lvC _ hl hlr (ae_sr_c ⟨rfl, g2⟩ hsr) hhr hpx hP hD hS
  | aload_n k =>
    unfold ae_step at hs; (try dsimp only at hs)
    intro ws H locs ls lvC stC hl hlr hsr hhr hpx hP hD hS
    rcases ae_aload_ok hs hlr with ⟨h2, q, g1⟩ | ⟨n, q, a, h2, g1, g2⟩
    · refine lv_aload_nN hx hb hd rfl (lv_at hl q g1) ?_
      exact hK _ _ _ _ _ _ h2 ws H locs ls lvC _ hl hlr (ae_sr_c rfl hsr) hhr hpx hP hD hS
    · refine lv_aload_n hx hb hd rfl (lv_at hl q g1) ?_
      exact hK _ _ _ _ _ _ h2 ws H locs ls lvC _ hl hlr (ae_sr_c ⟨a, g2, rfl⟩ hsr) hhr hpx hP hD hS
  | aload k =>
    unfold ae_step at hs; (try dsimp only at hs)
    intro ws H locs ls lvC stC hl hlr hsr hhr hpx hP hD hS
    rcases ae_aload_ok hs hlr with ⟨h2, q, g1⟩ | ⟨n, q, a, h2, g1, g2⟩
    · refine lv_aloadN hx hb hd (lv_at hl q g1) ?_
      exact hK _ _ _ _ _ _ h2 ws H locs ls lvC _ hl hlr (ae_sr_c rfl hsr) hhr hpx hP hD hS
    · refine lv_aload hx hb hd (lv_at hl q g1) ?_
      exact hK _ _ _ _ _ _ h2 ws H locs ls lvC _ hl hlr (ae_sr_c ⟨a, g2, rfl⟩ hsr) hhr hpx hP hD hS
  | istore_n k =>
    unfold ae_step at hs; (try dsimp only at hs)
    unfold ae_store at hs
    replace hs := ae_cond hs; obtain ⟨q1, hs⟩ := hs
    have q1 := ae_blt q1
    split at hs
    · replace hs := ae_cond hs; obtain ⟨-, hs⟩ := hs
      intro ws H locs ls lvC stC hl hlr hsr hhr hpx hP hD hS
      obtain ⟨y, xs, rfl, hy, hs1⟩ := ae_sr_i hsr
      refine lv_istore_n hx hb hd rfl hl q1 rfl (fun ls2 hl2 => ?_)
      exact hK _ _ _ _ _ _ hs ws H locs ls2 _ _ hl2 (ae_lr_st1 hlr _ ⟨y, rfl, hy⟩) hs1 hhr hpx hP hD hS
    · replace hs := ae_cond hs; obtain ⟨q2, hs⟩ := hs
      cases q2
    · replace hs := ae_cond hs; obtain ⟨q2, hs⟩ := hs
      cases q2
    · cases hs
  | istore k =>
    unfold ae_step at hs; (try dsimp only at hs)
    unfold ae_store at hs
    replace hs := ae_cond hs; obtain ⟨q1, hs⟩ := hs
    have q1 := ae_blt q1
    split at hs
    · replace hs := ae_cond hs; obtain ⟨-, hs⟩ := hs
      intro ws H locs ls lvC stC hl hlr hsr hhr hpx hP hD hS
      obtain ⟨y, xs, rfl, hy, hs1⟩ := ae_sr_i hsr
      refine lv_istore hx hb hd hl q1 rfl (fun ls2 hl2 => ?_)
      exact hK _ _ _ _ _ _ hs ws H locs ls2 _ _ hl2 (ae_lr_st1 hlr _ ⟨y, rfl, hy⟩) hs1 hhr hpx hP hD hS
    · replace hs := ae_cond hs; obtain ⟨q2, hs⟩ := hs
      cases q2
    · replace hs := ae_cond hs; obtain ⟨q2, hs⟩ := hs
      cases q2
    · cases hs
  | lstore_n k =>
    unfold ae_step at hs; (try dsimp only at hs)
    unfold ae_store at hs
    replace hs := ae_cond hs; obtain ⟨q1, hs⟩ := hs
    have q1 := ae_blt q1
    split at hs
    · replace hs := ae_cond hs; obtain ⟨q2, hs⟩ := hs
      cases q2
    · replace hs := ae_cond hs; obtain ⟨q2, hs⟩ := hs
      cases q2
    · replace hs := ae_cond hs; obtain ⟨-, hs⟩ := hs
      replace hs := ae_cond hs; obtain ⟨q3, hs⟩ := hs
      have q3 := ae_blt q3
      intro ws H locs ls lvC stC hl hlr hsr hhr hpx hP hD hS
      obtain ⟨xs, rfl, hy, hs1⟩ := ae_sr_l hsr
      refine lv_lstore_n hx hb hd rfl hl q3 rfl (fun ls2 hl2 => ?_)
      exact hK _ _ _ _ _ _ hs ws H locs ls2 _ _ hl2 (ae_lr_st2 hlr _ ⟨rfl, hy⟩) hs1 hhr hpx hP hD hS
    · cases hs
  | lstore k =>
    unfold ae_step at hs; (try dsimp only at hs)
    unfold ae_store at hs
    replace hs := ae_cond hs; obtain ⟨q1, hs⟩ := hs
    have q1 := ae_blt q1
    split at hs
    · replace hs := ae_cond hs; obtain ⟨q2, hs⟩ := hs
      cases q2
    · replace hs := ae_cond hs; obtain ⟨q2, hs⟩ := hs
      cases q2
    · replace hs := ae_cond hs; obtain ⟨-, hs⟩ := hs
      replace hs := ae_cond hs; obtain ⟨q3, hs⟩ := hs
      have q3 := ae_blt q3
      intro ws H locs ls lvC stC hl hlr hsr hhr hpx hP hD hS
      obtain ⟨xs, rfl, hy, hs1⟩ := ae_sr_l hsr
      refine lv_lstore hx hb hd hl q3 rfl (fun ls2 hl2 => ?_)
      exact hK _ _ _ _ _ _ hs ws H locs ls2 _ _ hl2 (ae_lr_st2 hlr _ ⟨rfl, hy⟩) hs1 hhr hpx hP hD hS
    · cases hs
  | astore_n k =>
    unfold ae_step at hs; (try dsimp only at hs)
    unfold ae_store at hs
    replace hs := ae_cond hs; obtain ⟨q1, hs⟩ := hs
    have q1 := ae_blt q1
    split at hs
    · replace hs := ae_cond hs; obtain ⟨q2, hs⟩ := hs
      cases q2
    · next x rest =>
      replace hs := ae_cond hs; obtain ⟨-, hs⟩ := hs
      intro ws H locs ls lvC stC hl hlr hsr hhr hpx hP hD hS
      cases x with
      | none =>
        obtain ⟨xs, rfl, hs1⟩ := ae_sr_n hsr
        refine lv_astore_nN hx hb hd rfl hl q1 rfl (fun ls2 hl2 => ?_)
        exact hK _ _ _ _ _ _ hs ws H locs ls2 _ _ hl2 (ae_lr_st1 hlr _ rfl) hs1 hhr hpx hP hD hS
      | some n =>
        obtain ⟨a, xs, rfl, had, hs1⟩ := ae_sr_r hsr
        refine lv_astore_n hx hb hd rfl hl q1 rfl (fun ls2 hl2 => ?_)
        exact hK _ _ _ _ _ _ hs ws H locs ls2 _ _ hl2 (ae_lr_st1 hlr _ ⟨a, had, rfl⟩) hs1 hhr hpx hP hD hS
    · replace hs := ae_cond hs; obtain ⟨q2, hs⟩ := hs
      cases q2
    · cases hs
  | astore k =>
    unfold ae_step at hs; (try dsimp only at hs)
    unfold ae_store at hs
    replace hs := ae_cond hs; obtain ⟨q1, hs⟩ := hs
    have q1 := ae_blt q1
    split at hs
    · replace hs := ae_cond hs; obtain ⟨q2, hs⟩ := hs
      cases q2
    · next x rest =>
      replace hs := ae_cond hs; obtain ⟨-, hs⟩ := hs
      intro ws H locs ls lvC stC hl hlr hsr hhr hpx hP hD hS
      cases x with
      | none =>
        obtain ⟨xs, rfl, hs1⟩ := ae_sr_n hsr
        refine lv_astoreN hx hb hd hl q1 rfl (fun ls2 hl2 => ?_)
        exact hK _ _ _ _ _ _ hs ws H locs ls2 _ _ hl2 (ae_lr_st1 hlr _ rfl) hs1 hhr hpx hP hD hS
      | some n =>
        obtain ⟨a, xs, rfl, had, hs1⟩ := ae_sr_r hsr
        refine lv_astore hx hb hd hl q1 rfl (fun ls2 hl2 => ?_)
        exact hK _ _ _ _ _ _ hs ws H locs ls2 _ _ hl2 (ae_lr_st1 hlr _ ⟨a, had, rfl⟩) hs1 hhr hpx hP hD hS
    · replace hs := ae_cond hs; obtain ⟨q2, hs⟩ := hs
      cases q2
    · cases hs
  | iinc k n =>
    unfold ae_step at hs; (try dsimp only at hs)
    replace hs := ae_cond hs; obtain ⟨q0, hs⟩ := hs
    obtain ⟨q1, q2⟩ := ae_band q0
    obtain ⟨q2, q3⟩ := ae_band q2
    have q1 := ae_blt q1
    have q2 := of_decide_eq_true q2
    have q3 := of_decide_eq_true q3
    intro ws H locs ls lvC stC hl hlr hsr hhr hpx hP hD hS
    obtain ⟨x, q, y, h2, g1, g2⟩ := ae_iload_ok hs hlr
    refine lv_iinc (v := y + Int32.ofInt n) hx hb hd hl g1 rfl q1 rfl (fun ls2 hl2 => ?_)
    split at h2
    · next z hz =>
      cases hz
      rw [ae_f_eq] at h2
      obtain ⟨rfl, hz⟩ := g2
      have e1 : nI z + Int32.ofInt n = nI (ae_add z (ae_u n)) := by rw [ae_u_ok n (by omega) (by omega), ae_add_ok]
      exact hK _ _ _ _ _ _ h2 ws H locs ls2 _ _ hl2 (ae_lr_st1 hlr _ (by rw [e1]; exact ae_vr_i (Nat.mod_lt _ (by omega)))) hsr hhr hpx hP hD hS
    · exact hK _ _ _ _ _ _ h2 ws H locs ls2 _ _ hl2 (ae_lr_st1 hlr _ (ae_vr_top _)) hsr hhr hpx hP hD hS
  | iadd =>
    unfold ae_step at hs; (try dsimp only at hs)
    intro ws H locs ls lvC stC hl hlr hsr hhr hpx hP hD hS
    obtain ⟨x, y, xs, st2, rfl, h2, hs1⟩ := ae_ii_ok (op := fun a b => a + b) (fun a b ha9 hb9 => ⟨ae_add_ok a b, Nat.mod_lt _ (by omega)⟩) hs hsr
    refine lv_iadd hx hb hd ?_
    exact hK _ _ _ _ _ _ h2 ws H locs ls lvC _ hl hlr (hs1) hhr hpx hP hD hS
  | isub =>
    unfold ae_step at hs; (try dsimp only at hs)
    intro ws H locs ls lvC stC hl hlr hsr hhr hpx hP hD hS
    obtain ⟨x, y, xs, st2, rfl, h2, hs1⟩ := ae_ii_ok (op := fun a b => a - b) (fun a b ha9 hb9 => ⟨ae_sub_ok hb9, Nat.mod_lt _ (by omega)⟩) hs hsr
    refine lv_isub hx hb hd ?_
    exact hK _ _ _ _ _ _ h2 ws H locs ls lvC _ hl hlr (hs1) hhr hpx hP hD hS
  | iand =>
    unfold ae_step at hs; (try dsimp only at hs)
    intro ws H locs ls lvC stC hl hlr hsr hhr hpx hP hD hS
    obtain ⟨x, y, xs, st2, rfl, h2, hs1⟩ := ae_ii_ok (op := fun a b => a &&& b) (fun a b ha9 hb9 => ⟨ae_and_ok a b, Nat.and_lt_two_pow (n := 32) a hb9⟩) hs hsr
    refine lv_iand hx hb hd ?_
    exact hK _ _ _ _ _ _ h2 ws H locs ls lvC _ hl hlr (hs1) hhr hpx hP hD hS
  | ior =>
    unfold ae_step at hs; (try dsimp only at hs)
    intro ws H locs ls lvC stC hl hlr hsr hhr hpx hP hD hS
    obtain ⟨x, y, xs, st2, rfl, h2, hs1⟩ := ae_ii_ok (op := fun a b => a ||| b) (fun a b ha9 hb9 => ⟨ae_or_ok a b, Nat.or_lt_two_pow (n := 32) ha9 hb9⟩) hs hsr
    refine lv_ior hx hb hd ?_
    exact hK _ _ _ _ _ _ h2 ws H locs ls lvC _ hl hlr (hs1) hhr hpx hP hD hS
  | ixor =>
    unfold ae_step at hs; (try dsimp only at hs)
    intro ws H locs ls lvC stC hl hlr hsr hhr hpx hP hD hS
    obtain ⟨x, y, xs, st2, rfl, h2, hs1⟩ := ae_ii_ok (op := fun a b => a ^^^ b) (fun a b ha9 hb9 => ⟨ae_xor_ok a b, Nat.xor_lt_two_pow (n := 32) ha9 hb9⟩) hs hsr
    refine lv_ixor hx hb hd ?_
    exact hK _ _ _ _ _ _ h2 ws H locs ls lvC _ hl hlr (hs1) hhr hpx hP hD hS
  | ishl =>
    unfold ae_step at hs; (try dsimp only at hs)
    intro ws H locs ls lvC stC hl hlr hsr hhr hpx hP hD hS
    obtain ⟨x, y, xs, st2, rfl, h2, hs1⟩ := ae_ii_ok (op := fun a b => a <<< (b &&& 31)) (fun a b ha9 hb9 => ⟨ae_shl_ok ha9 hb9, Nat.mod_lt _ (by omega)⟩) hs hsr
    refine lv_ishl hx hb hd ?_
    exact hK _ _ _ _ _ _ h2 ws H locs ls lvC _ hl hlr (hs1) hhr hpx hP hD hS
  | ishr =>
    unfold ae_step at hs; (try dsimp only at hs)
    intro ws H locs ls lvC stC hl hlr hsr hhr hpx hP hD hS
    obtain ⟨x, y, xs, st2, rfl, h2, hs1⟩ := ae_ii_ok (op := fun a b => a >>> (b &&& 31)) (fun a b ha9 hb9 => ⟨ae_shr_ok ha9 hb9, ae_shr_lt ha9⟩) hs hsr
    refine lv_ishr hx hb hd ?_
    exact hK _ _ _ _ _ _ h2 ws H locs ls lvC _ hl hlr (hs1) hhr hpx hP hD hS
  | imul =>
    unfold ae_step at hs; (try dsimp only at hs)
    intro ws H locs ls lvC stC hl hlr hsr hhr hpx hP hD hS
    obtain ⟨x, y, xs, st2, rfl, h2, hs1⟩ := ae_im_ok hs hsr
    refine lv_imul hx hb hd ?_
    exact hK _ _ _ _ _ _ h2 ws H locs ls lvC _ hl hlr (hs1) hhr hpx hP hD hS
  | iushr =>
    unfold ae_step at hs; (try dsimp only at hs)
    intro ws H locs ls lvC stC hl hlr hsr hhr hpx hP hD hS
    obtain ⟨x, y, xs, st2, rfl, h2, hs1⟩ := ae_ii_ok (op := fun a b => (a.toUInt32 >>> (b.toUInt32 &&& Int32.toUInt32 31)).toInt32) (fun a b ha9 hb9 => ⟨ae_ushr_ok ha9 hb9, Nat.lt_of_le_of_lt (Nat.shiftRight_le _ _) ha9⟩) hs hsr
    refine lv_iushr hx hb hd rfl ?_
    exact hK _ _ _ _ _ _ h2 ws H locs ls lvC _ hl hlr (hs1) hhr hpx hP hD hS
  | idiv =>
    unfold ae_step at hs; (try dsimp only at hs)
    split at hs
    · next y x rest =>
      replace hs := ae_cond hs; obtain ⟨q0, hs⟩ := hs
      obtain ⟨q1, q2⟩ := ae_band q0
      have q1 := ae_blt q1
      have q2 := ae_blt q2
      rw [ae_f_eq] at hs
      intro ws H locs ls lvC stC hl hlr hsr hhr hpx hP hD hS
      obtain ⟨Y, xs0, rfl, ⟨rfl, hy⟩, hs0⟩ := ae_sr_i hsr
      obtain ⟨Z, xs, rfl, ⟨rfl, hz⟩, hs1⟩ := ae_sr_i hs0
      obtain ⟨e1, e2⟩ := ae_idiv_ok hz q1 q2
      refine lv_idiv hx hb hd (nI_ne0 q1 (by omega)) ?_
      rw [e1]
      exact hK _ _ _ _ _ _ hs ws H locs ls lvC _ hl hlr (ae_sr_c (ae_vr_i e2) hs1) hhr hpx hP hD hS
    · cases hs
  | irem =>
    unfold ae_step at hs; (try dsimp only at hs)
    split at hs
    · next y x rest =>
      replace hs := ae_cond hs; obtain ⟨q0, hs⟩ := hs
      obtain ⟨q1, q2⟩ := ae_band q0
      have q1 := ae_blt q1
      have q2 := ae_blt q2
      rw [ae_f_eq] at hs
      intro ws H locs ls lvC stC hl hlr hsr hhr hpx hP hD hS
      obtain ⟨Y, xs0, rfl, ⟨rfl, hy⟩, hs0⟩ := ae_sr_i hsr
      obtain ⟨Z, xs, rfl, ⟨rfl, hz⟩, hs1⟩ := ae_sr_i hs0
      obtain ⟨e1, e2⟩ := ae_irem_ok hz q1 q2
      refine lv_irem hx hb hd (nI_ne0 q1 (by omega)) ?_
      rw [e1]
      exact hK _ _ _ _ _ _ hs ws H locs ls lvC _ hl hlr (ae_sr_c (ae_vr_i e2) hs1) hhr hpx hP hD hS
    · cases hs
  | ineg =>
    unfold ae_step at hs; (try dsimp only at hs)
    split at hs
    · next x rest =>
      rw [ae_f_eq] at hs
      intro ws H locs ls lvC stC hl hlr hsr hhr hpx hP hD hS
      obtain ⟨Z, xs, rfl, ⟨rfl, hz⟩, hs1⟩ := ae_sr_i hsr
      refine lv_ineg hx hb hd ?_
      rw [ae_neg_ok hz]
      exact hK _ _ _ _ _ _ hs ws H locs ls lvC _ hl hlr (ae_sr_c (ae_vr_i (Nat.mod_lt _ (by omega))) hs1) hhr hpx hP hD hS
    · cases hs
  | i2b =>
    unfold ae_step at hs; (try dsimp only at hs)
    split at hs
    · next x rest =>
      rw [ae_f_eq] at hs
      intro ws H locs ls lvC stC hl hlr hsr hhr hpx hP hD hS
      obtain ⟨Y, xs, rfl, ⟨rfl, hy⟩, hs1⟩ := ae_sr_i hsr
      refine lv_i2b hx hb hd (ae_b8_ok x) ?_
      exact hK _ _ _ _ _ _ hs ws H locs ls lvC _ hl hlr (ae_sr_c (ae_vr_i (ae_b8_lt x)) hs1) hhr hpx hP hD hS
    · intro ws H locs ls lvC stC hl hlr hsr hhr hpx hP hD hS
      obtain ⟨Y, xs, rfl, -, hs1⟩ := ae_sr_i hsr
      refine lv_i2b hx hb hd rfl ?_
      exact hK _ _ _ _ _ _ hs ws H locs ls lvC _ hl hlr (ae_sr_c (ae_vr_top _) hs1) hhr hpx hP hD hS
    · cases hs
  | i2l =>
    unfold ae_step at hs; (try dsimp only at hs)
    split at hs
    · next x rest =>
      rw [ae_f_eq] at hs
      intro ws H locs ls lvC stC hl hlr hsr hhr hpx hP hD hS
      obtain ⟨Y, xs, rfl, ⟨rfl, hy⟩, hs1⟩ := ae_sr_i hsr
      refine lv_i2l hx hb hd (ae_i2l_ok hy) ?_
      exact hK _ _ _ _ _ _ hs ws H locs ls lvC _ hl hlr (ae_sr_c (ae_vr_j (ae_i2l_lt hy)) hs1) hhr hpx hP hD hS
    · cases hs
  | l2i =>
    unfold ae_step at hs; (try dsimp only at hs)
    split at hs
    · next x rest =>
      rw [ae_f_eq] at hs
      intro ws H locs ls lvC stC hl hlr hsr hhr hpx hP hD hS
      obtain ⟨xs, rfl, hy, hs1⟩ := ae_sr_l hsr
      refine lv_l2i hx hb hd (ae_l2i_ok x) ?_
      exact hK _ _ _ _ _ _ hs ws H locs ls lvC _ hl hlr (ae_sr_c (ae_vr_i (Nat.mod_lt _ (by omega))) hs1) hhr hpx hP hD hS
    · cases hs
  | ladd =>
    unfold ae_step at hs; (try dsimp only at hs)
    intro ws H locs ls lvC stC hl hlr hsr hhr hpx hP hD hS
    obtain ⟨x, y, xs, st2, rfl, h2, hs1⟩ := ae_ll_ok (op := fun a b => a + b) (fun a b ha9 hb9 => ⟨ae_ladd_ok a b, Nat.mod_lt _ (by omega)⟩) hs hsr
    refine lv_ladd hx hb hd ?_
    exact hK _ _ _ _ _ _ h2 ws H locs ls lvC _ hl hlr (hs1) hhr hpx hP hD hS
  | lsub =>
    unfold ae_step at hs; (try dsimp only at hs)
    intro ws H locs ls lvC stC hl hlr hsr hhr hpx hP hD hS
    obtain ⟨x, y, xs, st2, rfl, h2, hs1⟩ := ae_ll_ok (op := fun a b => a - b) (fun a b ha9 hb9 => ⟨ae_lsub_ok hb9, Nat.mod_lt _ (by omega)⟩) hs hsr
    refine lv_lsub hx hb hd ?_
    exact hK _ _ _ _ _ _ h2 ws H locs ls lvC _ hl hlr (hs1) hhr hpx hP hD hS
  | land =>
    unfold ae_step at hs; (try dsimp only at hs)
    intro ws H locs ls lvC stC hl hlr hsr hhr hpx hP hD hS
    obtain ⟨x, y, xs, st2, rfl, h2, hs1⟩ := ae_ll_ok (op := fun a b => a &&& b) (fun a b ha9 hb9 => ⟨ae_land_ok a b, Nat.and_lt_two_pow (n := 64) a hb9⟩) hs hsr
    refine lv_land hx hb hd ?_
    exact hK _ _ _ _ _ _ h2 ws H locs ls lvC _ hl hlr (hs1) hhr hpx hP hD hS
  | lor =>
    unfold ae_step at hs; (try dsimp only at hs)
    intro ws H locs ls lvC stC hl hlr hsr hhr hpx hP hD hS
    obtain ⟨x, y, xs, st2, rfl, h2, hs1⟩ := ae_ll_ok (op := fun a b => a ||| b) (fun a b ha9 hb9 => ⟨ae_lor_ok a b, Nat.or_lt_two_pow (n := 64) ha9 hb9⟩) hs hsr
    refine lv_lor hx hb hd ?_
    exact hK _ _ _ _ _ _ h2 ws H locs ls lvC _ hl hlr (hs1) hhr hpx hP hD hS
  | lushr =>
    unfold ae_step at hs; (try dsimp only at hs)
    unfold ae_li at hs
    split at hs
    · next y x rest =>
      replace hs := ae_cond hs; obtain ⟨q1, hs⟩ := hs
      have q1 := ae_blt q1
      rw [ae_f_eq] at hs
      intro ws H locs ls lvC stC hl hlr hsr hhr hpx hP hD hS
      obtain ⟨Y, xs0, rfl, ⟨rfl, hy⟩, hs0⟩ := ae_sr_i hsr
      obtain ⟨xs, rfl, hz, hs1⟩ := ae_sr_l hs0
      refine lv_lushr hx hb hd (ae_lushr_ok hz q1) ?_
      exact hK _ _ _ _ _ _ hs ws H locs ls lvC _ hl hlr (ae_sr_c (ae_vr_j (Nat.lt_of_le_of_lt (Nat.shiftRight_le _ _) hz)) hs1) hhr hpx hP hD hS
    · cases hs
  | lshl =>
    unfold ae_step at hs; (try dsimp only at hs)
    unfold ae_li at hs
    split at hs
    · next y x rest =>
      replace hs := ae_cond hs; obtain ⟨q1, hs⟩ := hs
      have q1 := ae_blt q1
      rw [ae_f_eq] at hs
      intro ws H locs ls lvC stC hl hlr hsr hhr hpx hP hD hS
      obtain ⟨Y, xs0, rfl, ⟨rfl, hy⟩, hs0⟩ := ae_sr_i hsr
      obtain ⟨xs, rfl, hz, hs1⟩ := ae_sr_l hs0
      refine lv_lshl hx hb hd (ae_lshl_ok hz q1) ?_
      exact hK _ _ _ _ _ _ hs ws H locs ls lvC _ hl hlr (ae_sr_c (ae_vr_j (ae_lshl_lt _ _)) hs1) hhr hpx hP hD hS
    · cases hs
  | lshr =>
    unfold ae_step at hs; (try dsimp only at hs)
    unfold ae_li at hs
    split at hs
    · next y x rest =>
      replace hs := ae_cond hs; obtain ⟨q1, hs⟩ := hs
      have q1 := ae_blt q1
      rw [ae_f_eq] at hs
      intro ws H locs ls lvC stC hl hlr hsr hhr hpx hP hD hS
      obtain ⟨Y, xs0, rfl, ⟨rfl, hy⟩, hs0⟩ := ae_sr_i hsr
      obtain ⟨xs, rfl, hz, hs1⟩ := ae_sr_l hs0
      refine lv_lshr hx hb hd (ae_lshr_ok hz q1) ?_
      exact hK _ _ _ _ _ _ hs ws H locs ls lvC _ hl hlr (ae_sr_c (ae_vr_j (ae_lshr_lt hz)) hs1) hhr hpx hP hD hS
    · cases hs
  | lcmp =>
    unfold ae_step at hs; (try dsimp only at hs)
    split at hs
    · next y x rest =>
      rw [ae_f_eq] at hs
      intro ws H locs ls lvC stC hl hlr hsr hhr hpx hP hD hS
      obtain ⟨xs0, rfl, hy, hs0⟩ := ae_sr_l hsr
      obtain ⟨xs, rfl, hz, hs1⟩ := ae_sr_l hs0
      refine W.lcmp hx hb hd ?_
      rw [ae_lcmp_ok]
      exact hK _ _ _ _ _ _ hs ws H locs ls lvC _ hl hlr (ae_sr_c (ae_vr_i (ae_lcmp_lt x y)) hs1) hhr hpx hP hD hS
    · cases hs
  | dup =>
    unfold ae_step at hs; (try dsimp only at hs)
    split at hs
    · next v rest =>
      replace hs := ae_cond hs; obtain ⟨q1, hs⟩ := hs
      intro ws H locs ls lvC stC hl hlr hsr hhr hpx hP hD hS
      obtain ⟨x, xs, rfl, hv, hs1⟩ := hsr
      refine lv_dup hx hb hd ((ae_vr_cat hv).trans (ae_beq q1)) ?_
      exact hK _ _ _ _ _ _ hs ws H locs ls lvC _ hl hlr (ae_sr_c hv (ae_sr_c hv hs1)) hhr hpx hP hD hS
    · cases hs
  | dup2 =>
    unfold ae_step at hs; (try dsimp only at hs)
    split at hs
    · next v w rest =>
      replace hs := ae_cond hs; obtain ⟨q0, hs⟩ := hs
      obtain ⟨q1, q2⟩ := ae_band q0
      intro ws H locs ls lvC stC hl hlr hsr hhr hpx hP hD hS
      obtain ⟨x, xs0, rfl, hv, hs0⟩ := hsr
      obtain ⟨y, xs, rfl, hw, hs1⟩ := hs0
      refine lv_dup2_11 hx hb hd ((ae_vr_cat hv).trans (ae_beq q1)) ((ae_vr_cat hw).trans (ae_beq q2)) ?_
      exact hK _ _ _ _ _ _ hs ws H locs ls lvC _ hl hlr (ae_sr_c hv (ae_sr_c hw (ae_sr_c hv (ae_sr_c hw hs1)))) hhr hpx hP hD hS
    · cases hs
  | pop =>
    unfold ae_step at hs; (try dsimp only at hs)
    split at hs
    · next v rest =>
      replace hs := ae_cond hs; obtain ⟨q1, hs⟩ := hs
      intro ws H locs ls lvC stC hl hlr hsr hhr hpx hP hD hS
      obtain ⟨x, xs, rfl, hv, hs1⟩ := hsr
      refine lv_pop hx hb hd ((ae_vr_cat hv).trans (ae_beq q1)) ?_
      exact hK _ _ _ _ _ _ hs ws H locs ls lvC _ hl hlr hs1 hhr hpx hP hD hS
    · cases hs
  | goto off =>
    unfold ae_step at hs; (try dsimp only at hs)
    intro ws H locs ls lvC stC hl hlr hsr hhr hpx hP hD hS
    obtain ⟨t, ht, h2⟩ := ae_tgt_ok hs
    refine lv_goto hx hb hd ht ?_
    exact hK _ _ _ _ _ _ h2 ws H locs ls lvC _ hl hlr (hsr) hhr hpx hP hD hS
  | if_icmp c9 off =>
    unfold ae_step at hs; (try dsimp only at hs)
    split at hs
    · next y x rest =>
      intro ws H locs ls lvC stC hl hlr hsr hhr hpx hP hD hS
      obtain ⟨Y, xs0, rfl, hy, hs0⟩ := ae_sr_i hsr
      obtain ⟨Z, xs, rfl, hz, hs1⟩ := ae_sr_i hs0
      have key : ∀ b, ae_cmp c9 (ae_rg x) (ae_rg y) = some b → (b = true ↔ ae_hd c9 Z Y) := fun b hb9 => ae_cmp_ok (ae_ir_rg hz) (ae_ir_rg hy) hb9
      split at hs
      · next hc =>
        have kq := (key true hc).mp rfl
        obtain ⟨t, ht, h2⟩ := ae_tgt_ok hs
        have go := hK _ _ _ _ _ _ h2 ws H locs ls lvC _ hl hlr hs1 hhr hpx hP hD hS
        cases c9 with
        | eq => exact lv_icmp_eq hx hb hd ht (fun _ => go) (fun z => absurd kq z)
        | ne => exact lv_icmp_ne hx hb hd ht (fun _ => go) (fun z => absurd z kq)
        | lt => exact lv_icmp_lt hx hb hd ht (fun _ => go) (fun z => absurd kq z)
        | ge => exact lv_icmp_ge hx hb hd ht (fun _ => go) (fun z => absurd kq z)
        | gt => exact lv_icmp_gt hx hb hd ht (fun _ => go) (fun z => absurd kq z)
        | le => exact lv_icmp_le hx hb hd ht (fun _ => go) (fun z => absurd kq z)
      · next hc =>
        have kq : ¬ ae_hd c9 Z Y := fun z => by have := (key false hc).mpr z; cases this
        obtain ⟨t, ht, h2⟩ := ae_tgt_ok hs
        have go := hK _ _ _ _ _ _ h2 ws H locs ls lvC _ hl hlr hs1 hhr hpx hP hD hS
        cases c9 with
        | eq => exact lv_icmp_eq hx hb hd ht (fun z => absurd z kq) (fun _ => go)
        | ne => exact lv_icmp_ne hx hb hd ht (fun z => absurd z kq) (fun _ => go)
        | lt => exact lv_icmp_lt hx hb hd ht (fun z => absurd z kq) (fun _ => go)
        | ge => exact lv_icmp_ge hx hb hd ht (fun z => absurd z kq) (fun _ => go)
        | gt => exact lv_icmp_gt hx hb hd ht (fun z => absurd z kq) (fun _ => go)
        | le => exact lv_icmp_le hx hb hd ht (fun z => absurd z kq) (fun _ => go)
      · cases hs
    · cases hs
  | ifCond c9 off =>
    unfold ae_step at hs; (try dsimp only at hs)
    split at hs
    · next x rest =>
      intro ws H locs ls lvC stC hl hlr hsr hhr hpx hP hD hS
      obtain ⟨Z, xs, rfl, hz, hs1⟩ := ae_sr_i hsr
      have key : ∀ b, ae_cmp c9 (ae_rg x) (2147483648, 2147483648) = some b → (b = true ↔ ae_hd c9 Z 0) := fun b hb9 => ae_cmp_ok (ae_ir_rg hz) (by rw [ae_bi0]; exact ⟨Nat.le_refl _, Nat.le_refl _⟩) hb9
      split at hs
      · next hc =>
        have kq := (key true hc).mp rfl
        obtain ⟨t, ht, h2⟩ := ae_tgt_ok hs
        have go := hK _ _ _ _ _ _ h2 ws H locs ls lvC _ hl hlr hs1 hhr hpx hP hD hS
        cases c9 with
        | eq => exact lv_if_eq hx hb hd ht (fun _ => go) (fun z => absurd kq z)
        | ne => exact lv_if_ne hx hb hd ht (fun _ => go) (fun z => absurd z kq)
        | lt => exact lv_if_lt hx hb hd ht (fun _ => go) (fun z => absurd kq z)
        | ge => exact lv_if_ge hx hb hd ht (fun _ => go) (fun z => absurd kq z)
        | gt => exact lv_if_gt hx hb hd ht (fun _ => go) (fun z => absurd kq z)
        | le => exact lv_if_le hx hb hd ht (fun _ => go) (fun z => absurd kq z)
      · next hc =>
        have kq : ¬ ae_hd c9 Z 0 := fun z => by have := (key false hc).mpr z; cases this
        obtain ⟨t, ht, h2⟩ := ae_tgt_ok hs
        have go := hK _ _ _ _ _ _ h2 ws H locs ls lvC _ hl hlr hs1 hhr hpx hP hD hS
        cases c9 with
        | eq => exact lv_if_eq hx hb hd ht (fun z => absurd z kq) (fun _ => go)
        | ne => exact lv_if_ne hx hb hd ht (fun z => absurd z kq) (fun _ => go)
        | lt => exact lv_if_lt hx hb hd ht (fun z => absurd z kq) (fun _ => go)
        | ge => exact lv_if_ge hx hb hd ht (fun z => absurd z kq) (fun _ => go)
        | gt => exact lv_if_gt hx hb hd ht (fun z => absurd z kq) (fun _ => go)
        | le => exact lv_if_le hx hb hd ht (fun z => absurd z kq) (fun _ => go)
      · cases hs
    · cases hs
  | ifnull off =>
    unfold ae_step at hs; (try dsimp only at hs)
    split at hs
    · intro ws H locs ls lvC stC hl hlr hsr hhr hpx hP hD hS
      obtain ⟨xs, rfl, hs1⟩ := ae_sr_n hsr
      obtain ⟨t, ht, h2⟩ := ae_tgt_ok hs
      refine lv_ifnullN hx hb hd ht ?_
      exact hK _ _ _ _ _ _ h2 ws H locs ls lvC _ hl hlr hs1 hhr hpx hP hD hS
    · intro ws H locs ls lvC stC hl hlr hsr hhr hpx hP hD hS
      obtain ⟨a, xs, rfl, had, hs1⟩ := ae_sr_r hsr
      refine lv_ifnull hx hb hd ?_
      exact hK _ _ _ _ _ _ hs ws H locs ls lvC _ hl hlr hs1 hhr hpx hP hD hS
    · cases hs
  | ifnonnull off =>
    unfold ae_step at hs; (try dsimp only at hs)
    split at hs
    · intro ws H locs ls lvC stC hl hlr hsr hhr hpx hP hD hS
      obtain ⟨xs, rfl, hs1⟩ := ae_sr_n hsr
      refine lv_ifnonnullN hx hb hd ?_
      exact hK _ _ _ _ _ _ hs ws H locs ls lvC _ hl hlr hs1 hhr hpx hP hD hS
    · intro ws H locs ls lvC stC hl hlr hsr hhr hpx hP hD hS
      obtain ⟨a, xs, rfl, had, hs1⟩ := ae_sr_r hsr
      obtain ⟨t, ht, h2⟩ := ae_tgt_ok hs
      refine lv_ifnonnull hx hb hd ht ?_
      exact hK _ _ _ _ _ _ h2 ws H locs ls lvC _ hl hlr hs1 hhr hpx hP hD hS
    · cases hs
  | getstatic idx =>
    unfold ae_step at hs; (try dsimp only at hs)
    split at hs
    · next j z hc =>
      exact ae_gets X0 hd hc (hK _ _ _ _ _ _ hs)
    · cases hs
  | tableswitch dflt lo hi offs =>
    unfold ae_step at hs; (try dsimp only at hs)
    split at hs
    · next x rest =>
      intro ws H locs ls lvC stC hl hlr hsr hhr hpx hP hD hS
      obtain ⟨Y, xs, rfl, hy, hs1⟩ := ae_sr_i hsr
      obtain ⟨g1, g2⟩ := ae_ir_rg hy
      have hbi := ae_bi_eq Y
      cases hq : or (decide (((ae_rg x).2 : Int) - 2147483648 < lo)) (decide (hi < ((ae_rg x).1 : Int) - 2147483648)) with
      | true =>
        rw [hq, cond_true] at hs
        rw [Bool.or_eq_true] at hq
        obtain ⟨t, ht, h2⟩ := ae_tgt_ok hs
        refine lv_tableOut hx hb hd ?_ ht ?_
        · rcases hq with q | q
          · have := of_decide_eq_true q; omega
          · have := of_decide_eq_true q; omega
        · exact hK _ _ _ _ _ _ h2 ws H locs ls lvC _ hl hlr hs1 hhr hpx hP hD hS
      | false =>
        rw [hq, cond_false] at hs
        replace hs := ae_cond hs; obtain ⟨q0, hs⟩ := hs
        obtain ⟨q1, q2⟩ := ae_band q0
        obtain ⟨q2, q3⟩ := ae_band q2
        have q1 := ae_beq q1
        have q2 := of_decide_eq_true q2
        have q3 := of_decide_eq_true q3
        split at hs
        · next off hoff =>
          obtain ⟨t, ht, h2⟩ := ae_tgt_ok hs
          have e9 : Y.toInt = ((ae_rg x).1 : Int) - 2147483648 := by omega
          refine lv_tableIn hx hb hd (by omega) (by omega) (by rw [e9]; exact hoff) ht ?_
          exact hK _ _ _ _ _ _ h2 ws H locs ls lvC _ hl hlr hs1 hhr hpx hP hD hS
        · cases hs
    · cases hs
  | getfield idx =>
    unfold ae_step at hs; (try dsimp only at hs)
    split at hs
    · next a rest =>
      split at hs
      · next ci k cj fs hc hg =>
        replace hs := ae_cond hs; obtain ⟨q1, hs⟩ := hs
        have q1 := ae_beq q1
        subst q1
        split at hs
        · next v hv =>
          rw [ae_nth_eq] at hv
          exact ae_getf X0 hd hc hg hv (hK _ _ _ _ _ _ hs)
        · cases hs
      · cases hs
    · cases hs
  | putfield idx =>
    unfold ae_step at hs; (try dsimp only at hs)
    split at hs
    · next v a rest =>
      split at hs
      · next ci k cj fs hc hg =>
        replace hs := ae_cond hs; obtain ⟨q1, hs⟩ := hs
        have q1 := ae_beq q1
        subst q1
        split at hs
        · next fk v0 hfk hv0 =>
          rw [ae_nth_eq] at hv0
          replace hs := ae_cond hs; obtain ⟨q2, hs⟩ := hs
          obtain ⟨q2, q3⟩ := ae_band q2
          rw [ae_set_eq] at hs
          exact ae_putf X0 hd hc hg hv0 hfk q2 q3 (hK _ _ _ _ _ _ hs)
        · cases hs
      · cases hs
    · cases hs
  | iaload =>
    unfold ae_step at hs; (try dsimp only at hs)
    split at hs
    · next v0 a0 r0 =>
      cases hb0 : Nat.ble 256 a0 with
      | true =>
        rw [hb0, cond_true] at hs
        exact ae_ldxs X0 hd (ae_ble hb0) hs hK
      | false =>
        rw [hb0, cond_false] at hs
        exact ae_iald X0 hd hK hs
    · cases hs
  | baload =>
    unfold ae_step at hs; (try dsimp only at hs)
    unfold ae_ald at hs
    split at hs
    · next ix a rest =>
      split at hs
      · next t n x hg =>
        replace hs := ae_cond hs; obtain ⟨q0, hs⟩ := hs
        obtain ⟨qt, qi⟩ := ae_band q0
        have hi := (Or.inr ⟨rfl, ae_tq1 qt⟩ : (Instr.baload = .iaload ∧ t = 0) ∨ (Instr.baload = .baload ∧ (t = 1 ∨ t = 2)))
        split at hs
        · next B j =>
          have hs : ae_f (ae_rd 32 B j) (fun z => K (Nat.add pc 1) ce sl lv (ae_i z :: rest) h) = some r := hs
          rw [ae_f_eq] at hs
          refine ae_ldI X0 hd (hi) hg qi (fun ad f Y hf hY hiY => ?_) (hK _ _ _ _ _ _ hs)
          obtain ⟨-, -, hj⟩ := ae_in_ok qi hiY
          obtain ⟨e1, e2⟩ := hj j rfl
          rw [e1, hf B rfl j e2]
          exact ae_vr_i (ae_rd_lt 32 B j)
        · split at hs
          · exact ae_cf hs
          · cases hs
        · next B g =>
          replace hs := ae_cond hs; obtain ⟨-, hs⟩ := hs
          cases hB : Nat.beq B 0 with
          | true =>
            rw [hB] at hs
            refine ae_ldI X0 hd (hi) hg qi (fun ad f Y hf hY hiY => ?_) (hK _ _ _ _ _ _ hs)
            obtain ⟨j, hj, rfl⟩ := vp_in_of hY (ae_in_ok qi hiY).2.1
            rw [nI_clamp (Nat.lt_trans hj (ae_in_ok qi hiY).2.1), hf B rfl j hj, ae_beq hB, ae_rd0]
            exact ae_vr_i (by omega)
          | false =>
            rw [hB] at hs
            exact ae_ldI X0 hd (hi) hg qi (fun ad f Y hf hY hiY => ae_vr_top _) (hK _ _ _ _ _ _ hs)
        · replace hs := ae_cond hs; obtain ⟨-, hs⟩ := hs
          exact ae_ldI X0 hd (hi) hg qi (fun ad f Y hf hY hiY => ae_vr_top _) (hK _ _ _ _ _ _ hs)
        · cases hs
      · cases hs
    · cases hs
  | laload =>
    unfold ae_step at hs; (try dsimp only at hs)
    unfold ae_ald at hs
    split at hs
    · next ix a rest =>
      split at hs
      · next t n x hg =>
        replace hs := ae_cond hs; obtain ⟨q0, hs⟩ := hs
        obtain ⟨qt, qi⟩ := ae_band q0
        have ht : t = 3 := ae_tq3 qt
        subst ht
        split at hs
        · next B j =>
          have hs : ae_f (ae_rd 64 B j) (fun z => K (Nat.add pc 1) ce sl lv (ae_j z :: rest) h) = some r := hs
          rw [ae_f_eq] at hs
          exact ae_ldL X0 hd hg qi (hK _ _ _ _ _ _ hs)
        · split at hs
          · exact ae_cf hs
          · cases hs
        · exact ae_cf hs
        · exact ae_cf hs
        · cases hs
      · cases hs
    · cases hs
  | aaload =>
    unfold ae_step at hs; (try dsimp only at hs)
    unfold ae_ald at hs
    split at hs
    · next ix a rest =>
      split at hs
      · next t n x hg =>
        replace hs := ae_cond hs; obtain ⟨q0, hs⟩ := hs
        obtain ⟨qt, qi⟩ := ae_band q0
        have ht : t = 4 := ae_tq4 qt
        subst ht
        split at hs
        · next B j =>
          intro ws H locs ls lvC stC hl hlr hsr hhr hpx hP hD hS
          obtain ⟨Y, xs0, rfl, hY, hs0⟩ := ae_sr_i hsr
          obtain ⟨ad, xs, rfl, had, hs1⟩ := ae_sr_r hs0
          obtain ⟨y, hw, hxr⟩ := ae_rf hhr hg had
          rcases hxr with ⟨h1, -⟩ | ⟨h1, -⟩ | ⟨-, f, L, -, h2, -⟩
          · omega
          · omega
          · cases h2
        · next L j =>
          split at hs
          · next q hq =>
            rw [ae_nth_eq] at hq
            exact ae_ldQ X0 hd hg qi hq (hK _ _ _ _ _ _ hs)
          · cases hs
        · exact ae_cf hs
        · exact ae_cf hs
        · cases hs
      · cases hs
    · cases hs
  | iastore =>
    unfold ae_step at hs; (try dsimp only at hs)
    unfold ae_ast at hs
    split at hs
    · next v ix a rest =>
      split at hs
      · next t n x hg =>
        replace hs := ae_cond hs; obtain ⟨q0, hs⟩ := hs
        obtain ⟨qt, qi⟩ := ae_band q0
        have hi := (Or.inl ⟨rfl, ae_tq0 qt⟩ : (Instr.iastore = .iastore ∧ t = 0) ∨ (Instr.iastore = .bastore ∧ (t = 1 ∨ t = 2)))
        split at hs
        · next B =>
          split at hs
          · next z j =>
            rw [ae_f_eq] at hs
            exact ae_stI X0 hd hi hg qi (Or.inr ⟨B, j, z, rfl, rfl, rfl, rfl⟩) (hK _ _ _ _ _ _ hs)
          · exact ae_stI X0 hd hi hg qi (Or.inl rfl) (hK _ _ _ _ _ _ hs)
        · exact ae_stI X0 hd hi hg qi (Or.inl rfl) (hK _ _ _ _ _ _ hs)
        · cases hs
      · cases hs
    · cases hs
  | bastore =>
    unfold ae_step at hs; (try dsimp only at hs)
    unfold ae_ast at hs
    split at hs
    · next v ix a rest =>
      split at hs
      · next t n x hg =>
        replace hs := ae_cond hs; obtain ⟨q0, hs⟩ := hs
        obtain ⟨qt, qi⟩ := ae_band q0
        have hi := (Or.inr ⟨rfl, ae_tq1 qt⟩ : (Instr.bastore = .iastore ∧ t = 0) ∨ (Instr.bastore = .bastore ∧ (t = 1 ∨ t = 2)))
        split at hs
        · next B =>
          split at hs
          · next z j =>
            rw [ae_f_eq] at hs
            exact ae_stI X0 hd hi hg qi (Or.inr ⟨B, j, z, rfl, rfl, rfl, rfl⟩) (hK _ _ _ _ _ _ hs)
          · exact ae_stI X0 hd hi hg qi (Or.inl rfl) (hK _ _ _ _ _ _ hs)
        · exact ae_stI X0 hd hi hg qi (Or.inl rfl) (hK _ _ _ _ _ _ hs)
        · cases hs
      · cases hs
    · cases hs
  | lastore =>
    unfold ae_step at hs; (try dsimp only at hs)
    unfold ae_last at hs
    split at hs
    · next v j a rest =>
      split at hs
      · next t n B hg =>
        replace hs := ae_cond hs; obtain ⟨q0, hs⟩ := hs
        obtain ⟨qt, qi⟩ := ae_band q0
        have qt := ae_beq qt
        subst qt
        rw [ae_f_eq] at hs
        exact ae_stL X0 hd hg qi (hK _ _ _ _ _ _ hs)
      · cases hs
    · cases hs
  | aastore =>
    unfold ae_step at hs; (try dsimp only at hs)
    unfold ae_aast at hs
    split at hs
    · next v j a rest =>
      split at hs
      · next t n L ci fs hg hgv =>
        replace hs := ae_cond hs; obtain ⟨q0, hs⟩ := hs
        obtain ⟨qt, qi⟩ := ae_band q0
        obtain ⟨qc, qi⟩ := ae_band qi
        have qt := ae_beq qt
        have qc := ae_beq qc
        subst qt
        subst qc
        rw [ae_set_eq] at hs
        exact ae_stQ X0 hd hg hgv qi (hK _ _ _ _ _ _ hs)
      · cases hs
    · cases hs
  | arraylength =>
    unfold ae_step at hs; (try dsimp only at hs)
    split at hs
    · next a rest =>
      split at hs
      · next t n x hg =>
        replace hs := ae_cond hs; obtain ⟨q1, hs⟩ := hs
        have q1 := ae_blt q1
        intro ws H locs ls lvC stC hl hlr hsr hhr hpx hP hD hS
        obtain ⟨ad, xs, rfl, had, hs1⟩ := ae_sr_r hsr
        obtain ⟨y, hw, hxr⟩ := ae_rf hhr hg had
        have ht : t ≤ 4 := by rcases hxr with ⟨h1, -⟩ | ⟨h1, -⟩ | ⟨h1, -⟩ <;> omega
        obtain ⟨ty, htt⟩ : ∃ ty, (ae_tys kA)[t]? = some (kA t, ty) := by
          match t, ht with
          | 0, _ => exact ⟨_, rfl⟩
          | 1, _ => exact ⟨_, rfl⟩
          | 2, _ => exact ⟨_, rfl⟩
          | 3, _ => exact ⟨_, rfl⟩
          | 4, _ => exact ⟨_, rfl⟩
        refine va_alen (D := D) (v := nI n) hx hb hKK.1 hP a t hw htt rfl hd ?_
        exact hK _ _ _ _ _ _ hs ws H locs ls lvC _ hl hlr (ae_sr_c (ae_vr_i (by omega)) hs1) hhr hpx hP hD hS
      · cases hs
    · cases hs
  | newarray at_ =>
    unfold ae_step at hs; (try dsimp only at hs)
    split at hs
    · next n rest =>
      split at hs
      · next tag htag =>
        replace hs := ae_cond hs; obtain ⟨q1, hs⟩ := hs
        replace hs := ae_mk_ok hs; obtain ⟨q2, q3, q4, hs⟩ := hs
        exact ae_newn X0 hR hd htag (ae_ble q1) q2 q3 q4 (hK _ _ _ _ _ _ hs)
      · cases hs
    · cases hs
  | anewarray idx =>
    unfold ae_step at hs; (try dsimp only at hs)
    split at hs
    · next n rest =>
      split at hs
      · next k0 hc =>
        replace hs := ae_cond hs; obtain ⟨q1, hs⟩ := hs
        replace hs := ae_mk_ok hs; obtain ⟨q2, q3, q4, hs⟩ := hs
        exact ae_newq X0 hR hd hc (ae_ble q1) q2 q3 q4 (hK _ _ _ _ _ _ hs)
      · cases hs
    · cases hs
  | new idx =>
    unfold ae_step at hs; (try dsimp only at hs)
    split at hs
    · next ci k0 hc =>
      split at hs
      · next fs hf =>
        replace hs := ae_mk_ok hs; obtain ⟨q2, q3, q4, hs⟩ := hs
        exact ae_newo X0 hR hd hc hf q2 q3 q4 (hK _ _ _ _ _ _ hs)
      · cases hs
    · cases hs
  | ireturn =>
    unfold ae_step at hs; (try dsimp only at hs)
    replace hs := ae_cond hs; obtain ⟨q0, hs⟩ := hs
    obtain ⟨q1, q2⟩ := ae_band q0
    have q1 := ae_ble q1
    have q2 := ae_ble q2
    split at hs
    · next x =>
      split at hs
      · next hret =>
        cases hs
        rcases hQ with hQ | hQ
        · exact absurd hQ.1 (by intro z; cases z)
        intro ws H locs ls lvC stC hl hlr hsr hhr hpx hP hD hS
        obtain ⟨y, xs, rfl, hy, hs1⟩ := ae_sr_i hsr
        rw [show xs = [] from hs1, hQ]
        refine W.widen q1 q2 ?_
        exact W.iret hx hb (hrt.trans hret) (fun t ht hW => ⟨_, ws, rfl, ⟨_, rfl, y, rfl, hy⟩, hhr, hpx, by rw [ht]; exact hP, hD, hS.F ht⟩) hS.2.2 hd hlocks
      · next hret =>
        split at hs
        · next n =>
          replace hs := ae_cond hs; obtain ⟨q3, hs⟩ := hs
          have q3 := ae_ble q3
          cases hs
          rcases hQ with hQ | hQ
          · exact absurd hQ.1 (by intro z; cases z)
          intro ws H locs ls lvC stC hl hlr hsr hhr hpx hP hD hS
          obtain ⟨y, xs, rfl, ⟨rfl, hy⟩, hs1⟩ := ae_sr_i hsr
          rw [show xs = [] from hs1, hQ]
          refine W.widen q1 q2 ?_
          have hn : n = 0 ∨ n = 1 := by omega
          exact W.zret hx hb (hrt.trans hret) (by rcases hn with rfl | rfl <;> decide) (fun t ht hW => ⟨_, ws, rfl, ⟨_, rfl, _, rfl, rfl, hy⟩, hhr, hpx, by rw [ht]; exact hP, hD, hS.F ht⟩) hS.2.2 hd hlocks
        · cases hs
      · cases hs
    · cases hs
  | return_ =>
    unfold ae_step at hs; (try dsimp only at hs)
    replace hs := ae_cond hs; obtain ⟨q0, hs⟩ := hs
    obtain ⟨q1, q2⟩ := ae_band q0
    have q1 := ae_ble q1
    have q2 := ae_ble q2
    split at hs
    · next hret =>
      cases hs
      rcases hQ with hQ | hQ
      · exact absurd hret hQ.2
      intro ws H locs ls lvC stC hl hlr hsr hhr hpx hP hD hS
      rw [show stC = [] from hsr, hQ]
      refine W.widen q1 q2 ?_
      exact W.vret hx hb (hrt.trans hret) (fun t ht hW => ⟨_, ws, rfl, rfl, hhr, hpx, by rw [ht]; exact hP, hD, hS.F ht⟩) hS.2.2 hd hlocks
    · cases hs
  | lreturn =>
    unfold ae_step at hs; (try dsimp only at hs)
    replace hs := ae_cond hs; obtain ⟨q0, hs⟩ := hs
    obtain ⟨q1, q2⟩ := ae_band q0
    have q1 := ae_ble q1
    have q2 := ae_ble q2
    split at hs
    · next x hret =>
      cases hs
      rcases hQ with hQ | hQ
      · exact absurd hQ.1 (by intro z; cases z)
      intro ws H locs ls lvC stC hl hlr hsr hhr hpx hP hD hS
      obtain ⟨xs, rfl, hy, hs1⟩ := ae_sr_l hsr
      rw [show xs = [] from hs1, hQ]
      refine W.widen q1 q2 ?_
      exact W.lret hx hb (hrt.trans hret) (fun t ht hW => ⟨_, ws, rfl, ⟨_, rfl, rfl, hy⟩, hhr, hpx, by rw [ht]; exact hP, hD, hS.F ht⟩) hS.2.2 hd hlocks
    · cases hs
  | invokestatic idx =>
    unfold ae_step at hs; (try dsimp only at hs)
    exact ae_call_ok hStr X0 hR (vir := 0) hd (by omega) hK hC hs
  | invokevirtual idx =>
    unfold ae_step at hs; (try dsimp only at hs)
    exact ae_call_ok hStr X0 hR (vir := 1) hd (by omega) hK hC hs
  | invokespecial idx =>
    unfold ae_step at hs; (try dsimp only at hs)
    exact ae_call_ok hStr X0 hR (vir := 2) hd (by omega) hK hC hs
  | _ => exact absurd hs (by unfold ae_step; simp)
end
