/-! WALKS BY HAND: the typed heap, calls -/
theorem wk_hg_o {h : ae_H} {k j : Nat} {c : ae_C} (hk : k < 256) (hne : j ≠ k) : ae_hg (ae_hs h k c) j = ae_hg h j := by
  by_cases hj : j < 256
  · rw [ae_hg_hs hk hj, if_neg hne]
  · have hb : Nat.ble 256 j = true := Nat.ble_eq_true_of_le (by omega)
    unfold ae_hg; rw [hb]; rfl
theorem wk_hg_s {h : ae_H} {k : Nat} {c : ae_C} (hk : k < 256) : ae_hg (ae_hs h k c) k = some c := by rw [ae_hg_hs hk hk, if_pos rfl]
theorem wk_up_of {h : ae_H} {k t n A : Nat} {i v : Int} (hi : 0 ≤ i) (hk : k < 256) (hg : ae_hg h k = some (.inl (t, n, .inl A))) (hv : sv_I v) : wk_up h (ae_hs h k (.inl (t, n, .inl (ae_wr 32 A i.toNat (sv_u v))))) k i v := by
  refine ⟨fun k' i' hi' => ?_, fun k' j => ?_⟩
  · by_cases e : k' = k
    · subst e
      rw [wk_R_of (wk_hg_s hk), wk_R_of hg, ae_rd_wr (show sv_u v < 2 ^ 32 from sv_u_lt v)]
      by_cases e2 : i' = i
      · rw [if_pos (by rw [e2]), if_pos ⟨rfl, e2⟩, sv_g_u hv]
      · rw [if_neg (by omega), if_neg (fun z => e2 z.2)]
    · rw [if_neg (fun z => e z.1)]
      unfold wk_R; rw [wk_hg_o hk e]
  · unfold wk_F
    by_cases e : k' = k
    · subst e
      rw [wk_hg_s hk, hg]
    · rw [wk_hg_o hk e]
theorem wk_uf_of {h : ae_H} {k ci j : Nat} {fs : List ae_V} {v : ae_V} (hk : k < 256) (hg : ae_hg h k = some (.inr (ci, fs))) (hj : j < fs.length) : wk_uf h (ae_hs h k (.inr (ci, fs.set j v))) k j v := by
  refine ⟨fun k' i' => ?_, fun k' j' => ?_⟩
  · unfold wk_R
    by_cases e : k' = k
    · subst e
      rw [wk_hg_s hk, hg]
    · rw [wk_hg_o hk e]
  · by_cases e : k' = k
    · subst e
      rw [wk_F_of (wk_hg_s hk), wk_F_of hg, List.getElem?_set]
      by_cases e2 : j' = j
      · subst e2
        rw [if_pos rfl, if_pos hj, if_pos ⟨rfl, rfl⟩]
      · rw [if_neg (fun z => e2 z.symm), if_neg (fun z => e2 z.2)]
    · rw [if_neg (fun z => e z.1)]
      unfold wk_F; rw [wk_hg_o hk e]
section
variable {ty : Nat → Option Nat} {tt : List sv_T} {mods : List (Nat × Nat)} {h0 : ae_H} {Q : ae_R → Prop} {mi pc : Nat} {M : ae_M} {lv : ae_L} {st : List ae_V} {h : ae_H} {x y : Int}
/-- a row's place is within what its type says -/
theorem wk_rng {k t tag len mask : Nat} {lo hi i : Int} (hh : sv_hk ty tt h) (hk : ty k = some t) (hT : tt[t]? = some (1, tag, len, lo, hi, mask, [])) (hi' : 0 ≤ i ∧ i < len) : lo ≤ wk_R h k i ∧ wk_R h k i ≤ hi ∧ sv_mb mask (wk_R h k i) := by
  obtain ⟨A, g1, g2⟩ := sv_hk_a hh hk hT rfl
  rw [wk_R_of g1]; exact g2 i.toNat (show i.toNat < len by omega)
/-- a field that holds a thing -/
theorem wk_ref {k t ci z0 z1 j t2 : Nat} {a b la lb : Int} {fts : List sv_ft} (hh : sv_hk ty tt h) (hk : ty k = some t) (hT : tt[t]? = some (0, ci, z0, a, b, z1, fts)) (hf : fts[j]? = some (1, la, lb, t2)) : ∃ k2, wk_F h k j = some (wk_r k2) ∧ ty k2 = some t2 := by
  obtain ⟨fs, g1, g2, g3⟩ := sv_hk_o (ci := 0) hh hk hT rfl
  have hj : j < fs.length := by
    have := (List.getElem?_eq_some_iff.mp hf).1
    have g2 : fs.length = fts.length := g2
    omega
  have e := List.getElem?_eq_getElem hj
  obtain ⟨k2, q1, q2⟩ := g3 j _ _ hf e
  exact ⟨k2, by rw [wk_F_of g1, e, q1], q2⟩
/-- a field that holds an int -/
theorem wk_int {k t ci z0 z1 z2 j : Nat} {a b lo hi : Int} {fts : List sv_ft} (hh : sv_hk ty tt h) (hk : ty k = some t) (hT : tt[t]? = some (0, ci, z0, a, b, z1, fts)) (hf : fts[j]? = some (0, lo, hi, z2)) : ∃ x, wk_F h k j = some (wk_i x) ∧ sv_I x ∧ lo ≤ x ∧ x ≤ hi := by
  obtain ⟨fs, g1, g2, g3⟩ := sv_hk_o (ci := 0) hh hk hT rfl
  have hj : j < fs.length := by
    have := (List.getElem?_eq_some_iff.mp hf).1
    have g2 : fs.length = fts.length := g2
    omega
  have e := List.getElem?_eq_getElem hj
  obtain ⟨x, q1, q2, q3, q4⟩ := g3 j _ _ hf e
  exact ⟨x, by rw [wk_F_of g1, e, q1], q2, q3, q4⟩
theorem wk_getf {k t ci z0 z1 j idx : Nat} {a b : Int} {fts : List sv_ft} {v : ae_V} (hM : ae_m mi = some M) (hd : decode M.2.2.1 pc = .ok (.getfield idx, 3)) (hc : ae_cp M.1 idx = some (0, ci, j)) (hh : sv_hk ty tt h) (hk : ty k = some t) (hT : tt[t]? = some (0, ci, z0, a, b, z1, fts)) (hF : wk_F h k j = some v) (g : sv_G Q mi (pc + 3) lv (v :: st) h) : sv_G Q mi pc lv (wk_r k :: st) h := by
  obtain ⟨fs, g1, -, -⟩ := sv_hk_o (ci := 0) hh hk hT rfl
  rw [wk_F_of g1] at hF
  refine sv_G_step hM hd rfl (fun K C => ?_) g
  show (match ae_cp M.1 idx, ae_hg h k with
      | some (0, ci, k), some (.inr (cj, fs)) => cond (Nat.beq ci cj) (match ae_nth fs k with
        | some v => K (Nat.add pc 3) 0 0 lv (v :: st) h
        | none => none) none
      | _, _ => none) = _
  rw [hc, g1]
  show cond (Nat.beq ci ci) (match ae_nth fs j with
        | some v => K (Nat.add pc 3) 0 0 lv (v :: st) h
        | none => none) none = _
  rw [Nat.beq_refl, cond_true, ae_nth_eq, hF]
theorem wk_putf {k t ci z0 z1 j idx fk : Nat} {a b : Int} {fts : List sv_ft} {ft : sv_ft} {v : ae_V} (hM : ae_m mi = some M) (hd : decode M.2.2.1 pc = .ok (.putfield idx, 3)) (hc : ae_cp M.1 idx = some (0, ci, j)) (hty : ∀ q t, ty q = some t → q < 256) (hT0 : sv_Tk ty tt mods h0 h) (hm : (t, j) ∈ mods) (hk : ty k = some t) (hT : tt[t]? = some (0, ci, z0, a, b, z1, fts)) (hf : fts[j]? = some ft) (hfk : ae_fk ci j = some fk) (h10 : Nat.ble 10 fk = false) (hfit : ae_fit fk v = true) (hv : sv_fk ty ft v) (g : ∀ h', sv_Tk ty tt mods h0 h' → wk_uf h h' k j v → sv_fr ty [(t, j)] h h' → sv_G Q mi (pc + 3) lv st h') : sv_G Q mi pc lv (v :: wk_r k :: st) h := by
  obtain ⟨fs, g1, g2, g3⟩ := sv_hk_o (ci := 0) hT0.1 hk hT rfl
  have hj : j < fs.length := by
    have := (List.getElem?_eq_some_iff.mp hf).1
    have g2 : fs.length = fts.length := g2
    omega
  obtain ⟨p1, p2, p3⟩ := sv_put_ok hty hT0.1 hk hT rfl g1 g2 g3 hf hv
  refine sv_G_step hM hd rfl (fun K C => ?_) (g _ ⟨p1, hT0.2.tr (p2.wd (fun q hq => by rw [List.mem_singleton.mp hq]; exact hm))⟩ (wk_uf_of (hty k t hk) g1 hj) p2)
  show (match ae_cp M.1 idx, ae_hg h k with
      | some (0, ci, f), some (.inr (cj, fs)) => cond (Nat.beq ci cj) (match ae_fk ci f, ae_nth fs f with
        | some fk, some _ => cond (and (cond (Nat.ble 10 fk) (and (Nat.beq M.2.2.2.2.2.1 2) (Nat.beq M.1 ci)) true) (cond (Nat.ble 10 fk) (ae_fit (Nat.sub fk 10) v) (ae_fit fk v))) (K (Nat.add pc 3) 0 0 lv st (ae_hs h k (.inr (cj, ae_set fs v f)))) none
        | _, _ => none) none
      | _, _ => none) = _
  rw [hc, g1]
  show cond (Nat.beq ci ci) (match ae_fk ci j, ae_nth fs j with
        | some fk, some _ => cond (and (cond (Nat.ble 10 fk) (and (Nat.beq M.2.2.2.2.2.1 2) (Nat.beq M.1 ci)) true) (cond (Nat.ble 10 fk) (ae_fit (Nat.sub fk 10) v) (ae_fit fk v))) (K (Nat.add pc 3) 0 0 lv st (ae_hs h k (.inr (ci, ae_set fs v j)))) none
        | _, _ => none) none = _
  rw [Nat.beq_refl, cond_true, hfk, ae_nth_eq, List.getElem?_eq_getElem hj]
  show cond (and (cond (Nat.ble 10 fk) (and (Nat.beq M.2.2.2.2.2.1 2) (Nat.beq M.1 ci)) true) (cond (Nat.ble 10 fk) (ae_fit (Nat.sub fk 10) v) (ae_fit fk v))) (K (Nat.add pc 3) 0 0 lv st (ae_hs h k (.inr (ci, ae_set fs v j)))) none = _
  rw [h10, cond_false, cond_false, hfit, Bool.and_self, cond_true, ae_set_eq]
theorem wk_iald {k t len mask : Nat} {lo hi : Int} (hM : ae_m mi = some M) (hd : decode M.2.2.1 pc = .ok (.iaload, 1)) (hty : ∀ q t, ty q = some t → q < 256) (hh : sv_hk ty tt h) (hk : ty k = some t) (hT : tt[t]? = some (1, 0, len, lo, hi, mask, [])) (hl : len < 2147483648) (hx : 0 ≤ x ∧ x < len) (g : lo ≤ wk_R h k x → wk_R h k x ≤ hi → sv_G Q mi (pc + 1) lv (wk_i (wk_R h k x) :: st) h) : sv_G Q mi pc lv (wk_i x :: wk_r k :: st) h := by
  obtain ⟨r1, r2, -⟩ := wk_rng hh hk hT hx
  obtain ⟨A, g1, -⟩ := sv_hk_a hh hk hT rfl
  have g1 : ae_hg h k = some (.inl (0, len, .inl A)) := g1
  have ex : sv_u x = x.toNat := sv_u_nn hx.1 (by omega)
  have hb : Nat.ble 256 k = false := by
    cases hb : Nat.ble 256 k with
    | false => rfl
    | true => have := Nat.le_of_ble_eq_true hb; have := hty k t hk; omega
  refine sv_G_step hM hd rfl (fun K C => ?_) (g r1 r2)
  show cond (Nat.ble 256 k) (ae_ldx (wk_i x :: wk_r k :: st) fun st => K (Nat.add pc 1) 0 0 lv st h) (ae_ald 0 (wk_i x :: wk_r k :: st) h fun st => K (Nat.add pc 1) 0 0 lv st h) = _
  rw [hb, cond_false, wk_R_of g1]
  show ae_ald 0 (.inl (.inl (sv_u x)) :: .inr (.inr (some k)) :: st) h _ = _
  rw [ex, sv_ald (by omega) g1 rfl (show x.toNat < len by omega) hl]
  show K _ _ _ _ (.inl (.inl (ae_rd 32 A x.toNat)) :: st) h = K _ _ _ _ (.inl (.inl (sv_u (sv_g (ae_rd 32 A x.toNat)))) :: st) h
  rw [sv_rd_u]
theorem wk_bald {k t tag len mask : Nat} {lo hi : Int} (hM : ae_m mi = some M) (hd : decode M.2.2.1 pc = .ok (.baload, 1)) (hh : sv_hk ty tt h) (hk : ty k = some t) (hT : tt[t]? = some (1, tag, len, lo, hi, mask, [])) (ht : tag = 1 ∨ tag = 2) (hl : len < 2147483648) (hx : 0 ≤ x ∧ x < len) (g : lo ≤ wk_R h k x → wk_R h k x ≤ hi → sv_G Q mi (pc + 1) lv (wk_i (wk_R h k x) :: st) h) : sv_G Q mi pc lv (wk_i x :: wk_r k :: st) h := by
  obtain ⟨r1, r2, -⟩ := wk_rng hh hk hT hx
  obtain ⟨A, g1, -⟩ := sv_hk_a hh hk hT rfl
  have g1 : ae_hg h k = some (.inl (tag, len, .inl A)) := g1
  have ex : sv_u x = x.toNat := sv_u_nn hx.1 (by omega)
  have hq : ae_tq tag 1 = true := by rcases ht with e | e <;> subst e <;> rfl
  refine sv_G_step hM hd rfl (fun K C => ?_) (g r1 r2)
  show ae_ald 1 (.inl (.inl (sv_u x)) :: .inr (.inr (some k)) :: st) h (fun st => K (Nat.add pc 1) 0 0 lv st h) = _
  rw [wk_R_of g1, ex, sv_ald (by omega) g1 hq (show x.toNat < len by omega) hl]
  show K _ _ _ _ (.inl (.inl (ae_rd 32 A x.toNat)) :: st) h = K _ _ _ _ (.inl (.inl (sv_u (sv_g (ae_rd 32 A x.toNat)))) :: st) h
  rw [sv_rd_u]
theorem wk_st {k t tag len mask i : Nat} {lo hi v : Int} {A : Nat} (hty : ∀ q t, ty q = some t → q < 256) (hT0 : sv_Tk ty tt mods h0 h) (hm : (t, 0) ∈ mods) (hk : ty k = some t) (hT : tt[t]? = some (1, tag, len, lo, hi, mask, [])) (g1 : ae_hg h k = some (.inl (tag, len, .inl A))) (hv : lo ≤ v ∧ v ≤ hi) (hv2 : sv_I v) (hmb : sv_mb mask v) :
    sv_Tk ty tt mods h0 (ae_hs h k (.inl (tag, len, .inl (ae_wr 32 A i (sv_u v))))) ∧ sv_fr ty [(t, 0)] h (ae_hs h k (.inl (tag, len, .inl (ae_wr 32 A i (sv_u v))))) := by
  obtain ⟨p1, p2, -, -⟩ := sv_row_ok (c := (tag, len, .inl (ae_wr 32 A i (sv_u v)))) hty hT0.1 hk hT g1 (fun h' hg' => ⟨_, hg', fun j hj => by
    obtain ⟨r1, r2, r3⟩ := wk_rng (i := (j : Int)) hT0.1 hk hT ⟨by omega, by have hj : j < len := hj; omega⟩
    rw [wk_R_of g1, Int.toNat_natCast] at r1 r2 r3
    rw [ae_rd_wr (show sv_u v < 2 ^ 32 from sv_u_lt v)]
    by_cases e : j = i
    · rw [if_pos e, sv_g_u hv2]; exact ⟨hv.1, hv.2, hmb⟩
    · rw [if_neg e]; exact ⟨r1, r2, r3⟩⟩)
  exact ⟨⟨p1, hT0.2.tr (p2.wd (fun q hq => by rw [List.mem_singleton.mp hq]; exact hm))⟩, p2⟩
theorem wk_iast {k t len mask : Nat} {lo hi v : Int} (hM : ae_m mi = some M) (hd : decode M.2.2.1 pc = .ok (.iastore, 1)) (hty : ∀ q t, ty q = some t → q < 256) (hT0 : sv_Tk ty tt mods h0 h) (hm : (t, 0) ∈ mods) (hk : ty k = some t) (hT : tt[t]? = some (1, 0, len, lo, hi, mask, [])) (hl : len < 2147483648) (hx : 0 ≤ x ∧ x < len) (hv : lo ≤ v ∧ v ≤ hi) (hv2 : sv_I v) (hmb : sv_mb mask v) (g : ∀ h', sv_Tk ty tt mods h0 h' → wk_up h h' k x v → sv_fr ty [(t, 0)] h h' → sv_G Q mi (pc + 1) lv st h') : sv_G Q mi pc lv (wk_i v :: wk_i x :: wk_r k :: st) h := by
  obtain ⟨A, g1, -⟩ := sv_hk_a hT0.1 hk hT rfl
  have g1 : ae_hg h k = some (.inl (0, len, .inl A)) := g1
  have ex : sv_u x = x.toNat := sv_u_nn hx.1 (by omega)
  obtain ⟨p1, p2⟩ := wk_st (i := x.toNat) hty hT0 hm hk hT g1 hv hv2 hmb
  refine sv_G_step hM hd rfl (fun K C => ?_) (g _ p1 (wk_up_of hx.1 (hty k t hk) g1 hv2) p2)
  show ae_ast 0 (.inl (.inl (sv_u v)) :: .inl (.inl (sv_u x)) :: .inr (.inr (some k)) :: st) h (fun st h => K (Nat.add pc 1) 0 0 lv st h) = _
  unfold ae_ast; dsimp only
  rw [g1, ex]
  show cond (and (ae_tq 0 0) (ae_in (.inl x.toNat) len)) (ae_f (ae_wr 32 A x.toNat (sv_u v)) fun B => K (Nat.add pc 1) 0 0 lv st (ae_hs h k (.inl (0, len, .inl B)))) none = _
  rw [sv_in_i (show x.toNat < len by omega) hl, ae_f_eq]; rfl
theorem wk_bast {k t tag len mask : Nat} {lo hi v : Int} (hM : ae_m mi = some M) (hd : decode M.2.2.1 pc = .ok (.bastore, 1)) (hty : ∀ q t, ty q = some t → q < 256) (hT0 : sv_Tk ty tt mods h0 h) (hm : (t, 0) ∈ mods) (hk : ty k = some t) (hT : tt[t]? = some (1, tag, len, lo, hi, mask, [])) (hl : len < 2147483648) (hx : 0 ≤ x ∧ x < len) (hv : lo ≤ v ∧ v ≤ hi) (ht : tag = 1 ∧ -128 ≤ v ∧ v ≤ 127 ∨ tag = 2 ∧ 0 ≤ v ∧ v ≤ 1) (hmb : sv_mb mask v) (g : ∀ h', sv_Tk ty tt mods h0 h' → wk_up h h' k x v → sv_fr ty [(t, 0)] h h' → sv_G Q mi (pc + 1) lv st h') : sv_G Q mi pc lv (wk_i v :: wk_i x :: wk_r k :: st) h := by
  obtain ⟨A, g1, -⟩ := sv_hk_a hT0.1 hk hT rfl
  have g1 : ae_hg h k = some (.inl (tag, len, .inl A)) := g1
  have hv2 : sv_I v := by unfold sv_I; omega
  have ex : sv_u x = x.toNat := sv_u_nn hx.1 (by omega)
  obtain ⟨p1, p2⟩ := wk_st (i := x.toNat) hty hT0 hm hk hT g1 hv hv2 hmb
  refine sv_G_step hM hd rfl (fun K C => ?_) (g _ p1 (wk_up_of hx.1 (hty k t hk) g1 hv2) p2)
  show ae_ast 1 (.inl (.inl (sv_u v)) :: .inl (.inl (sv_u x)) :: .inr (.inr (some k)) :: st) h (fun st h => K (Nat.add pc 1) 0 0 lv st h) = _
  unfold ae_ast; dsimp only
  rw [g1, ex]
  show cond (and (ae_tq tag 1) (ae_in (.inl x.toNat) len)) (ae_f (ae_wr 32 A x.toNat (cond (Nat.beq tag 0) (sv_u v) (cond (Nat.beq tag 1) (ae_b8 (sv_u v)) (Nat.mod (sv_u v) 2)))) fun B => K (Nat.add pc 1) 0 0 lv st (ae_hs h k (.inl (tag, len, .inl B)))) none = _
  have hu := sv_uc v
  rcases ht with ⟨e, v1, v2⟩ | ⟨e, v1, v2⟩
  · subst e
    have e8 : ae_b8 (sv_u v) = sv_u v := by
      unfold ae_b8
      cases hb : Nat.ble 128 (Nat.mod (sv_u v) 256) with
      | true =>
        have hb : 128 ≤ sv_u v % 256 := Nat.le_of_ble_eq_true hb
        rw [cond_true]
        show sv_u v % 256 + 4294967040 = _
        omega
      | false =>
        have hb : ¬ 128 ≤ sv_u v % 256 := fun z => by rw [show Nat.ble 128 (Nat.mod (sv_u v) 256) = true from Nat.ble_eq_true_of_le z] at hb; cases hb
        rw [cond_false]
        show sv_u v % 256 = _
        omega
    rw [sv_in_i (show x.toNat < len by omega) hl, ae_f_eq]
    show K _ _ _ _ _ (ae_hs h k (.inl (1, len, .inl (ae_wr 32 A x.toNat (ae_b8 (sv_u v)))))) = _
    rw [e8]
  · subst e
    have e8 : Nat.mod (sv_u v) 2 = sv_u v := by show sv_u v % 2 = _; omega
    rw [sv_in_i (show x.toNat < len by omega) hl, ae_f_eq]
    show K _ _ _ _ _ (ae_hs h k (.inl (2, len, .inl (ae_wr 32 A x.toNat (Nat.mod (sv_u v) 2))))) = _
    rw [e8]
/-- what a call may leave: rows and fields that are not named -/
theorem wk_fr_R {k t : Nat} {T : sv_T} {h' : ae_H} (hh : sv_hk ty tt h) (hf : sv_fr ty mods h h') (hk : ty k = some t) (hT : tt[t]? = some T) (h1 : T.1 = 1) (hm : (t, 0) ∉ mods) (i : Int) : wk_R h' k i = wk_R h k i := by
  obtain ⟨A, g1, -⟩ := sv_hk_a hh hk hT h1
  have g2 := hf k t hk _ g1 hm
  rw [wk_R_of g1, wk_R_of g2]
theorem wk_fr_F {k t j : Nat} {T : sv_T} {h' : ae_H} (hh : sv_hk ty tt h) (hf : sv_fr ty mods h h') (hk : ty k = some t) (hT : tt[t]? = some T) (h1 : T.1 = 0) (hm : (t, j) ∉ mods) : wk_F h' k j = wk_F h k j := by
  obtain ⟨fs, g1, -, -⟩ := sv_hk_o (ci := 0) hh hk hT h1
  obtain ⟨fs', g2, g3⟩ := hf k t hk _ g1
  rw [wk_F_of g1, wk_F_of g2, g3 j hm]
theorem wk_rcv {k t ci z0 z1 : Nat} {a b : Int} {fts : List sv_ft} {as : List ae_V} (hh : sv_hk ty tt h) (hk : ty k = some t) (hT : tt[t]? = some (0, ci, z0, a, b, z1, fts)) : ae_rcv 1 (wk_r k :: as) h ci = true := by
  obtain ⟨fs, g1, -, -⟩ := sv_hk_o (ci := 0) hh hk hT rfl
  show (match ae_hg h k with
    | some (.inr (ci2, _)) => Nat.beq ci2 ci
    | _ => false) = true
  rw [g1]; exact Nat.beq_refl ci
end
section
variable {Q : ae_R → Prop} {mi pc : Nat} {M : ae_M} {lv : ae_L} {st : List ae_V} {h : ae_H}
/-- the link leads to a method -/
noncomputable def wk_cc (own idx mj : Nat) : Bool := match ae_cp own idx with
  | some (1, m, _) => Nat.beq m mj
  | some (2, m, _) => Nat.beq m mj
  | _ => false
theorem wk_cc_ok {own idx mj : Nat} (h : wk_cc own idx mj = true) : ∃ kd z, ae_cp own idx = some (kd, mj, z) ∧ (kd = 1 ∨ kd = 2) := by
  unfold wk_cc at h
  split at h
  · next m z e => rw [Nat.eq_of_beq_eq_true h] at e; exact ⟨1, z, e, Or.inl rfl⟩
  · next m z e => rw [Nat.eq_of_beq_eq_true h] at e; exact ⟨2, z, e, Or.inr rfl⟩
  · cases h
theorem wk_call {vir idx mj : Nat} {N : ae_M} {as rest : List ae_V} {i : Instr} (hi : i = .invokestatic idx ∧ vir = 0 ∨ i = .invokevirtual idx ∧ vir = 1) (hM : ae_m mi = some M) (hd : decode M.2.2.1 pc = .ok (i, 3)) (hcc : wk_cc M.1 idx mj = true) (hN : ae_m mj = some N)
    (hB : and (Nat.beq N.2.2.2.2.2.1 vir) (and (Nat.blt N.2.2.2.2.2.2.2.1 M.2.2.2.2.2.2.2.1) (and (Nat.ble (Nat.add (Nat.add 19 N.2.2.2.1) N.2.2.2.2.2.2.2.2.1) M.2.2.2.2.2.2.2.2.1) (and (Nat.beq N.2.2.2.2.2.2.2.2.2.1 0) (Nat.beq N.2.2.2.2.2.2.2.2.2.2 0)))) = true)
    (hp : ae_pop (cond (Nat.beq vir 0) N.2.2.2.2.2.2.1 (Nat.succ N.2.2.2.2.2.2.1)) [] st = some (as, rest)) (hD : and (Nat.ble (ae_catS rest) 8) (Nat.ble (ae_catS as) N.2.2.2.1) = true) (hrc : ae_rcv vir as h N.1 = true)
    (g : sv_G (fun r => sv_G Q mi (pc + 3) lv (sv_push r.1 rest) r.2) mj 0 (ae_args as 0) [] h) : sv_G Q mi pc lv st h := by
  obtain ⟨kd, z, hc, hkd⟩ := wk_cc_ok hcc
  have main : ∀ (K : ae_K) (C : Nat → List ae_V → ae_H → Option ae_R) (r : ae_R), C mj as h = some r → ae_call M vir idx pc 0 0 lv st h K C = K (Nat.add pc 3) 0 0 lv (sv_push r.1 rest) r.2 := fun K C r hr => by
    simp only [Bool.and_eq_true] at hB
    obtain ⟨b1, b2, b3, b4, b5⟩ := hB
    have b4 := Nat.eq_of_beq_eq_true b4
    have b5 := Nat.eq_of_beq_eq_true b5
    have mm : (match ae_m mj with
            | some N => cond (and (Nat.beq N.2.2.2.2.2.1 vir) (and (Nat.blt N.2.2.2.2.2.2.2.1 M.2.2.2.2.2.2.2.1) (and (Nat.ble (Nat.add (Nat.add 19 N.2.2.2.1) N.2.2.2.2.2.2.2.2.1) M.2.2.2.2.2.2.2.2.1) (and (Nat.ble (Nat.add 0 N.2.2.2.2.2.2.2.2.2.1) M.2.2.2.2.2.2.2.2.2.1) (Nat.ble (Nat.add 0 N.2.2.2.2.2.2.2.2.2.2) M.2.2.2.2.2.2.2.2.2.2))))) (match ae_pop (cond (Nat.beq vir 0) N.2.2.2.2.2.2.1 (Nat.succ N.2.2.2.2.2.2.1)) [] st with
              | some (as, rest) => cond (and (and (Nat.ble (ae_catS rest) 8) (Nat.ble (ae_catS as) N.2.2.2.1)) (ae_rcv vir as h N.1)) (match C mj as h with
                | some (some v, h2) => ae_f (Nat.add 0 N.2.2.2.2.2.2.2.2.2.1) fun ce2 => ae_f (Nat.add 0 N.2.2.2.2.2.2.2.2.2.2) fun sl2 => K (Nat.add pc 3) ce2 sl2 lv (v :: rest) h2
                | some (none, h2) => ae_f (Nat.add 0 N.2.2.2.2.2.2.2.2.2.1) fun ce2 => ae_f (Nat.add 0 N.2.2.2.2.2.2.2.2.2.2) fun sl2 => K (Nat.add pc 3) ce2 sl2 lv rest h2
                | none => none) none
              | none => none) none
            | none => none) = K (Nat.add pc 3) 0 0 lv (sv_push r.1 rest) r.2 := by
      rw [hN]
      show cond (and (Nat.beq N.2.2.2.2.2.1 vir) (and (Nat.blt N.2.2.2.2.2.2.2.1 M.2.2.2.2.2.2.2.1) (and (Nat.ble (Nat.add (Nat.add 19 N.2.2.2.1) N.2.2.2.2.2.2.2.2.1) M.2.2.2.2.2.2.2.2.1) (and (Nat.ble (Nat.add 0 N.2.2.2.2.2.2.2.2.2.1) M.2.2.2.2.2.2.2.2.2.1) (Nat.ble (Nat.add 0 N.2.2.2.2.2.2.2.2.2.2) M.2.2.2.2.2.2.2.2.2.2))))) _ none = _
      rw [b1, b2, b3, b4, b5, hp]
      have z1 : Nat.ble (Nat.add 0 0) M.2.2.2.2.2.2.2.2.2.1 = true := Nat.ble_eq_true_of_le (Nat.zero_le _)
      have z2 : Nat.ble (Nat.add 0 0) M.2.2.2.2.2.2.2.2.2.2 = true := Nat.ble_eq_true_of_le (Nat.zero_le _)
      rw [z1, z2]
      show cond (and (and (Nat.ble (ae_catS rest) 8) (Nat.ble (ae_catS as) N.2.2.2.1)) (ae_rcv vir as h N.1)) (match C mj as h with
                | some (some v, h2) => ae_f (Nat.add 0 0) fun ce2 => ae_f (Nat.add 0 0) fun sl2 => K (Nat.add pc 3) ce2 sl2 lv (v :: rest) h2
                | some (none, h2) => ae_f (Nat.add 0 0) fun ce2 => ae_f (Nat.add 0 0) fun sl2 => K (Nat.add pc 3) ce2 sl2 lv rest h2
                | none => none) none = _
      rw [hD, hrc, hr]
      obtain ⟨v, h2⟩ := r
      cases v with
      | none => rfl
      | some v => rfl
    rcases hkd with e | e
    · subst e
      unfold ae_call
      rw [hc]
      exact mm
    · subst e
      unfold ae_call
      rw [hc]
      exact mm
  rcases hi with ⟨e, ev⟩ | ⟨e, ev⟩
  · subst e ev
    exact sv_G_call hM hd rfl main g
  · subst e ev
    exact sv_G_call hM hd rfl main g
end
