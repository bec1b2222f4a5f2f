theorem ae_KK_of {s : State} {args : Array Value} (hts : ∀ w ∈ lw_tbl, w.before args s = true) : ∃ (D : va_G) (kA : Nat → ClassId), ae_KK D kA s := by
  have hg : ∀ w ∈ ae_gw, w.before args s = true := fun w hw => hts w (ae_gw_tbl hw)
  have h1 : ∀ k : Nat, ∃ q : ClassId × (Nat → Nat), ∀ r : vw_C, ae_cl[k]? = some r → u_Kn s r.1 r.2.1 r.2.2 q.1 q.2 := by
    intro k
    cases hk : ae_cl[k]? with
    | none => exact ⟨(0, fun _ => 0), fun r hr => by cases hr⟩
    | some r0 =>
      obtain ⟨ty, hlay, -, -, hins, -⟩ := ae_cls k r0 hk
      obtain ⟨cC, iS, hKn⟩ := u_known (C := r0.1) (T := r0.2.1) (N := r0.2.2) (n := r0.2.2) hg hlay (hg _ hins)
      exact ⟨(cC, iS), fun r hr => by cases hr; exact hKn⟩
  obtain ⟨f, hf⟩ := Classical.axiomOfChoice h1
  have harr : ∀ (p0 : Nat) (ty : FieldType), lw_tbl[p0]? = some (.arrayClass ty) → ∃ cA : ClassId, ArrOfT s cA ty ∧ s.vm.findClass ("[" ++ ty.toString) = some cA := by
    intro p0 ty h0
    obtain ⟨cA, k, comp, e1, e2, e3⟩ := Cond.arrayClass_spec (hts _ (List.mem_of_getElem? h0))
    exact ⟨cA, fun N z => ⟨(fun k h => by cases h), k, e2, comp, e3⟩, e1⟩
  obtain ⟨a0, b0, c0⟩ := harr 200 .int (by decide +kernel)
  obtain ⟨a1, b1, c1⟩ := harr 239 .byte (by decide +kernel)
  obtain ⟨a2, b2, c2⟩ := harr 510 .boolean (by decide +kernel)
  obtain ⟨a3, b3, c3⟩ := harr 478 .long (by decide +kernel)
  have hov : (Jvm.Cond.arrayOver (.object RX0)).before args s = true := hts _ (List.mem_of_getElem? (i := 557) (by decide +kernel))
  obtain ⟨comp, a4, k4, e1, -, e2, e3, e4⟩ := Cond.arrayOver_spec hov
  refine ⟨(fun k => (f k).1, fun k => (f k).2), fun t => match t with
    | 0 => a0
    | 1 => a1
    | 2 => a2
    | 3 => a3
    | _ => a4, ⟨fun k r hr => hf k r hr, fun k q hk => ?_⟩, va_AO.of hov, fun w hw => ?_⟩
  · match k, hk with
    | 0, hk => cases hk; exact ⟨b0, c0⟩
    | 1, hk => cases hk; exact ⟨b1, c1⟩
    | 2, hk => cases hk; exact ⟨b2, c2⟩
    | 3, hk => cases hk; exact ⟨b3, c3⟩
    | 4, hk => cases hk; exact ⟨fun N z => ⟨(fun k h => by cases h), k4, e2, comp, e3⟩, k4, comp, e2, e3, e1, e4⟩
    | n + 5, hk => simp [ae_tys] at hk
  · obtain ⟨h2, h3⟩ := List.mem_filter.mp hw
    cases w <;> first | exact va_Nw.of rfl (hts _ h2) | cases h3
section
variable {p : Program} {l : Launch} {e : Env} {s : State} {m : MethodId} {args : Array Value} {below : List Frame} {meth : Method} {c : Code} {Q : State → Prop} {D : va_G} {kA : Nat → ClassId} {A : Nat → Prop} {M : ae_M} {R : Room} {pc ce sl : Nat} {h : ae_H} {ws : va_W} {H : Heap} {locs : List Loc} {ls : Array Slot} {stC : List Value}
/-- a new object, at a state of the machine -/
theorem ae_newoW (X : ae_Cx p s m args meth c D kA A M) (hR : R = ae_room M) {idx ci k0 : Nat} {fs : List ae_V} (hd : decode M.2.2.1 pc = .ok (.new idx, 3)) (hc : ae_cp M.1 idx = some (3, ci, k0)) (hf : ae_nf ci = some fs) (hl1 : h.1 < 256) (hce : ce + 1 ≤ M.2.2.2.2.2.2.2.2.2.1) (hsl : sl + fs.length ≤ M.2.2.2.2.2.2.2.2.2.2) (hhr : ae_hr kA ws h) (hP : va_P D ae_cl ws H) (hD : va_D A ws) (hS : va_S A s.heap H locs)
    (kk : ∀ (ws1 : va_W) (H1 : Heap) (q : Nat), ae_hr kA ws1 (ae_hp h (.inr (ci, fs))) → ae_px (ae_ad ws) (ae_ad ws1) → (ae_ad ws1)[h.1]? = some q → va_P D ae_cl ws1 H1 → va_D A ws1 → va_S A s.heap H1 locs → W p l e R s m args below meth c H1 locs (ce + 1) (sl + fs.length) Q (F0 m (pc + 3) ls (.ref q :: stC))) : W p l e R s m args below meth c H locs ce sl Q (F0 m pc ls stC) := by
  obtain ⟨hx, hb, hml, hown, hts, ⟨hK, -, -⟩, hA, -⟩ := X
  obtain ⟨T, N, hcl, hlink⟩ := ae_cp_n hc
  obtain ⟨ty, hlay, hty, hnm, hins, hini, -, hfs9, hnf⟩ := ae_cls ci _ hcl
  have hnf : ae_nf ci = some ((List.range N).map (fun k => ae_dv (ty k))) := hnf
  cases hf.symm.trans hnf
  have hlen : ((List.range N).map (fun k => ae_dv (ty k))).length = N := by simp
  rw [hlen] at hsl kk
  subst hR
  refine va_new (D := D) (ci := ci) (Ts := ae_gw) (fs := (List.range N).map (fun k => defaultValue (ty k))) hx hb hts hlay ty hty hown (hts _ hlink) (hts _ hins) (hts _ hini) hK hP hD hS hA hcl (fun j hj => ?_) hce hsl hd (fun q H1 hP1 hD1 hS1 => ?_)
  · unfold vp_V
    rw [List.getD_eq_getElem?_getD, List.getElem?_map, List.getElem?_range hj]; rfl
  · have hsr9 := ae_dvs_ok (ad := ae_ad ws) (ty := ty) (List.range N) (fun k hk => by
      obtain ⟨-, fk, -, hkb⟩ := hfs9 k (List.mem_range.mp hk)
      exact ae_kb_nf hkb)
    obtain ⟨hr2, hat⟩ := ae_hr_push (q := q) (c := .inr (ci, (List.range N).map (fun k => ae_dv (ty k)))) (e := .inr (ci, (List.range N).map (fun k => defaultValue (ty k)))) hhr hl1 ⟨_, rfl, hsr9⟩
    have hp2 := ae_px_push ws (q, .inr (ci, (List.range N).map (fun k => defaultValue (ty k))))
    exact kk _ H1 q hr2 hp2 hat hP1 hD1 hS1
/-- a new array of longs -/
theorem ae_newlW (X : ae_Cx p s m args meth c D kA A M) (hR : R = ae_room M) {n : Nat} (hd : decode M.2.2.1 pc = .ok (.newarray .long, 2)) (hn : n ≤ 60000000) (hl1 : h.1 < 256) (hce : ce + 1 ≤ M.2.2.2.2.2.2.2.2.2.1) (hsl : sl + n ≤ M.2.2.2.2.2.2.2.2.2.2) (hhr : ae_hr kA ws h) (hP : va_P D ae_cl ws H) (hD : va_D A ws) (hS : va_S A s.heap H locs)
    (kk : ∀ (ws1 : va_W) (H1 : Heap) (q : Nat), ae_hr kA ws1 (ae_hp h (.inl (3, n, .inl 0))) → ae_px (ae_ad ws) (ae_ad ws1) → (ae_ad ws1)[h.1]? = some q → va_P D ae_cl ws1 H1 → va_D A ws1 → va_S A s.heap H1 locs → W p l e R s m args below meth c H1 locs (ce + 1) (sl + n) Q (F0 m (pc + 2) ls (.ref q :: stC))) : W p l e R s m args below meth c H locs ce sl Q (F0 m pc ls (.int (nI n) :: stC)) := by
  obtain ⟨hx, hb, hml, hown, hts, ⟨hK, -, -⟩, hA, -⟩ := X
  subst hR
  have hcl : (nI n).toNatClampNeg = n := nI_clamp (by omega)
  have hneg : ¬ nI n < 0 := nI_pos (by omega)
  have harr : (Jvm.Cond.arrayClass .long).before args s = true := hts _ (ae_gw_in (List.mem_of_getElem? (i := 478) (by decide +kernel)) rfl)
  have hv : ∀ cA : ClassId, vp_cell cA (n, .inr (.inl (fun _ => 0))) = arrV cA n (fun _ => defaultValue .long) := fun cA => vp_cell_l cA n _
  have hby : n * componentBytes .long ≤ 536870912 := by show n * 8 ≤ _; omega
  refine va_newa (D := D) (atype := .long) (ty := .long) (N' := n) (n := nI n) (a0 := (n, .inr (.inl (fun _ => 0)))) hx hb harr rfl hK hP hD hS hA hv hneg hcl hby hce hsl hd (fun q cA H1 hK2 hP1 hD1 hS1 => ?_)
  have := ae_kA (t := 3) hK rfl hK2
  subst this
  obtain ⟨hr2, hat⟩ := ae_hr_push (q := q) (c := .inl (3, n, .inl 0)) (e := .inl (kA 3, n, .inr (.inl (fun _ => 0)))) hhr hl1 ⟨_, rfl, Or.inr (Or.inl ⟨rfl, _, 0, rfl, rfl, fun i hi => by rw [ae_rd0]; rfl⟩)⟩
  have hp2 := ae_px_push ws (q, .inl (kA 3, n, .inr (.inl (fun _ => 0))))
  exact kk _ H1 q hr2 hp2 hat hP1 hD1 hS1
end
def ae_Ml : ae_M := (17, yL_law, code, 7, ret, 0, 1, 14, 520, 600002, 7302231)
/-- the law's own heap: everything from its start on -/
abbrev ae_A (s : State) : Nat → Prop := fun q => s.heap.size ≤ q
/-- loading an argument out of the script -/
def ae_ak (pc k : Nat) : Bool := and (decide (decode code pc = .ok (.aload_n 0, 1))) (and (decide (decode code (pc + 1) = .ok (.iload 4, 2))) (and (decide (decode code (pc + 3) = .ok (.iconst (k : Int), 1))) (and (decide (decode code (pc + 4) = .ok (.iadd, 1))) (decide (decode code (pc + 5) = .ok (.iaload, 1))))))
def ae_aks : Nat → List Nat → Bool
  | _, [] => true
  | pc, k :: ks => and (ae_ak pc k) (and (Nat.ble k 5) (ae_aks (pc + 6) ks))
section
variable {p : Program} {l : Launch} {e : Env} {s : State} {m : MethodId} {below : List Frame} {meth : Method} {c : Code} {Q : State → Prop} {D : va_G} {kA : Nat → ClassId} {R : Room} {ce sl : Nat} {ws : va_W} {H : Heap} {locs : List Loc} {ls : Array Slot} {b : Nat} {xs : Nat → Int32} {args : Array Value}
theorem law_arg (hx : p.tables.exec = Jvm.exec) (hb : c.code = code) (hX : va_X b 6 xs s s.heap) (hbl : b < s.heap.size) (hS : va_S (ae_A s) s.heap H locs) (h0 : ls[0]? = some (.val (.ref b))) (h4 : ls[4]? = some (.val (.int 0))) {pc k : Nat} (hk : k ≤ 5) (hc : ae_ak pc k = true) {rest : List Value}
    (kk : W p l e R s m args below meth c H locs ce sl Q (F0 m (pc + 6) ls (.int (xs k) :: rest))) : W p l e R s m args below meth c H locs ce sl Q (F0 m pc ls rest) := by
  obtain ⟨d0, hc⟩ := ae_band hc
  obtain ⟨d1, hc⟩ := ae_band hc
  obtain ⟨d2, hc⟩ := ae_band hc
  obtain ⟨d3, d4⟩ := ae_band hc
  refine lv_aload_n hx hb (of_decide_eq_true d0) rfl h0 ?_
  refine lv_iload hx hb (of_decide_eq_true d1) h4 ?_
  refine lv_iconst (v := nI k) hx hb (of_decide_eq_true d2) (ae_u_ok (k : Int) (by omega) (by omega)) ?_
  refine lv_iadd hx hb (of_decide_eq_true d3) ?_
  have e0 : (0 : Int32) + nI k = nI k := Int32.zero_add _
  rw [e0]
  refine va_sld hx hb hX hbl (Nat.not_le.mpr hbl) hS (vp_in_nI (n := k) (N := 6) (by omega) (by omega)) (of_decide_eq_true d4) ?_
  rw [nI_clamp (by omega)]
  exact kk
theorem ae_aks_c {pc k : Nat} {ks : List Nat} (h : ae_aks pc (k :: ks) = true) : ae_ak pc k = true ∧ k ≤ 5 ∧ ae_aks (pc + 6) ks = true := by
  unfold ae_aks at h
  obtain ⟨c1, hc⟩ := ae_band h
  obtain ⟨c2, c3⟩ := ae_band hc
  exact ⟨c1, ae_ble c2, c3⟩
theorem law_args (hx : p.tables.exec = Jvm.exec) (hb : c.code = code) (hX : va_X b 6 xs s s.heap) (hbl : b < s.heap.size) (hS : va_S (ae_A s) s.heap H locs) (h0 : ls[0]? = some (.val (.ref b))) (h4 : ls[4]? = some (.val (.int 0))) (ks : List Nat) : ∀ (pc : Nat) (rest : List Value), ae_aks pc ks = true →
    W p l e R s m args below meth c H locs ce sl Q (F0 m (pc + 6 * ks.length) ls ((ks.map (fun k => Value.int (xs k))).reverse ++ rest)) → W p l e R s m args below meth c H locs ce sl Q (F0 m pc ls rest) := by
  induction ks with
  | nil => intro pc rest _ kk; simpa using kk
  | cons k ks ih =>
    intro pc rest hc kk
    obtain ⟨c1, c2, c3⟩ := ae_aks_c hc
    refine law_arg hx hb hX hbl hS h0 h4 c2 c1 (ih (pc + 6) _ c3 ?_)
    have e1 : pc + 6 + 6 * ks.length = pc + 6 * (k :: ks).length := by rw [List.length_cons]; omega
    have e2 : ((k :: ks).map (fun k => Value.int (xs k))).reverse ++ rest = (ks.map (fun k => Value.int (xs k))).reverse ++ (.int (xs k) :: rest) := by simp
    rw [e1, ← e2]
    exact kk
end
