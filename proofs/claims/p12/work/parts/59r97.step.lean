def ae_room (M : ae_M) : Room := { frames := M.2.2.2.2.2.2.2.1, cells := M.2.2.2.2.2.2.2.2.2.1, slots := M.2.2.2.2.2.2.2.2.2.2, locals := M.2.2.2.2.2.2.2.2.1 }
def ae_tys (kA : Nat → ClassId) : List (ClassId × FieldType) := [(kA 0, .int), (kA 1, .byte), (kA 2, .boolean), (kA 3, .long), (kA 4, .object RX0)]
def ae_nest : Jvm.Cond → Bool
  | .methodLinkNest _ _ _ _ => true
  | _ => false
def ae_nl : List Jvm.Cond := lw_tbl.filter ae_nest
/-- what the tables say of a state, and stays so -/
def ae_KK (D : va_G) (kA : Nat → ClassId) (U : State) : Prop := va_K D ae_cl (ae_tys kA) U ∧ va_AO RX0 U ∧ ∀ w ∈ ae_nl, va_Nw w U
def ae_xr9 (j : Nat) : List Nat := ae_exs.getD j []
/-- what stands outside the own heap, where references from 256 on lead: static rows, texts, statics of the JDK -/
def ae_EX (kA : Nat → ClassId) (A : Nat → Prop) (U : State) (H : Heap) : Prop :=
  (∀ j, j < 3 → va_Z "PlugHall$Board" (ae_sn j) "[I" (.ref (kA (256 + j))) A U H ∧ va_T .int (kA (256 + j)) (ae_xr9 j).length (fun i => .int (nI ((ae_xr9 j).getD i 0))) A U H) ∧
  (∀ own idx j z, ae_cp own idx = some (21, j, z) → ∃ tx, vk_R (ae_on own) idx tx (kA (256 + j)) U) ∧
  (∃ adV : Nat → Nat, vk_S 6 ((ae_exs.drop 3).map List.length) ((ae_exs.drop 3).map (List.map nI)) (fun i => kA (259 + i)) adV A U H) ∧
  va_Z "java/lang/String" "COMPACT_STRINGS" "Z" (.int 1) A U H ∧
  ∃ v : Value, (v = .null ∨ ∃ t, v = .ref t) ∧ va_Z "jdk/internal/util/Preconditions" "SIOOBE_FORMATTER" "Ljava/util/function/BiFunction;" v A U H
theorem ae_EX.to {kA : Nat → ClassId} {A B : Nat → Prop} {s U : State} {H H1 : Heap} (hvm : s.vm.Alike U.vm) (hR : ∀ own k tx a, vk_R own k tx a s → vk_R own k tx a U) (hq : ∀ a : Nat, a < H.size → ¬ A a → H1[a]? = H[a]?) (hAB : ∀ q, B q → A q) (h : ae_EX kA A s H) : ae_EX kA B U H1 := by
  obtain ⟨h1, h2, ⟨adV, h3⟩, h4, v, h5, h6⟩ := h
  refine ⟨fun j hj => ⟨((h1 j hj).1.moved hvm |>.kept hq).narrow hAB, ((h1 j hj).2.moved hvm |>.kept hq).narrow hAB⟩, fun own idx j z hc => ?_, ⟨adV, ((h3.moved hvm).kept hq).narrow hAB⟩, ((h4.moved hvm).kept hq).narrow hAB, v, h5, ((h6.moved hvm).kept hq).narrow hAB⟩
  obtain ⟨tx, h9⟩ := h2 own idx j z hc
  exact ⟨tx, hR _ _ _ _ h9⟩
theorem ae_EX.warm {kA : Nat → ClassId} {A B : Nat → Prop} {s U : State} {H H1 : Heap} (hW : s.WarmedH U.vm) (hq : ∀ a : Nat, a < H.size → ¬ A a → H1[a]? = H[a]?) (hAB : ∀ q, B q → A q) (h : ae_EX kA A s H) : ae_EX kA B U H1 := h.to hW.alike (fun _ _ _ _ => vk_R.warm hW) hq hAB
theorem ae_EX.call {kA : Nat → ClassId} {A : Nat → Prop} {U : State} {H : Heap} {g : JFrame} {mk : MethodId} {a : Array Value} (h : ae_EX kA A U H) : ae_EX kA A (U.calling g mk a) H := h.to (s := U) (U := U.calling g mk a) (Vm.Alike.refl U.vm) (fun _ _ _ _ => vk_R.same (u := U) (U := U.calling g mk a) rfl) (fun _ _ _ => rfl) (fun _ q => q)
def ae_At (p : Program) (l : Launch) (e : Env) (R : Room) (s : State) (m : MethodId) (args : Array Value) (below : List Frame) (meth : Method) (c : Code) (Q : State → Prop) (D : va_G) (kA : Nat → ClassId) (A : Nat → Prop) (pre : Nat → Option Nat) (nL pc ce sl : Nat) (lv : ae_L) (st : List ae_V) (h : ae_H) : Prop :=
  ∀ (ws : va_W) (H : Heap) (locs : List Loc) (ls : Array Slot) (lvC : List (Nat × Value)) (stC : List Value), lv_has ls nL lvC → ae_lr (ae_ad kA ws) lv lvC → ae_sr (ae_ad kA ws) st stC → ae_hr kA ws h → ae_px pre (ae_ad kA ws) → va_P D ae_cl ws H → va_D A ws → va_S A s.heap H locs → W p l e R s m args below meth c H locs ce sl Q (F0 m pc ls stC)
def ae_Cx (p : Program) (s : State) (m : MethodId) (args : Array Value) (meth : Method) (c : Code) (D : va_G) (kA : Nat → ClassId) (A : Nat → Prop) (M : ae_M) : Prop :=
  p.tables.exec = Jvm.exec ∧ c.code = M.2.2.1 ∧ c.maxLocals = M.2.2.2.1 ∧ s.vm.findClass (ae_on M.1) = some m.cls ∧ (∀ w ∈ ae_gw, w.before args s = true) ∧ ae_KK D kA s ∧ (∀ q, s.heap.size ≤ q → A q) ∧ (M.2.2.2.2.2.1 = 2 → meth.name = "<init>") ∧ meth.sig.returnType = M.2.2.2.2.1 ∧ meth.locks = false ∧ ae_EX kA A s s.heap
theorem ae_cp_f {own idx ci k : Nat} (h : ae_cp own idx = some (0, ci, k)) : ∃ (C : String) (T : u_T) (N : Nat), ae_cl[ci]? = some (C, T, N) ∧ k < N ∧ Jvm.Cond.fieldLink (ae_on own) idx (T k).1 (T k).2.1 (T k).2.2.1 ∈ ae_gw := by
  obtain ⟨h1, h2⟩ := ae_cp_ok h
  have h1 : (match ae_cl[ci]? with
    | some (_, T, _) => Jvm.Cond.fieldLink (ae_on own) idx (T k).1 (T k).2.1 (T k).2.2.1
    | none => .initialized "") ∈ lw_tbl := h1
  have h2 : (match ae_cl[ci]? with
    | some (_, _, N) => Nat.blt k N
    | none => false) = true := h2
  cases hq : ae_cl[ci]? with
  | none => rw [hq] at h2; cases h2
  | some q =>
    obtain ⟨C, T, N⟩ := q
    rw [hq] at h1 h2
    exact ⟨C, T, N, rfl, ae_blt h2, ae_gw_in h1 rfl⟩
theorem ae_cp_n {own idx ci k : Nat} (h : ae_cp own idx = some (3, ci, k)) : ∃ (T : u_T) (N : Nat), ae_cl[ci]? = some (ae_on ci, T, N) ∧ Jvm.Cond.classLink (ae_on own) idx (ae_on ci) ∈ ae_gw := by
  obtain ⟨h1, h2⟩ := ae_cp_ok h
  have h2 : Nat.blt ci 13 = true := h2
  have hlt := ae_blt h2
  obtain ⟨q, hq⟩ : ∃ q, ae_cl[ci]? = some q := ⟨_, List.getElem?_eq_getElem (show ci < ae_cl.length from hlt)⟩
  obtain ⟨C, T, N⟩ := q
  obtain ⟨ty, -, -, -, -, -, e, -⟩ := ae_cls ci _ hq
  have e : C = ae_on ci := e
  subst e
  exact ⟨T, N, hq, ae_gw_in h1 rfl⟩
section
variable {p : Program} {l : Launch} {e : Env} {s : State} {m : MethodId} {args : Array Value} {below : List Frame} {meth : Method} {c : Code} {Q : State → Prop} {D : va_G} {kA : Nat → ClassId} {A : Nat → Prop} {pre : Nat → Option Nat} {M : ae_M} {R : Room}
  {pc ce sl : Nat} {lv : ae_L} {st : List ae_V} {h : ae_H} {K : ae_K} {r : ae_R}
theorem ae_getf (X : ae_Cx p s m args meth c D kA A M) {idx ci k a : Nat} {fs : List ae_V} {v : ae_V} {rest : List ae_V} (hd : decode M.2.2.1 pc = .ok (.getfield idx, 3)) (hc : ae_cp M.1 idx = some (0, ci, k)) (hg : ae_hg h a = some (.inr (ci, fs))) (hv : fs[k]? = some v)
    (kk : ae_At p l e R s m args below meth c Q D kA A pre M.2.2.2.1 (pc + 3) ce sl lv (v :: rest) h) : ae_At p l e R s m args below meth c Q D kA A pre M.2.2.2.1 pc ce sl lv (.inr (.inr (some a)) :: rest) h := by
  obtain ⟨hx, hb, hml, hown, hts, ⟨hK, -, -⟩, hA, -⟩ := X
  intro ws H locs ls lvC stC hl hlr hsr hhr hpx hP hD hS
  obtain ⟨ad, xs, rfl, had, hs1⟩ := ae_sr_r hsr
  obtain ⟨a', e', hw, fs', rfl, hfs⟩ := hhr.2.2 a _ hg
  have : a' = ad := Option.some.inj ((ae_ad_at hw).symm.trans had)
  subst this
  obtain ⟨C, T, N, hcl, hk, hlink⟩ := ae_cp_f hc
  obtain ⟨ty, hlay, -⟩ := ae_cls ci _ hcl
  obtain ⟨x, hxv, hvr⟩ := ae_sr_at hfs hv
  refine va_get (D := D) (ci := ci) (Ts := ae_gw) hx hb hts hlay hown hK hP a hw hcl k hk (hts _ hlink) (fun _ h9 => h9) hxv hd ?_
  exact kk ws H locs ls lvC _ hl hlr (ae_sr_c hvr hs1) hhr hpx hP hD hS
theorem ae_putf (X : ae_Cx p s m args meth c D kA A M) {idx ci k a fk : Nat} {fs : List ae_V} {v v0 : ae_V} {rest : List ae_V} (hd : decode M.2.2.1 pc = .ok (.putfield idx, 3)) (hc : ae_cp M.1 idx = some (0, ci, k)) (hg : ae_hg h a = some (.inr (ci, fs))) (hv0 : fs[k]? = some v0) (hfk : ae_fk ci k = some fk)
    (hfin : cond (Nat.ble 10 fk) (and (Nat.beq M.2.2.2.2.2.1 2) (Nat.beq M.1 ci)) true = true) (hft : cond (Nat.ble 10 fk) (ae_fit (Nat.sub fk 10) v) (ae_fit fk v) = true)
    (kk : ae_At p l e R s m args below meth c Q D kA A pre M.2.2.2.1 (pc + 3) ce sl lv rest (ae_hs h a (.inr (ci, fs.set k v)))) : ae_At p l e R s m args below meth c Q D kA A pre M.2.2.2.1 pc ce sl lv (v :: .inr (.inr (some a)) :: rest) h := by
  obtain ⟨hx, hb, hml, hown, hts, ⟨hK, -, -⟩, hA, hin, -⟩ := X
  intro ws H locs ls lvC stC hl hlr hsr hhr hpx hP hD hS
  obtain ⟨x, xs0, rfl, hvr, hs0⟩ := hsr
  obtain ⟨ad, xs, rfl, had, hs1⟩ := ae_sr_r hs0
  obtain ⟨a', e', hw, fs', rfl, hfs⟩ := hhr.2.2 a _ hg
  have : a' = ad := Option.some.inj ((ae_ad_at hw).symm.trans had)
  subst this
  obtain ⟨C, T, N, hcl, hk, hlink⟩ := ae_cp_f hc
  obtain ⟨ty, hlay, hty, hnm, -, -, hC, hfs9, -⟩ := ae_cls ci _ hcl
  obtain ⟨hT1, fk', hfk', hkb⟩ := hfs9 k hk
  cases hfk.symm.trans hfk'
  obtain ⟨hn, hft2⟩ := ae_fit_ok hkb hft hvr
  have hlen : k < fs'.length := by
    rw [ae_sr_len hfs]; exact (List.getElem?_eq_some_iff.mp hv0).1
  have hkb1 : ((T k).2.2.2 == Nat.ble 10 fk) = true := (ae_band hkb).1
  have hfe : (T k).2.2.2 = Nat.ble 10 fk := eq_of_beq hkb1
  have go : ∀ (H1 : Heap) (locs1 : List Loc), va_P D ae_cl (ws.set a (a', .inr (ci, fs'.set k x))) H1 → va_D A (ws.set a (a', .inr (ci, fs'.set k x))) → va_S A s.heap H1 locs1 → W p l e R s m args below meth c H1 locs1 ce sl Q (F0 m (pc + 3) ls xs) := by
    intro H1 locs1 hP1 hD1 hS1
    have hr2 := ae_hr_set (c := .inr (ci, fs.set k v)) (e := .inr (ci, fs'.set k x)) hhr hg hw ⟨fs'.set k x, rfl, ae_sr_set hvr hfs k⟩
    have e1 : ae_ad kA (ws.set a (a', .inr (ci, fs'.set k x))) = ae_ad kA ws := ae_ad_set hw
    exact kk _ H1 locs1 ls lvC _ hl (by rw [e1]; exact hlr) (by rw [e1]; exact hs1) hr2 (by rw [e1]; exact hpx) hP1 hD1 hS1
  cases hq : Nat.ble 10 fk with
  | false =>
    exact va_put (D := D) (ci := ci) (Ts := ae_gw) hx hb hts hlay ty hty hnm hown hK hP hD hS a hw hcl k hk (hts _ hlink) (fun _ h9 => h9) (hfe.trans hq) (hty k hk) hn hft2 hlen hd go
  | true =>
    rw [hq] at hfin
    obtain ⟨q1, q2⟩ := ae_band hfin
    have hown2 : (T k).1 = ae_on M.1 := by rw [hT1, ae_beq q2]; exact hC
    exact va_putF (D := D) (ci := ci) (Ts := ae_gw) hx hb hts hlay ty hty hnm hown hK hP hD hS a hw hcl k hk (hts _ hlink) (fun _ h9 => h9) (hfe.trans hq) (hin (ae_beq q1)) hown2 (hty k hk) hn hft2 hlen hd go
theorem ae_kA {t : Nat} {cA : ClassId} {ty : FieldType} (hK : va_K D ae_cl (ae_tys kA) s) (ht : (ae_tys kA)[t]? = some (kA t, ty)) (hK2 : va_K D ae_cl (ae_tys kA ++ [(cA, ty)]) s) : cA = kA t := by
  have h1 := (hK.2 t _ ht).2
  have h2 := (hK2.2 5 (cA, ty) rfl).2
  have h1 : va_RA s (kA t) ty := h1
  have h2 : va_RA s cA ty := h2
  cases ty with
  | object C =>
    obtain ⟨_, _, -, -, -, g1⟩ := h1
    obtain ⟨_, _, -, -, -, g2⟩ := h2
    exact Option.some.inj (g2.symm.trans g1)
  | _ => exact Option.some.inj (Eq.trans (Eq.symm h2) h1)
/-- a new object -/
theorem ae_newo (X : ae_Cx p s m args meth c D kA A M) (hR : R = ae_room M) {idx ci k0 : Nat} {fs : List ae_V} (hd : decode M.2.2.1 pc = .ok (.new idx, 3)) (hc : ae_cp M.1 idx = some (3, ci, k0)) (hf : ae_nf ci = some fs) (hl1 : h.1 < 256) (hce : ce + 1 ≤ M.2.2.2.2.2.2.2.2.2.1) (hsl : sl + fs.length ≤ M.2.2.2.2.2.2.2.2.2.2)
    (kk : ae_At p l e R s m args below meth c Q D kA A pre M.2.2.2.1 (pc + 3) (ce + 1) (sl + fs.length) lv (.inr (.inr (some h.1)) :: st) (ae_hp h (.inr (ci, fs)))) : ae_At p l e R s m args below meth c Q D kA A pre M.2.2.2.1 pc ce sl lv st h := by
  obtain ⟨hx, hb, hml, hown, hts, ⟨hK, -, -⟩, hA, -⟩ := X
  intro ws H locs ls lvC stC hl hlr hsr hhr hpx hP hD hS
  obtain ⟨T, N, hcl, hlink⟩ := ae_cp_n hc
  obtain ⟨ty, hlay, hty, hnm, hins, hini, -, hfs9, hnf⟩ := ae_cls ci _ hcl
  have hnf : ae_nf ci = some ((List.range N).map (fun k => ae_dv (ty k))) := hnf
  cases hf.symm.trans hnf
  have hlen : ((List.range N).map (fun k => ae_dv (ty k))).length = N := by simp
  rw [hlen] at hsl kk
  subst hR
  refine va_new (D := D) (ci := ci) (Ts := ae_gw) (fs := (List.range N).map (fun k => defaultValue (ty k))) hx hb hts hlay ty hty hown (hts _ hlink) (hts _ hins) (hts _ hini) hK hP hD hS hA hcl (fun j hj => ?_) hce hsl hd (fun q H1 hP1 hD1 hS1 => ?_)
  · unfold vp_V
    rw [List.getD_eq_getElem?_getD, List.getElem?_map, List.getElem?_range hj]; rfl
  · have hsr9 := ae_dvs_ok (ad := ae_ad kA ws) (ty := ty) (List.range N) (fun k hk => by
      obtain ⟨-, fk, -, hkb⟩ := hfs9 k (List.mem_range.mp hk)
      exact ae_kb_nf hkb)
    obtain ⟨hr2, hat⟩ := ae_hr_push (q := q) (c := .inr (ci, (List.range N).map (fun k => ae_dv (ty k)))) (e := .inr (ci, (List.range N).map (fun k => defaultValue (ty k)))) hhr hl1 ⟨_, rfl, hsr9⟩
    have hp2 := ae_px_push (kA := kA) (ws := ws) (by rw [hhr.1]; exact hl1) (q, .inr (ci, (List.range N).map (fun k => defaultValue (ty k))))
    exact kk _ H1 locs ls lvC _ hl (hlr.up hp2) (ae_sr_c ⟨q, hat, rfl⟩ (hsr.up hp2)) hr2 (hpx.tr hp2) hP1 hD1 hS1
/-- a new array of numbers -/
theorem ae_newn (X : ae_Cx p s m args meth c D kA A M) (hR : R = ae_room M) {at_ : ArrayType} {t n : Nat} {rest : List ae_V} (hd : decode M.2.2.1 pc = .ok (.newarray at_, 2)) (ha : ae_atag at_ = some t) (hn : n ≤ 60000000) (hl1 : h.1 < 256) (hce : ce + 1 ≤ M.2.2.2.2.2.2.2.2.2.1) (hsl : sl + n ≤ M.2.2.2.2.2.2.2.2.2.2)
    (kk : ae_At p l e R s m args below meth c Q D kA A pre M.2.2.2.1 (pc + 2) (ce + 1) (sl + n) lv (.inr (.inr (some h.1)) :: rest) (ae_hp h (.inl (t, n, .inl 0)))) : ae_At p l e R s m args below meth c Q D kA A pre M.2.2.2.1 pc ce sl lv (.inl (.inl n) :: rest) h := by
  obtain ⟨hx, hb, hml, hown, hts, ⟨hK, -, -⟩, hA, -⟩ := X
  intro ws H locs ls lvC stC hl hlr hsr hhr hpx hP hD hS
  obtain ⟨y, xs, rfl, ⟨rfl, -⟩, hs1⟩ := ae_sr_i hsr
  subst hR
  have hcl : (nI n).toNatClampNeg = n := nI_clamp (by omega)
  have hneg : ¬ nI n < 0 := nI_pos (by omega)
  have fin : ∀ (ty : FieldType) (y0 : ae_Y), newarray.typeOf at_ = ty → (ae_tys kA)[t]? = some (kA t, ty) → (Jvm.Cond.arrayClass ty).before args s = true → (∀ cA : ClassId, vp_cell cA (n, y0) = arrV cA n (fun _ => defaultValue ty)) → n * componentBytes ty ≤ 536870912 → ae_xr (ae_ad kA ws) t n (.inl 0) y0 →
      W p l e (ae_room M) s m args below meth c H locs ce sl Q (F0 m pc ls (.int (nI n) :: xs)) := by
    intro ty y0 hty htt harr hv hbytes hxr
    refine va_newa (D := D) hx hb (by rw [hty]; exact harr) hty hK hP hD hS hA hv hneg hcl hbytes hce hsl hd (fun q cA H1 hK2 hP1 hD1 hS1 => ?_)
    have := ae_kA hK htt hK2
    subst this
    obtain ⟨hr2, hat⟩ := ae_hr_push (q := q) (c := .inl (t, n, .inl 0)) (e := .inl (kA t, n, y0)) hhr hl1 ⟨y0, rfl, hxr⟩
    have hp2 := ae_px_push (kA := kA) (ws := ws) (by rw [hhr.1]; exact hl1) (q, .inl (kA t, n, y0))
    exact kk _ H1 locs ls lvC _ hl (hlr.up hp2) (ae_sr_c ⟨q, hat, rfl⟩ (hs1.up hp2)) hr2 (hpx.tr hp2) hP1 hD1 hS1
  have hz : ∀ t0 : Nat, t0 ≤ 2 → ae_xr (ae_ad kA ws) t0 n (.inl 0) (.inl (fun _ => 0)) := fun t0 h0 => Or.inl ⟨h0, _, rfl, fun _ _ => by decide, fun A hA i hi => by cases hA; rw [ae_rd0]; rfl⟩
  have aw : ∀ (p0 : Nat) (ty : FieldType), lw_tbl[p0]? = some (.arrayClass ty) → (Jvm.Cond.arrayClass ty).before args s = true := fun p0 ty h0 => hts _ (ae_gw_in (List.mem_of_getElem? h0) rfl)
  cases at_ with
  | int => cases ha; exact fin .int (.inl (fun _ => 0)) rfl rfl (aw 200 .int (by decide +kernel)) (fun cA => vp_cell_i cA n _) (by show n * 4 ≤ _; omega) (hz 0 (by omega))
  | byte => cases ha; exact fin .byte (.inl (fun _ => 0)) rfl rfl (aw 239 .byte (by decide +kernel)) (fun cA => vp_cell_i cA n _) (by show n * 1 ≤ _; omega) (hz 1 (by omega))
  | boolean => cases ha; exact fin .boolean (.inl (fun _ => 0)) rfl rfl (aw 510 .boolean (by decide +kernel)) (fun cA => vp_cell_i cA n _) (by show n * 1 ≤ _; omega) (hz 2 (by omega))
  | long => cases ha; exact fin .long (.inr (.inl (fun _ => 0))) rfl rfl (aw 478 .long (by decide +kernel)) (fun cA => vp_cell_l cA n _) (by show n * 8 ≤ _; omega) (Or.inr (Or.inl ⟨rfl, _, 0, rfl, rfl, fun i hi => by rw [ae_rd0]; rfl⟩))
  | _ => cases ha
/-- a new array of boards -/
theorem ae_newq (X : ae_Cx p s m args meth c D kA A M) (hR : R = ae_room M) {idx n k0 : Nat} {rest : List ae_V} (hd : decode M.2.2.1 pc = .ok (.anewarray idx, 3)) (hc : ae_cp M.1 idx = some (3, 0, k0)) (hn : n ≤ 1000) (hl1 : h.1 < 256) (hce : ce + 1 ≤ M.2.2.2.2.2.2.2.2.2.1) (hsl : sl + n ≤ M.2.2.2.2.2.2.2.2.2.2)
    (kk : ae_At p l e R s m args below meth c Q D kA A pre M.2.2.2.1 (pc + 3) (ce + 1) (sl + n) lv (.inr (.inr (some h.1)) :: rest) (ae_hp h (.inl (4, n, .inr (.inr (List.replicate n none)))))) : ae_At p l e R s m args below meth c Q D kA A pre M.2.2.2.1 pc ce sl lv (.inl (.inl n) :: rest) h := by
  obtain ⟨hx, hb, hml, hown, hts, ⟨hK, hAO, -⟩, hA, -⟩ := X
  intro ws H locs ls lvC stC hl hlr hsr hhr hpx hP hD hS
  obtain ⟨y, xs, rfl, ⟨rfl, -⟩, hs1⟩ := ae_sr_i hsr
  subst hR
  have hcl : (nI n).toNatClampNeg = n := nI_clamp (by omega)
  have hneg : ¬ nI n < 0 := nI_pos (by omega)
  obtain ⟨T, N, hcl0, hlink⟩ := ae_cp_n hc
  refine va_newq (D := D) (C := RX0) hx hb hown (hts _ hlink) hAO hK hP hD hS hA hneg hcl (by omega) hce hsl hd (fun q cA H1 hK2 hP1 hD1 hS1 => ?_)
  have := ae_kA (t := 4) hK rfl hK2
  subst this
  obtain ⟨hr2, hat⟩ := ae_hr_push (q := q) (c := .inl (4, n, .inr (.inr (List.replicate n none)))) (e := .inl (kA 4, n, .inr (.inr (.inr (.inr (fun _ => none)))))) hhr hl1 ⟨_, rfl, Or.inr (Or.inr ⟨rfl, _, _, rfl, rfl, fun i r hi => by
    have := List.mem_of_getElem? hi
    have := List.eq_of_mem_replicate this
    subst this; rfl⟩)⟩
  have hp2 := ae_px_push (kA := kA) (ws := ws) (by rw [hhr.1]; exact hl1) (q, .inl (kA 4, n, .inr (.inr (.inr (.inr (fun _ => none))))))
  exact kk _ H1 locs ls lvC _ hl (hlr.up hp2) (ae_sr_c ⟨q, hat, rfl⟩ (hs1.up hp2)) hr2 (hpx.tr hp2) hP1 hD1 hS1
theorem ae_rf {ws : va_W} {k a : Nat} {t n : Nat} {x : ae_X} (hhr : ae_hr kA ws h) (hg : ae_hg h k = some (.inl (t, n, x))) (had : ae_ad kA ws k = some a) : ∃ y : ae_Y, ws[k]? = some (a, .inl (kA t, n, y)) ∧ ae_xr (ae_ad kA ws) t n x y := by
  obtain ⟨a', e', hw, y, rfl, hxr⟩ := hhr.2.2 k _ hg
  have : a' = a := Option.some.inj ((ae_ad_at hw).symm.trans had)
  subst this
  exact ⟨y, hw, hxr⟩
/-- what a load of an int, a byte, a boolean gives -/
theorem ae_ldi {ad : Nat → Option Nat} {t n j : Nat} {x : ae_X} {y : ae_Y} (ht : t ≤ 2) (hxr : ae_xr ad t n x y) : ∃ f : Nat → Int32, y = .inl f ∧ ∀ A, x = .inl A → ∀ i, i < n → f i = nI (ae_rd 32 A i) := by
  rcases hxr with ⟨-, f, h1, -, h2⟩ | ⟨h1, -⟩ | ⟨h1, -⟩
  · exact ⟨f, h1, h2⟩
  · omega
  · omega
/-- a row of bytes holds bytes -/
theorem ae_ldb {ad : Nat → Option Nat} {t n : Nat} {x : ae_X} {f : Nat → Int32} (hxr : ae_xr ad t n x (.inl f)) (ht : t = 1) (i : Nat) : fits .byte (.int (f i)) = true := by
  rcases hxr with ⟨-, g, h1, h2, -⟩ | ⟨h1, -⟩ | ⟨h1, -⟩
  · cases h1; exact h2 ht i
  · omega
  · omega
/-- a load out of an int, byte or boolean array, whatever it gives -/
theorem ae_ldI (X : ae_Cx p s m args meth c D kA A M) {i : Instr} {t n a : Nat} {x : ae_X} {ix : Nat ⊕ (Nat × Nat)} {v : ae_V} {rest : List ae_V} (hd : decode M.2.2.1 pc = .ok (i, 1)) (hi : (i = .iaload ∧ t = 0) ∨ (i = .baload ∧ (t = 1 ∨ t = 2))) (hg : ae_hg h a = some (.inl (t, n, x))) (hin : ae_in ix n = true)
    (hv : ∀ (ad : Nat → Option Nat) (f : Nat → Int32) (Y : Int32), (∀ A, x = .inl A → ∀ i, i < n → f i = nI (ae_rd 32 A i)) → vp_in Y n → ae_ir ix Y → ae_vr ad v (.int (f Y.toNatClampNeg)))
    (kk : ae_At p l e R s m args below meth c Q D kA A pre M.2.2.2.1 (pc + 1) ce sl lv (v :: rest) h) : ae_At p l e R s m args below meth c Q D kA A pre M.2.2.2.1 pc ce sl lv (.inl ix :: .inr (.inr (some a)) :: rest) h := by
  obtain ⟨hx, hb, hml, hown, hts, ⟨hK, -, -⟩, hA, -⟩ := X
  intro ws H locs ls lvC stC hl hlr hsr hhr hpx hP hD hS
  obtain ⟨Y, xs0, rfl, hY, hs0⟩ := ae_sr_i hsr
  obtain ⟨ad, xs, rfl, had, hs1⟩ := ae_sr_r hs0
  obtain ⟨y, hw, hxr⟩ := ae_rf hhr hg had
  have ht : t ≤ 2 := by rcases hi with ⟨-, q⟩ | ⟨-, q | q⟩ <;> omega
  obtain ⟨f, rfl, hf⟩ := ae_ldi (j := 0) ht hxr
  obtain ⟨hin2, -, -⟩ := ae_in_ok hin hY
  have go := kk ws H locs ls lvC _ hl hlr (ae_sr_c (hv (ae_ad kA ws) f Y hf hin2 hY) hs1) hhr hpx hP hD hS
  rcases hi with ⟨rfl, rfl⟩ | ⟨rfl, rfl | rfl⟩
  · exact va_iald (D := D) hx hb hK hP a 0 hw rfl hin2 hd go
  · exact va_bald (D := D) hx hb hK hP a 1 hw rfl hin2 hd go
  · exact va_zald (D := D) hx hb hK hP a 2 hw rfl hin2 hd go
theorem ae_ldL (X : ae_Cx p s m args meth c D kA A M) {n a j B : Nat} {rest : List ae_V} (hd : decode M.2.2.1 pc = .ok (.laload, 1)) (hg : ae_hg h a = some (.inl (3, n, .inl B))) (hin : ae_in (.inl j) n = true)
    (kk : ae_At p l e R s m args below meth c Q D kA A pre M.2.2.2.1 (pc + 1) ce sl lv (ae_j (ae_rd 64 B j) :: rest) h) : ae_At p l e R s m args below meth c Q D kA A pre M.2.2.2.1 pc ce sl lv (.inl (.inl j) :: .inr (.inr (some a)) :: rest) h := by
  obtain ⟨hx, hb, hml, hown, hts, ⟨hK, -, -⟩, hA, -⟩ := X
  intro ws H locs ls lvC stC hl hlr hsr hhr hpx hP hD hS
  obtain ⟨Y, xs0, rfl, hY, hs0⟩ := ae_sr_i hsr
  obtain ⟨ad, xs, rfl, had, hs1⟩ := ae_sr_r hs0
  obtain ⟨y, hw, hxr⟩ := ae_rf hhr hg had
  rcases hxr with ⟨h1, -⟩ | ⟨-, f, B', rfl, h2, hf⟩ | ⟨h1, -⟩
  · omega
  · cases h2
    obtain ⟨hin2, hn, hj⟩ := ae_in_ok hin hY
    obtain ⟨e1, e2⟩ := hj j rfl
    refine va_lald (D := D) hx hb hK hP a 3 hw rfl hin2 hd ?_
    rw [e1, hf j e2]
    exact kk ws H locs ls lvC _ hl hlr (ae_sr_c (ae_vr_j (ae_rd_lt 64 B j)) hs1) hhr hpx hP hD hS
  · omega
theorem ae_ldQ (X : ae_Cx p s m args meth c D kA A M) {n a j : Nat} {L : List (Option Nat)} {q : Option Nat} {rest : List ae_V} (hd : decode M.2.2.1 pc = .ok (.aaload, 1)) (hg : ae_hg h a = some (.inl (4, n, .inr (.inr L)))) (hin : ae_in (.inl j) n = true) (hq : L[j]? = some q)
    (kk : ae_At p l e R s m args below meth c Q D kA A pre M.2.2.2.1 (pc + 1) ce sl lv (.inr (.inr q) :: rest) h) : ae_At p l e R s m args below meth c Q D kA A pre M.2.2.2.1 pc ce sl lv (.inl (.inl j) :: .inr (.inr (some a)) :: rest) h := by
  obtain ⟨hx, hb, hml, hown, hts, ⟨hK, -, -⟩, hA, -⟩ := X
  intro ws H locs ls lvC stC hl hlr hsr hhr hpx hP hD hS
  obtain ⟨Y, xs0, rfl, hY, hs0⟩ := ae_sr_i hsr
  obtain ⟨ad, xs, rfl, had, hs1⟩ := ae_sr_r hs0
  obtain ⟨y, hw, hxr⟩ := ae_rf hhr hg had
  rcases hxr with ⟨h1, -⟩ | ⟨h1, -⟩ | ⟨-, f, L', rfl, h2, hf⟩
  · omega
  · omega
  · cases h2
    obtain ⟨hin2, hn, hj⟩ := ae_in_ok hin hY
    obtain ⟨e1, e2⟩ := hj j rfl
    refine va_aldq (D := D) (C := RX0) hx hb hK hP a 4 hw rfl hin2 hd ?_
    rw [e1]
    exact kk ws H locs ls lvC _ hl hlr (ae_sr_c (ae_rr_v (hf j q hq)) hs1) hhr hpx hP hD hS
/-- behind a store -/
theorem ae_hset {ws : va_W} {H1 : Heap} {locs1 : List Loc} {ls : Array Slot} {lvC : List (Nat × Value)} {a a' : Nat} {c0 c1 : ae_C} {e0 e1 : va_E} {rest : List ae_V} {xs : List Value} {pc2 : Nat} (hl : lv_has ls M.2.2.2.1 lvC) (hlr : ae_lr (ae_ad kA ws) lv lvC) (hs : ae_sr (ae_ad kA ws) rest xs) (hhr : ae_hr kA ws h) (hpx : ae_px pre (ae_ad kA ws)) (hg : ae_hg h a = some c0) (hw : ws[a]? = some (a', e0)) (hc : ae_cr kA (ae_ad kA ws) c1 e1)
    (hP : va_P D ae_cl (ws.set a (a', e1)) H1) (hD : va_D A (ws.set a (a', e1))) (hS : va_S A s.heap H1 locs1)
    (kk : ae_At p l e R s m args below meth c Q D kA A pre M.2.2.2.1 pc2 ce sl lv rest (ae_hs h a c1)) : W p l e R s m args below meth c H1 locs1 ce sl Q (F0 m pc2 ls xs) := by
  have hr2 := ae_hr_set hhr hg hw hc
  have e9 : ae_ad kA (ws.set a (a', e1)) = ae_ad kA ws := ae_ad_set hw
  exact kk _ H1 locs1 ls lvC _ hl (by rw [e9]; exact hlr) (by rw [e9]; exact hs) hr2 (by rw [e9]; exact hpx) hP hD hS
theorem ae_stI (X : ae_Cx p s m args meth c D kA A M) {i : Instr} {t n a : Nat} {x x' : ae_X} {ix v : Nat ⊕ (Nat × Nat)} {rest : List ae_V} (hd : decode M.2.2.1 pc = .ok (i, 1)) (hi : (i = .iastore ∧ t = 0) ∨ (i = .bastore ∧ (t = 1 ∨ t = 2))) (hg : ae_hg h a = some (.inl (t, n, x))) (hin : ae_in ix n = true)
    (hx' : x' = .inr (.inl ()) ∨ ∃ B j z, x = .inl B ∧ ix = .inl j ∧ v = .inl z ∧ x' = .inl (ae_wr 32 B j (cond (Nat.beq t 0) z (cond (Nat.beq t 1) (ae_b8 z) (Nat.mod z 2)))))
    (kk : ae_At p l e R s m args below meth c Q D kA A pre M.2.2.2.1 (pc + 1) ce sl lv rest (ae_hs h a (.inl (t, n, x')))) : ae_At p l e R s m args below meth c Q D kA A pre M.2.2.2.1 pc ce sl lv (.inl v :: .inl ix :: .inr (.inr (some a)) :: rest) h := by
  obtain ⟨hx, hb, hml, hown, hts, ⟨hK, -, -⟩, hA, -⟩ := X
  intro ws H locs ls lvC stC hl hlr hsr hhr hpx hP hD hS
  obtain ⟨V, xs00, rfl, hV, hs00⟩ := ae_sr_i hsr
  obtain ⟨Y, xs0, rfl, hY, hs0⟩ := ae_sr_i hs00
  obtain ⟨ad, xs, rfl, had, hs1⟩ := ae_sr_r hs0
  obtain ⟨y, hw, hxr⟩ := ae_rf hhr hg had
  have ht : t ≤ 2 := by rcases hi with ⟨-, q⟩ | ⟨-, q | q⟩ <;> omega
  obtain ⟨f, rfl, hf⟩ := ae_ldi (j := 0) ht hxr
  obtain ⟨hin2, hn, hj⟩ := ae_in_ok hin hY
  have rel : ∀ W0 : Int32, (∀ z, v = .inl z → W0 = nI (cond (Nat.beq t 0) z (cond (Nat.beq t 1) (ae_b8 z) (Nat.mod z 2))) ∧ (cond (Nat.beq t 0) z (cond (Nat.beq t 1) (ae_b8 z) (Nat.mod z 2))) < 2 ^ 32) → (t = 1 → fits .byte (.int W0) = true) → ae_cr kA (ae_ad kA ws) (.inl (t, n, x')) (.inl (kA t, n, .inl (upd f Y.toNatClampNeg W0))) := by
    intro W0 hW0 hW1
    refine ⟨_, rfl, Or.inl ⟨ht, _, rfl, fun q => sb_fitU (fun i => ae_ldb hxr q i) (hW1 q), fun B hB k hk => ?_⟩⟩
    rcases hx' with rfl | ⟨B0, j, z, h1, h2, h3, rfl⟩
    · cases hB
    · cases hB
      obtain ⟨w1, w2⟩ := hW0 z h3
      obtain ⟨e1, e2⟩ := hj j h2
      rw [ae_rd_wr w2, e1]
      by_cases hkj : k = j
      · subst hkj; rw [if_pos rfl, pk_us, w1]
      · rw [if_neg hkj, pk_un hkj, hf B0 h1 k hk]
  have hz : ∀ z, v = .inl z → V = nI z ∧ z < 4294967296 := fun z hz => by subst hz; exact hV
  rcases hi with ⟨rfl, rfl⟩ | ⟨rfl, rfl | rfl⟩
  · exact va_iast (D := D) hx hb hK hP hD hS a 0 hw rfl hin2 hd (fun H1 locs1 hP1 hD1 hS1 => ae_hset hl hlr hs1 hhr hpx hg hw (rel V (fun z q => hz z q) (fun q => absurd q (by decide))) hP1 hD1 hS1 kk)
  · refine va_bast (D := D) hx hb hK hP hD hS a 1 hw rfl hin2 hd (fun H1 locs1 hP1 hD1 hS1 => ae_hset hl hlr hs1 hhr hpx hg hw (rel (vp_nar .byte V) (fun z q => ?_) (fun _ => by rw [vp_nar_byte]; exact pk_fb _)) hP1 hD1 hS1 kk)
    obtain ⟨rfl, h9⟩ := hz z q
    rw [vp_nar_byte, ae_b8_ok]
    refine ⟨rfl, ?_⟩
    show ae_b8 z < 2 ^ 32
    unfold ae_b8
    have : Nat.mod z 256 < 256 := Nat.mod_lt _ (by omega)
    cases Nat.ble 128 (Nat.mod z 256) with
    | true => show Nat.mod z 256 + 4294967040 < 4294967296; omega
    | false => show Nat.mod z 256 < 4294967296; omega
  · refine va_zast (D := D) hx hb hK hP hD hS a 2 hw rfl hin2 hd (fun H1 locs1 hP1 hD1 hS1 => ae_hset hl hlr hs1 hhr hpx hg hw (rel _ (fun z q => ?_) (fun q => absurd q (by decide))) hP1 hD1 hS1 kk)
    obtain ⟨rfl, h9⟩ := hz z q
    have h8 : Nat.mod z 2 < 2 := Nat.mod_lt _ (by omega)
    have e8 : nI z &&& 1 = nI (z % 2) := pk_andN (n := z) h9 1 (by decide +kernel)
    refine ⟨?_, show Nat.mod z 2 < 4294967296 by omega⟩
    first | exact e8 | (show vp_nar .boolean (nI z) = nI (z % 2); unfold vp_nar; exact e8)
theorem ae_stL (X : ae_Cx p s m args meth c D kA A M) {n a j v B : Nat} {rest : List ae_V} (hd : decode M.2.2.1 pc = .ok (.lastore, 1)) (hg : ae_hg h a = some (.inl (3, n, .inl B))) (hin : ae_in (.inl j) n = true)
    (kk : ae_At p l e R s m args below meth c Q D kA A pre M.2.2.2.1 (pc + 1) ce sl lv rest (ae_hs h a (.inl (3, n, .inl (ae_wr 64 B j v))))) : ae_At p l e R s m args below meth c Q D kA A pre M.2.2.2.1 pc ce sl lv (.inr (.inl v) :: .inl (.inl j) :: .inr (.inr (some a)) :: rest) h := by
  obtain ⟨hx, hb, hml, hown, hts, ⟨hK, -, -⟩, hA, -⟩ := X
  intro ws H locs ls lvC stC hl hlr hsr hhr hpx hP hD hS
  obtain ⟨xs00, rfl, hv, hs00⟩ := ae_sr_l hsr
  obtain ⟨Y, xs0, rfl, hY, hs0⟩ := ae_sr_i hs00
  obtain ⟨ad, xs, rfl, had, hs1⟩ := ae_sr_r hs0
  obtain ⟨y, hw, hxr⟩ := ae_rf hhr hg had
  rcases hxr with ⟨h1, -⟩ | ⟨-, f, B', rfl, h2, hf⟩ | ⟨h1, -⟩
  · omega
  · cases h2
    obtain ⟨hin2, hn, hj⟩ := ae_in_ok hin hY
    obtain ⟨e1, e2⟩ := hj j rfl
    refine va_last (D := D) hx hb hK hP hD hS a 3 hw rfl hin2 hd (fun H1 locs1 hP1 hD1 hS1 => ae_hset (c1 := .inl (3, n, .inl (ae_wr 64 B j v))) (e1 := .inl (kA 3, n, .inr (.inl (vp_updL f Y.toNatClampNeg (lN v))))) hl hlr hs1 hhr hpx hg hw ⟨_, rfl, Or.inr (Or.inl ⟨rfl, _, _, rfl, rfl, fun k hk => ?_⟩)⟩ hP1 hD1 hS1 kk)
    rw [ae_rd_wr hv, e1]
    by_cases hkj : k = j
    · subst hkj; rw [if_pos rfl, pk_uLs]
    · rw [if_neg hkj, pk_uLn hkj, hf k hk]
  · omega
theorem ae_stQ (X : ae_Cx p s m args meth c D kA A M) {n a j v : Nat} {L : List (Option Nat)} {fs : List ae_V} {rest : List ae_V} (hd : decode M.2.2.1 pc = .ok (.aastore, 1)) (hg : ae_hg h a = some (.inl (4, n, .inr (.inr L)))) (hgv : ae_hg h v = some (.inr (0, fs))) (hin : ae_in (.inl j) n = true)
    (kk : ae_At p l e R s m args below meth c Q D kA A pre M.2.2.2.1 (pc + 1) ce sl lv rest (ae_hs h a (.inl (4, n, .inr (.inr (L.set j (some v))))))) : ae_At p l e R s m args below meth c Q D kA A pre M.2.2.2.1 pc ce sl lv (.inr (.inr (some v)) :: .inl (.inl j) :: .inr (.inr (some a)) :: rest) h := by
  obtain ⟨hx, hb, hml, hown, hts, ⟨hK, -, -⟩, hA, -⟩ := X
  intro ws H locs ls lvC stC hl hlr hsr hhr hpx hP hD hS
  obtain ⟨vd, xs00, rfl, hvd, hs00⟩ := ae_sr_r hsr
  obtain ⟨Y, xs0, rfl, hY, hs0⟩ := ae_sr_i hs00
  obtain ⟨ad, xs, rfl, had, hs1⟩ := ae_sr_r hs0
  obtain ⟨y, hw, hxr⟩ := ae_rf hhr hg had
  obtain ⟨v', e', hwv, fs', rfl, hfs⟩ := hhr.2.2 v _ hgv
  have : v' = vd := Option.some.inj ((ae_ad_at hwv).symm.trans hvd)
  subst this
  rcases hxr with ⟨h1, -⟩ | ⟨h1, -⟩ | ⟨-, f, L', rfl, h2, hf⟩
  · omega
  · omega
  · cases h2
    obtain ⟨hin2, hn, hj⟩ := ae_in_ok hin hY
    obtain ⟨e1, e2⟩ := hj j rfl
    refine va_astq (D := D) hx hb hK hP hD hS a 4 v 0 (r := (RX0, TX0, 3)) hw rfl hwv rfl hin2 hd (fun H1 locs1 hP1 hD1 hS1 => ae_hset (c1 := .inl (4, n, .inr (.inr (L.set j (some v))))) (e1 := .inl (kA 4, n, .inr (.inr (.inr (.inr (va_up f Y.toNatClampNeg (some v'))))))) hl hlr hs1 hhr hpx hg hw ⟨_, rfl, Or.inr (Or.inr ⟨rfl, _, _, rfl, rfl, fun k q hk => ?_⟩)⟩ hP1 hD1 hS1 kk)
    rw [e1]
    rw [List.getElem?_set] at hk
    split at hk
    · next hjk =>
      subst hjk
      split at hk
      · cases hk
        exact ⟨v', hvd, by simp [va_up]⟩
      · cases hk
    · next hjk =>
      have hjk2 : k ≠ j := fun z => hjk z.symm
      have := hf k q hk
      simp only [va_up, if_neg hjk2]
      exact this
end
