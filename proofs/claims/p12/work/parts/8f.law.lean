/-! THE LAW (printed by wip/p2/law/g8e.py) -/
theorem ae_KK_of {s : State} {args : Array Value} (hts : ∀ w ∈ lw_tbl, w.before args s = true) : ∃ (D : va_G) (kA : Nat → ClassId), ae_KK D kA s := by
  have hg : ∀ w ∈ ae_gw, w.before args s = true := fun w hw => hts w (ae_gw_tbl hw)
  have h1 : ∀ k : Nat, ∃ q : ClassId × (Nat → Nat), ∀ r : vw_C, ae_cl[k]? = some r → u_Kn s r.1 r.2.1 r.2.2 q.1 q.2 := by
    intro k
    cases hk : ae_cl[k]? with
    | none => exact ⟨(0, fun _ => 0), fun r hr => by cases hr⟩
    | some r0 =>
      obtain ⟨ty, hlay, -, -, hins, -⟩ := ae_cls k r0 hk
      obtain ⟨cC, iS, hKn⟩ := u_known (C := r0.1) (T := r0.2.1) (N := r0.2.2) (n := r0.2.2) hg hlay (hg _ hins)
      exact ⟨(cC, iS), fun r hr => by cases hr; exact hKn⟩
  obtain ⟨f, hf⟩ := Classical.axiomOfChoice h1
  have harr : ∀ (ty : FieldType), Jvm.Cond.arrayClass ty ∈ lw_tbl → ∃ cA : ClassId, ArrOfT s cA ty ∧ s.vm.findClass ("[" ++ ty.toString) = some cA := by
    intro ty h0
    obtain ⟨cA, k, comp, e1, e2, e3⟩ := Cond.arrayClass_spec (hts _ h0)
    exact ⟨cA, fun N z => ⟨(fun k h => by cases h), k, e2, comp, e3⟩, e1⟩
  obtain ⟨a0, b0, c0⟩ := harr .int (by decide +kernel)
  obtain ⟨a1, b1, c1⟩ := harr .byte (by decide +kernel)
  obtain ⟨a2, b2, c2⟩ := harr .boolean (by decide +kernel)
  obtain ⟨a3, b3, c3⟩ := harr .long (by decide +kernel)
  have hov : (Jvm.Cond.arrayOver (.object RX0)).before args s = true := hts _ (by decide +kernel)
  obtain ⟨comp, a4, k4, e1, -, e2, e3, e4⟩ := Cond.arrayOver_spec hov
  refine ⟨(fun k => (f k).1, fun k => (f k).2), fun t => match t with
    | 0 => a0
    | 1 => a1
    | 2 => a2
    | 3 => a3
    | _ => a4, ⟨fun k r hr => hf k r hr, fun k q hk => ?_⟩, va_AO.of hov, fun w hw => ?_⟩
  · match k, hk with
    | 0, hk => cases hk; exact ⟨b0, c0⟩
    | 1, hk => cases hk; exact ⟨b1, c1⟩
    | 2, hk => cases hk; exact ⟨b2, c2⟩
    | 3, hk => cases hk; exact ⟨b3, c3⟩
    | 4, hk => cases hk; exact ⟨fun N z => ⟨(fun k h => by cases h), k4, e2, comp, e3⟩, k4, comp, e2, e3, e1, e4⟩
    | n + 5, hk => simp [ae_tys] at hk
  · obtain ⟨h2, h3⟩ := List.mem_filter.mp hw
    cases w <;> first | exact va_Nw.of rfl (hts _ h2) | cases h3
section
variable {tq : Int} {p : Program} {l : Launch} {e : Env} {s : State} {m : MethodId} {args : Array Value} {below : List Frame} {meth : Method} {c : Code} {Q : State → Prop} {D : va_G} {kA : Nat → ClassId} {A : Nat → Prop} {M : ae_M} {R : Room} {pc ce sl : Nat} {h : ae_H} {ws : va_W} {H : Heap} {locs : List Loc} {ls : Array Slot} {stC : List Value}
/-- a new object, at a state of the machine -/
theorem ae_newoW (X : ae_Cx p s m args meth c D kA A M) (hR : R = ae_room M) {idx ci k0 : Nat} {fs : List ae_V} (hd : decode M.2.2.1 pc = .ok (.new idx, 3)) (hc : ae_cp M.1 idx = some (3, ci, k0)) (hf : ae_nf ci = some fs) (hl1 : h.1 < 256) (hce : ce + 1 ≤ M.2.2.2.2.2.2.2.2.2.1) (hsl : sl + fs.length ≤ M.2.2.2.2.2.2.2.2.2.2) (hhr : ae_hr kA ws h) (hP : va_P D ae_cl ws H) (hD : va_D A ws) (hS : va_S A s.heap H locs)
    (kk : ∀ (ws1 : va_W) (H1 : Heap) (q : Nat), ae_hr kA ws1 (ae_hp h (.inr (ci, fs))) → ae_px (ae_ad kA ws) (ae_ad kA ws1) → ae_ad kA ws1 h.1 = some q → va_P D ae_cl ws1 H1 → va_D A ws1 → va_S A s.heap H1 locs → W p l e R s m args below meth c H1 locs (ce + 1) (sl + fs.length) Q (F0 m (pc + 3) ls (.ref q :: stC))) : W p l e R s m args below meth c H locs ce sl Q (F0 m pc ls stC) := by
  obtain ⟨hx, hb, hml, hown, hts, ⟨hK, -, -⟩, hA, -⟩ := X
  obtain ⟨T, N, hcl, hlink⟩ := ae_cp_n hc
  obtain ⟨ty, hlay, hty, hnm, hins, hini, -, hfs9, hnf⟩ := ae_cls ci _ hcl
  have hnf : ae_nf ci = some ((List.range N).map (fun k => ae_dv (ty k))) := hnf
  cases hf.symm.trans hnf
  have hlen : ((List.range N).map (fun k => ae_dv (ty k))).length = N := by simp
  rw [hlen] at hsl kk
  subst hR
  refine va_new (D := D) (ci := ci) (Ts := ae_gw) (fs := (List.range N).map (fun k => defaultValue (ty k))) hx hb hts hlay ty hty hown (hts _ hlink) (hts _ hins) (hts _ hini) hK hP hD hS hA hcl (fun j hj => ?_) hce hsl hd (fun q H1 hP1 hD1 hS1 => ?_)
  · unfold vp_V
    rw [List.getD_eq_getElem?_getD, List.getElem?_map, List.getElem?_range hj]; rfl
  · have hsr9 := ae_dvs_ok (ad := ae_ad kA ws) (ty := ty) (List.range N) (fun k hk => by
      obtain ⟨-, fk, -, hkb⟩ := hfs9 k (List.mem_range.mp hk)
      exact ae_kb_nf hkb)
    obtain ⟨hr2, hat⟩ := ae_hr_push (q := q) (c := .inr (ci, (List.range N).map (fun k => ae_dv (ty k)))) (e := .inr (ci, (List.range N).map (fun k => defaultValue (ty k)))) hhr hl1 ⟨_, rfl, hsr9⟩
    have hp2 := ae_px_push (kA := kA) (ws := ws) (by rw [hhr.1]; exact hl1) (q, .inr (ci, (List.range N).map (fun k => defaultValue (ty k))))
    exact kk _ H1 q hr2 hp2 hat hP1 hD1 hS1
end
def R_law : String := "PlugHallLaw"
def lw_P (b : Addr) (xs : List Int32) (args : Array Value) (s : State) : Prop := args = #[.ref b] ∧ s.IntsAt b xs ∧ xs.length ≤ 3072 ∧ (Jvm.Cond.and given_1 narrow_1).before args s = true
def lw_Q (_ : Array Value) (s : State) (o : Outcome) (t : State) : Prop := o = .returned (some (.int 1)) ∧ Framed s o t [] 601024 7293034
def lw_Z (below : List Frame) (a : Array Value) (s : State) : State → Prop := fun t => ∃ o, t.status = .running ∧ Ended t below o ∧ lw_Q a s o t
/-- the law's own end, with 1 on the stack, nothing written that was there before, its room as the claim has it -/
theorem lw_ret {p : Program} {l : Launch} {e : Env} {s : State} {m : MethodId} {below : List Frame} {meth : Method} {c : Code} {b : Nat} (hx : p.tables.exec = Jvm.exec) (hb : c.code = code) (hr : meth.sig.returnType = ret) (hlocks : meth.locks = false) {pc : Nat} {H : Heap} {ls : Array Slot} (hdg : decode code pc = .ok (.ireturn, 1)) : W p l e room_1 s m #[Value.ref b] below meth c H [] 601024 7293034 (lw_Z below #[Value.ref b] s) (F0 m pc ls [.int 1]) := by
  intro T hT X
  obtain ⟨fs, hret, hrun, hended, hW, hframe⟩ := X.leave (v := some (.int 1)) (hlocks := hlocks) (fun h => by rw [hr] at h; cases h)
  have hmeth' : T.vm.method? m = some meth := X.method'
  refine ⟨T.setFrames fs, ?_, .returned (some (.int 1)), hrun, hended, rfl, ⟨_, rfl⟩, hW, hframe⟩
  jvm_step X.here [X.here.top, hx, hb, hdg, hmeth', hr, ret, narrow_b1]
  (try refine ⟨rfl, ?_⟩); (try refine ⟨rfl, ?_⟩)
  first | (intro acts; rw [hret _ acts rfl rfl rfl]) | rw [hret _ _ rfl rfl rfl]
  exact Steps.refl _
/-- what holds at the law's entry: the machine, the code, the tables' words (any of lw_tbl by 'hts w (by decide +kernel)'), the script of L ints xs at the cell b, what the Statement gives of the start (any of its parts by flat_of_before) -/
def lw_At (p : Program) (s : State) (m : MethodId) (meth : Method) (c : Code) (b L : Nat) (xs : Nat → Int32) : Prop :=
  p.tables.exec = Jvm.exec ∧ c.code = code ∧ meth.sig.returnType = ret ∧ c.maxLocals = 7 ∧ s.vm.findClass R_law = some m.cls ∧ (∀ w ∈ lw_tbl, w.before #[Value.ref b] s = true) ∧ va_X b L xs s s.heap ∧ b < s.heap.size ∧ meth.locks = false ∧ (Jvm.Cond.and given_1 narrow_1).before #[Value.ref b] s = true
theorem lw_gt {L i : Nat} (hL : L ≤ 3072) (hi : i ≤ 4000) : (Int32.ofNat L - 6 < nI i) ↔ L < i + 6 := by
  have h6 : (6 : Int32) = nI 6 := by decide +kernel
  have e1 : (Int32.ofNat L - 6).toInt = (L : Int) - 6 := by
    rw [Int32.toInt_sub, show (Int32.ofNat L).toInt = (L : Int) from nI_toInt (by omega), h6, nI_toInt (by omega)]
    show ((L : Int) - 6).bmod 4294967296 = _
    rw [Int.bmod_def]
    split <;> omega
  rw [Int32.lt_iff_toInt_lt, e1, nI_toInt (by omega)]
  omega
section
variable {tq : Int} {p : Program} {l : Launch} {e : Env} {s : State} {m : MethodId} {below : List Frame} {meth : Method} {c : Code} {D : va_G} {kA : Nat → ClassId} {ce sl : Nat} {ws : va_W} {H : Heap} {locs : List Loc} {ls : Array Slot} {b L x0 m0 o0 i : Nat} {xs : Nat → Int32} {Q : State → Prop} {h : ae_H} {n : Int}
/-- the law's way out, at its loop's head -/
theorem law_exit (X : lw_C p l s m meth c D kA b L xs) (hS : va_S (ae_A s) s.heap H locs) (hce : ce ≤ 601024) (hsl : sl ≤ 7293034) {y : Int32} (h0 : ls[0]? = some (.val (.ref b))) (h4 : ls[4]? = some (.val (.int y))) (hgt : Int32.ofNat L - 6 < y) : W p l e room_1 s m #[Value.ref b] below meth c H locs ce sl (lw_Z below #[Value.ref b] s) (F0 m 23 ls []) := by
  obtain ⟨X, hX, hbl, -⟩ := X
  have hx : p.tables.exec = Jvm.exec := X.1
  have hb : c.code = code := X.2.1
  have hr : meth.sig.returnType = ret := X.2.2.2.2.2.2.2.2.1
  have hlocks : meth.locks = false := X.2.2.2.2.2.2.2.2.2.1
  refine lv_iload (i := 4) hx hb (by decide +kernel) h4 ?_
  refine lv_aload_n (k := 0) hx hb (by decide +kernel) rfl h0 ?_
  refine va_slen hx hb hX hbl (Nat.not_le.mpr hbl) hS (by decide +kernel) ?_
  refine lv_bipush (n := 6) (v := 6) hx hb (by decide +kernel) (by decide) ?_
  refine lv_isub hx hb (by decide +kernel) ?_
  refine lv_icmp_gt (off := 1246) (tgt := 1276) hx hb (by decide +kernel) (by decide) (fun _ => ?_) (fun z => absurd hgt z)
  refine lv_iconst (n := 1) (v := 1) hx hb (by decide +kernel) (by decide) ?_
  refine va_forget (fun q hq => hS.2.2 q hq) ?_
  refine W.widen (k := 601024) (n := 7293034) hce hsl ?_
  exact lw_ret hx hb hr hlocks (by decide +kernel)
/-- one turn of the law -/
theorem law_turn (X : lw_C p l s m meth c D kA b L xs) (hi : i + 6 ≤ L) (hce : ce + 1 ≤ 601024) (hsl : sl + 6 ≤ 7293034) (S : lw_S s D kA b x0 m0 o0 i tq ws H locs ls h n n) (ht : 0 ≤ tq ∧ tq ≤ 600) (fin : ∀ ws H locs ls h n, lw_S s D kA b x0 m0 o0 i (tq + 1) ws H locs ls h n n → W p l e room_1 s m #[Value.ref b] below meth c H locs (ce + 1) (sl + 6) Q (F0 m 1270 ls [])) : W p l e room_1 s m #[Value.ref b] below meth c H locs ce sl Q (F0 m 23 ls []) := by
  have X0 := X
  have S0 := S
  obtain ⟨Xc, hX, hbl, hL, htr, hTT⟩ := X
  obtain ⟨hl, hx0, hm0, hhr, I, hO, hS⟩ := S
  have hx : p.tables.exec = Jvm.exec := Xc.1
  have hb : c.code = code := Xc.2.1
  refine lv_iload (i := 4) hx hb (by decide +kernel) (lv_at hl 4 rfl) ?_
  refine lv_aload_n (k := 0) hx hb (by decide +kernel) rfl (lv_at hl 0 rfl) ?_
  refine va_slen hx hb hX hbl (Nat.not_le.mpr hbl) hS (by decide +kernel) ?_
  refine lv_bipush (n := 6) (v := 6) hx hb (by decide +kernel) (by decide) ?_
  refine lv_isub hx hb (by decide +kernel) ?_
  refine lv_icmp_gt (off := 1246) (tgt := 1276) hx hb (by decide +kernel) (by decide) (fun z => absurd ((lw_gt hL (by omega)).mp z) (by omega)) (fun _ => ?_)
  refine lv_aload_n (k := 0) hx hb (by decide +kernel) rfl (lv_at hl 0 rfl) ?_
  refine lv_iload (i := 4) hx hb (by decide +kernel) (lv_at hl 4 rfl) ?_
  refine va_sld hx hb hX hbl (Nat.not_le.mpr hbl) hS (vp_in_nI (n := i) (N := L) (by omega) (by omega)) (by decide +kernel) ?_
  refine lv_bipush (n := 63) (v := 63) hx hb (by decide +kernel) (by decide) ?_
  refine lv_iand hx hb (by decide +kernel) ?_
  obtain ⟨j, hj, ej⟩ := pk_andE (xs (nI i).toNatClampNeg) (m := 63) 6 (by decide +kernel)
  rw [ej]
  have hjt : (nI j).toInt = (j : Int) := nI_toInt (by omega)
  have hd40 := (show decode code 40 = .ok (.tableswitch 1230 0 37 #[168, 241, 266, 291, 316, 368, 393, 406, 419, 456, 481, 549, 577, 614, 639, 664, 689, 714, 727, 740, 753, 766, 791, 816, 853, 893, 930, 955, 968, 993, 1018, 1043, 1080, 1105, 1130, 1167, 1180, 1205], 168) by decide +kernel)
  match j, hj, hjt with
  | 0, hj, hjt => exact lv_tableIn (off := 168) (tgt := 208) hx hb hd40 (by rw [hjt]; decide) (by rw [hjt]; decide) (by rw [hjt]; rfl) (by decide) (law_op0 X0 hi hce hsl S0 ht fin)
  | 1, hj, hjt => exact lv_tableIn (off := 241) (tgt := 281) hx hb hd40 (by rw [hjt]; decide) (by rw [hjt]; decide) (by rw [hjt]; rfl) (by decide) (law_op1 X0 hi hce hsl S0 ht fin)
  | 2, hj, hjt => exact lv_tableIn (off := 266) (tgt := 306) hx hb hd40 (by rw [hjt]; decide) (by rw [hjt]; decide) (by rw [hjt]; rfl) (by decide) (law_op2 X0 hi hce hsl S0 ht fin)
  | 3, hj, hjt => exact lv_tableIn (off := 291) (tgt := 331) hx hb hd40 (by rw [hjt]; decide) (by rw [hjt]; decide) (by rw [hjt]; rfl) (by decide) (law_op3 X0 hi hce hsl S0 ht fin)
  | 4, hj, hjt => exact lv_tableIn (off := 316) (tgt := 356) hx hb hd40 (by rw [hjt]; decide) (by rw [hjt]; decide) (by rw [hjt]; rfl) (by decide) (law_op4 X0 hi hce hsl S0 ht fin)
  | 5, hj, hjt => exact lv_tableIn (off := 368) (tgt := 408) hx hb hd40 (by rw [hjt]; decide) (by rw [hjt]; decide) (by rw [hjt]; rfl) (by decide) (law_op5 X0 hi hce hsl S0 ht fin)
  | 6, hj, hjt => exact lv_tableIn (off := 393) (tgt := 433) hx hb hd40 (by rw [hjt]; decide) (by rw [hjt]; decide) (by rw [hjt]; rfl) (by decide) (law_op6 X0 hi hce hsl S0 ht fin)
  | 7, hj, hjt => exact lv_tableIn (off := 406) (tgt := 446) hx hb hd40 (by rw [hjt]; decide) (by rw [hjt]; decide) (by rw [hjt]; rfl) (by decide) (law_op7 X0 hi hce hsl S0 ht fin)
  | 8, hj, hjt => exact lv_tableIn (off := 419) (tgt := 459) hx hb hd40 (by rw [hjt]; decide) (by rw [hjt]; decide) (by rw [hjt]; rfl) (by decide) (law_op8 X0 hi hce hsl S0 ht fin)
  | 9, hj, hjt => exact lv_tableIn (off := 456) (tgt := 496) hx hb hd40 (by rw [hjt]; decide) (by rw [hjt]; decide) (by rw [hjt]; rfl) (by decide) (law_op9 X0 hi hce hsl S0 ht fin)
  | 10, hj, hjt => exact lv_tableIn (off := 481) (tgt := 521) hx hb hd40 (by rw [hjt]; decide) (by rw [hjt]; decide) (by rw [hjt]; rfl) (by decide) (law_op10 X0 hi hce hsl S0 ht fin)
  | 11, hj, hjt => exact lv_tableIn (off := 549) (tgt := 589) hx hb hd40 (by rw [hjt]; decide) (by rw [hjt]; decide) (by rw [hjt]; rfl) (by decide) (law_op11 X0 hi hce hsl S0 ht fin)
  | 12, hj, hjt => exact lv_tableIn (off := 577) (tgt := 617) hx hb hd40 (by rw [hjt]; decide) (by rw [hjt]; decide) (by rw [hjt]; rfl) (by decide) (law_op12 X0 hi hce hsl S0 ht fin)
  | 13, hj, hjt => exact lv_tableIn (off := 614) (tgt := 654) hx hb hd40 (by rw [hjt]; decide) (by rw [hjt]; decide) (by rw [hjt]; rfl) (by decide) (law_op13 X0 hi hce hsl S0 ht fin)
  | 14, hj, hjt => exact lv_tableIn (off := 639) (tgt := 679) hx hb hd40 (by rw [hjt]; decide) (by rw [hjt]; decide) (by rw [hjt]; rfl) (by decide) (law_op14 X0 hi hce hsl S0 ht fin)
  | 15, hj, hjt => exact lv_tableIn (off := 664) (tgt := 704) hx hb hd40 (by rw [hjt]; decide) (by rw [hjt]; decide) (by rw [hjt]; rfl) (by decide) (law_op15 X0 hi hce hsl S0 ht fin)
  | 16, hj, hjt => exact lv_tableIn (off := 689) (tgt := 729) hx hb hd40 (by rw [hjt]; decide) (by rw [hjt]; decide) (by rw [hjt]; rfl) (by decide) (law_op16 X0 hi hce hsl S0 ht fin)
  | 17, hj, hjt => exact lv_tableIn (off := 714) (tgt := 754) hx hb hd40 (by rw [hjt]; decide) (by rw [hjt]; decide) (by rw [hjt]; rfl) (by decide) (law_op17 X0 hi hce hsl S0 ht fin)
  | 18, hj, hjt => exact lv_tableIn (off := 727) (tgt := 767) hx hb hd40 (by rw [hjt]; decide) (by rw [hjt]; decide) (by rw [hjt]; rfl) (by decide) (law_op18 X0 hi hce hsl S0 ht fin)
  | 19, hj, hjt => exact lv_tableIn (off := 740) (tgt := 780) hx hb hd40 (by rw [hjt]; decide) (by rw [hjt]; decide) (by rw [hjt]; rfl) (by decide) (law_op19 X0 hi hce hsl S0 ht fin)
  | 20, hj, hjt => exact lv_tableIn (off := 753) (tgt := 793) hx hb hd40 (by rw [hjt]; decide) (by rw [hjt]; decide) (by rw [hjt]; rfl) (by decide) (law_op20 X0 hi hce hsl S0 ht fin)
  | 21, hj, hjt => exact lv_tableIn (off := 766) (tgt := 806) hx hb hd40 (by rw [hjt]; decide) (by rw [hjt]; decide) (by rw [hjt]; rfl) (by decide) (law_op21 X0 hi hce hsl S0 ht fin)
  | 22, hj, hjt => exact lv_tableIn (off := 791) (tgt := 831) hx hb hd40 (by rw [hjt]; decide) (by rw [hjt]; decide) (by rw [hjt]; rfl) (by decide) (law_op22 X0 hi hce hsl S0 ht fin)
  | 23, hj, hjt => exact lv_tableIn (off := 816) (tgt := 856) hx hb hd40 (by rw [hjt]; decide) (by rw [hjt]; decide) (by rw [hjt]; rfl) (by decide) (law_op23 X0 hi hce hsl S0 ht fin)
  | 24, hj, hjt => exact lv_tableIn (off := 853) (tgt := 893) hx hb hd40 (by rw [hjt]; decide) (by rw [hjt]; decide) (by rw [hjt]; rfl) (by decide) (law_op24 X0 hi hce hsl S0 ht fin)
  | 25, hj, hjt => exact lv_tableIn (off := 893) (tgt := 933) hx hb hd40 (by rw [hjt]; decide) (by rw [hjt]; decide) (by rw [hjt]; rfl) (by decide) (law_op25 X0 hi hce hsl S0 ht fin)
  | 26, hj, hjt => exact lv_tableIn (off := 930) (tgt := 970) hx hb hd40 (by rw [hjt]; decide) (by rw [hjt]; decide) (by rw [hjt]; rfl) (by decide) (law_op26 X0 hi hce hsl S0 ht fin)
  | 27, hj, hjt => exact lv_tableIn (off := 955) (tgt := 995) hx hb hd40 (by rw [hjt]; decide) (by rw [hjt]; decide) (by rw [hjt]; rfl) (by decide) (law_op27 X0 hi hce hsl S0 ht fin)
  | 28, hj, hjt => exact lv_tableIn (off := 968) (tgt := 1008) hx hb hd40 (by rw [hjt]; decide) (by rw [hjt]; decide) (by rw [hjt]; rfl) (by decide) (law_op28 X0 hi hce hsl S0 ht fin)
  | 29, hj, hjt => exact lv_tableIn (off := 993) (tgt := 1033) hx hb hd40 (by rw [hjt]; decide) (by rw [hjt]; decide) (by rw [hjt]; rfl) (by decide) (law_op29 X0 hi hce hsl S0 ht fin)
  | 30, hj, hjt => exact lv_tableIn (off := 1018) (tgt := 1058) hx hb hd40 (by rw [hjt]; decide) (by rw [hjt]; decide) (by rw [hjt]; rfl) (by decide) (law_op30 X0 hi hce hsl S0 ht fin)
  | 31, hj, hjt => exact lv_tableIn (off := 1043) (tgt := 1083) hx hb hd40 (by rw [hjt]; decide) (by rw [hjt]; decide) (by rw [hjt]; rfl) (by decide) (law_op31 X0 hi hce hsl S0 ht fin)
  | 32, hj, hjt => exact lv_tableIn (off := 1080) (tgt := 1120) hx hb hd40 (by rw [hjt]; decide) (by rw [hjt]; decide) (by rw [hjt]; rfl) (by decide) (law_op32 X0 hi hce hsl S0 ht fin)
  | 33, hj, hjt => exact lv_tableIn (off := 1105) (tgt := 1145) hx hb hd40 (by rw [hjt]; decide) (by rw [hjt]; decide) (by rw [hjt]; rfl) (by decide) (law_op33 X0 hi hce hsl S0 ht fin)
  | 34, hj, hjt => exact lv_tableIn (off := 1130) (tgt := 1170) hx hb hd40 (by rw [hjt]; decide) (by rw [hjt]; decide) (by rw [hjt]; rfl) (by decide) (law_op34 X0 hi hce hsl S0 ht fin)
  | 35, hj, hjt => exact lv_tableIn (off := 1167) (tgt := 1207) hx hb hd40 (by rw [hjt]; decide) (by rw [hjt]; decide) (by rw [hjt]; rfl) (by decide) (law_op35 X0 hi hce hsl S0 ht fin)
  | 36, hj, hjt => exact lv_tableIn (off := 1180) (tgt := 1220) hx hb hd40 (by rw [hjt]; decide) (by rw [hjt]; decide) (by rw [hjt]; rfl) (by decide) (law_op36 X0 hi hce hsl S0 ht fin)
  | 37, hj, hjt => exact lv_tableIn (off := 1205) (tgt := 1245) hx hb hd40 (by rw [hjt]; decide) (by rw [hjt]; decide) (by rw [hjt]; rfl) (by decide) (law_op37 X0 hi hce hsl S0 ht fin)
  | j + 38, hj, hjt =>
    refine lv_tableOut (tgt := 1270) hx hb hd40 (Or.inr (by rw [hjt]; omega)) (by decide) ?_
    exact W.widen (Nat.le_succ ce) (Nat.le_add_right sl 6) (fin ws H locs ls h n ⟨S0.1, S0.2.1, S0.2.2.1, S0.2.2.2.1, ⟨S0.2.2.2.2.1.1, S0.2.2.2.2.1.2.1, S0.2.2.2.2.1.2.2.up⟩, S0.2.2.2.2.2⟩)
theorem law_loop (X : lw_C p l s m meth c D kA b L xs) : ∀ (d i ce sl : Nat) (tq : Int) (ws : va_W) (H : Heap) (locs : List Loc) (ls : Array Slot) (h : ae_H) (n : Int), 0 ≤ tq → 6 * tq ≤ (i : Int) → L < i + 6 * d → i ≤ 3080 → ce + d ≤ 601024 → sl + 6 * d ≤ 7293034 → lw_S s D kA b x0 m0 o0 i tq ws H locs ls h n n → W p l e room_1 s m #[Value.ref b] below meth c H locs ce sl (lw_Z below #[Value.ref b] s) (F0 m 23 ls []) := by
  intro d
  induction d with
  | zero =>
    intro i ce sl tq ws H locs ls h n t0 t6 hd hi hce hsl S
    exact law_exit X S.2.2.2.2.2.2 (by omega) (by omega) (lv_at S.1 0 rfl) (lv_at S.1 4 rfl) ((lw_gt X.2.2.2.1 (by omega)).mpr (by omega))
  | succ d ih =>
    intro i ce sl tq ws H locs ls h n t0 t6 hd hi hce hsl S
    by_cases hL : i + 6 ≤ L
    · have hL2 := X.2.2.2.1
      refine law_turn X hL (by omega) (by omega) S ⟨t0, by omega⟩ (fun ws1 H1 locs1 ls1 h1 n1 S1 => ?_)
      obtain ⟨hl, r1⟩ := S1
      refine lv_iinc (i := 4) (n := 6) (k := 4) (v := nI i + 6) (lv' := [(4, .int (nI i + 6)), (0, .ref b), (1, .ref x0), (2, .ref m0), (3, .ref o0)]) X.1.1 X.1.2.1 (by decide +kernel) hl rfl (by rw [show Int32.ofInt 6 = (6 : Int32) from by decide]) (by decide) rfl (fun ls2 hl2 => ?_)
      refine lv_goto (off := -1250) (tgt := 23) X.1.1 X.1.2.1 (by decide +kernel) (by decide) ?_
      have e6 : nI i + 6 = nI (i + 6) := by rw [← nI_add]; rfl
      rw [e6] at hl2
      exact ih (i + 6) (ce + 1) (sl + 6) (tq + 1) ws1 H1 locs1 ls2 h1 n1 (by omega) (by omega) (by omega) (by omega) (by omega) (by omega) ⟨lv_sub hl2 [1, 2, 3, 4, 0] rfl, r1⟩
    · exact law_exit X S.2.2.2.2.2.2 (by omega) (by omega) (lv_at S.1 0 rfl) (lv_at S.1 4 rfl) ((lw_gt X.2.2.2.1 (by omega)).mpr (by omega))
end
theorem sz_x3 : sz_hk ae_x3 = true := by decide +kernel
theorem lw_T0 : lw_T ae_x3 0 0 := by
  refine ⟨sz_hk_ok sz_x3, ⟨96, 105, Or.inl ⟨rfl, rfl⟩, rfl, rfl, ⟨rfl, rfl, rfl, rfl, rfl, rfl, rfl, rfl⟩, ⟨rfl, rfl, rfl, rfl, rfl, rfl, rfl, rfl⟩, 0, 0, rfl, rfl, ⟨by omega, by omega⟩, ⟨by omega, by omega⟩, fun j a b => absurd a (by omega), fun j a b => absurd a (by omega)⟩, ?_, ⟨rfl, by omega, by omega⟩, rfl, by omega, by omega⟩
  have e1 : wk_R ae_x3 151 0 = 0 := by decide +kernel
  have e2 : wk_R ae_x3 155 0 = 0 := by decide +kernel
  refine ⟨fun j a b => ?_, fun j a b => ?_⟩
  · rw [e1] at b; omega
  · rw [e2] at b; omega
theorem lw_I0 : lw_I 0 ae_x3 0 0 := ⟨lw_T0, dz_ok_ok dz_x3, lx_P0⟩
theorem ae_t0_n : ∀ (n k : Nat), ae_tg n (ae_t0 n) k = none := by
  intro n
  induction n with
  | zero => intro k; rfl
  | succ n ih =>
    intro k
    show ae_tg (n + 1) ((ae_t0 n, ae_t0 n) : ae_T n × ae_T n) k = none
    rw [ae_tg_s, ih]
    cases Nat.ble (2 ^ n) (k % 2 ^ (n + 1)) <;> rfl
theorem ae_hr0 (kA : Nat → ClassId) : ae_hr kA [] (0, ae_t0 8) := by
  refine ⟨rfl, by decide, fun k c h => ?_⟩
  have h1 := ae_hg_lt h
  rw [ae_hg_in h1] at h
  have h : ae_tg 8 (ae_t0 8) k = some c := h
  rw [ae_t0_n] at h
  cases h
/-- a constructor of the table, as the law calls it -/
noncomputable def ae_nki (a own this mc ms : Nat) (h : ae_H) : Bool := match ae_m a with
  | some N => and (Nat.beq N.1 own) (and (Nat.beq N.2.2.2.2.2.1 2) (and (Nat.blt N.2.2.2.2.2.2.2.1 14) (and (Nat.ble (Nat.add (Nat.add 19 N.2.2.2.1) N.2.2.2.2.2.2.2.2.1) 518) (and (Nat.beq N.2.2.2.2.2.2.2.2.2.1 mc) (and (Nat.beq N.2.2.2.2.2.2.2.2.2.2 ms) (and (Nat.beq N.2.2.2.2.2.2.1 0) (and (Nat.ble 1 N.2.2.2.1) (ae_rcv 2 [.inr (.inr (some this))] h own))))))))
  | none => false
theorem ae_nki_ok {a own this mc ms : Nat} {h : ae_H} (q : ae_nki a own this mc ms h = true) : ∃ N, ae_m a = some N ∧ N.2.2.2.2.2.1 = 2 ∧ N.2.2.2.2.2.2.2.1 < 14 ∧ 19 + N.2.2.2.1 + N.2.2.2.2.2.2.2.2.1 ≤ 518 ∧ N.2.2.2.2.2.2.2.2.2.1 = mc ∧ N.2.2.2.2.2.2.2.2.2.2 = ms ∧ N.2.2.2.2.2.2.1 = 0 ∧ 1 ≤ N.2.2.2.1 ∧ ae_rcv 2 [.inr (.inr (some this))] h N.1 = true := by
  unfold ae_nki at q
  split at q
  · next N hN =>
    obtain ⟨q1, q⟩ := ae_band q
    obtain ⟨q2, q⟩ := ae_band q
    obtain ⟨q3, q⟩ := ae_band q
    obtain ⟨q4, q⟩ := ae_band q
    obtain ⟨q5, q⟩ := ae_band q
    obtain ⟨q6, q⟩ := ae_band q
    obtain ⟨q7, q⟩ := ae_band q
    obtain ⟨q8, q⟩ := ae_band q
    have q1 := ae_beq q1
    refine ⟨N, hN, ae_beq q2, ae_blt q3, ae_ble q4, ae_beq q5, ae_beq q6, ae_beq q7, ae_ble q8, ?_⟩
    rw [q1]; exact q
  · cases q
theorem ae_ni1 : ae_nki 143 11 0 113 18033 ae_x0 = true := by decide +kernel
theorem ae_ni2 : ae_nki 182 12 114 59 19726 ae_x2 = true := by decide +kernel
theorem ae_ls1 : Jvm.Cond.laysStatic Bundle.tN "UNASSIGNED_STACK" Bundle.steD ∈ lw_tbl := by decide +kernel
theorem ae_ls2 : Jvm.Cond.laysStatic Bundle.tN "SUPPRESSED_SENTINEL" Bundle.listD ∈ lw_tbl := by decide +kernel
theorem ae_ini9 : Jvm.Cond.initialized Bundle.tN ∈ lw_tbl := by decide +kernel
theorem ae_nr1 : Jvm.Cond.isRef (.static Bundle.tN "UNASSIGNED_STACK" Bundle.steD) ∈ flatC (Jvm.Cond.and given_1 narrow_1) := by decide +kernel
theorem ae_nr2 : Jvm.Cond.isRef (.static Bundle.tN "SUPPRESSED_SENTINEL" Bundle.listD) ∈ flatC (Jvm.Cond.and given_1 narrow_1) := by decide +kernel
set_option maxHeartbeats 4000000 in
/-- from the entry, for every script of at most 3072 ints, the law comes to its end with true -/
theorem whole_start {p : Program} {e : Env} {s : State} {m : MethodId} {below : List Frame} {meth : Method} {c : Code} (l : Launch) (htr : l.stackTraces = false) {b L : Nat} {xs : Nat → Int32} (hL : L ≤ 3072) (C0 : lw_At p s m meth c b L xs) : W p l e room_1 s m #[Value.ref b] below meth c s.heap [] 0 0 (lw_Z below #[Value.ref b] s) (entryFrame m ([Value.ref b] : List Value).toArray 7) := by
  obtain ⟨hx, hb, hr, hml, hown, hts, hX, hbl, hlocks, hgv⟩ := id C0
  obtain ⟨D, k0, hKK0⟩ := ae_KK_of hts
  have hnar := flat_of_before _ hgv
  obtain ⟨r9, t9, hEX⟩ := le_EX hts hnar k0
  generalize ekA : le_kA k0 r9 t9 = kA at hEX
  have hKK : ae_KK D kA s := by subst ekA; exact hKK0
  have X : ae_Cx p s m #[Value.ref b] meth c D kA (ae_A s) ae_Ml := ⟨hx, hb, hml, hown, fun w hw => hts w (ae_gw_tbl hw), hKK, fun _ h => h, fun h => absurd h (by decide), hr, hlocks, hEX⟩
  have hS : va_S (ae_A s) s.heap s.heap [] := va_S.rf
  have hTT : ae_TT (ae_A s) s s.heap := ⟨vx_Zqof (hts _ ae_ls1) (hts _ ae_ini9) (hnar _ ae_nr1) (fun a h => Nat.not_le.mpr h), vx_Zqof (hts _ ae_ls2) (hts _ ae_ini9) (hnar _ ae_nr2) (fun a h => Nat.not_le.mpr h), fun w hw => va_Nw.of (by
    have h2 : ae_isc w = true := List.all_eq_true.mp ae_vn_c w hw
    cases w <;> first | rfl | cases h2) (hts w (ae_vn_t w hw))⟩
  have hP : va_P D ae_cl [] s.heap := fun k q h => by simp at h
  have hD : va_D (ae_A s) [] := ⟨fun i j p q h => by simp at h, fun k q h => by simp at h⟩
  have hhr := ae_hr0 kA
  have hl := lv_entry ([.ref b]) (n := 7) (Nat.le_of_ble_eq_true rfl)
  rw [lg_entry_eq]
  generalize (lg_sl ([.ref b]) ++ List.replicate (7 - (lg_sl ([.ref b])).length) Slot.unset).toArray = ls at hl ⊢
  have hl : lv_has ls 7 [(0, .ref b)] := hl
  refine ae_newoW (R := room_1) (idx := 8) (ci := 11) (k0 := 0) (fs := ae_nf11) X rfl (by decide +kernel) rfl rfl (by decide) (Nat.le_of_ble_eq_true rfl) (Nat.le_of_ble_eq_true rfl) hhr hP hD hS (fun ws1 H1 x0 hr1 hp1 hx1 hP1 hD1 hS1 => ?_)
  have hx1 : ae_ad kA ws1 0 = some x0 := hx1
  refine lv_dup hx hb (by decide +kernel) rfl ?_
  obtain ⟨N1, hN1, a2, a3, a4, a5, a6, a7, a8, a9⟩ := ae_nki_ok ae_ni1
  have go1 := ae_callW (R := room_1) (ps := [.inr (.inr (some 0))]) (psC := [.ref x0]) (restC := [.ref x0]) (Q := lw_Z below #[Value.ref b] s) (l := l) (e := e) (below := below) (ce := 0 + 1) (sl := 0 + ae_nf11.length) (locs := []) (ls := ls) (pc := 4) (vir := 2) (idx := 26) (h := ae_x0) (z := 0) X rfl (by decide +kernel) (by omega) rfl (Or.inl rfl) hN1 a2 a3 a4 (by rw [a5]; exact Nat.le_of_ble_eq_true rfl) (by rw [a6]; exact Nat.le_of_ble_eq_true rfl) (by rw [a7]; rfl) (Nat.le_of_ble_eq_true rfl) a8 a9 (ae_run (ae_ends_ok ae_run1)) hl.1 ⟨_, [], rfl, ⟨x0, hx1, rfl⟩, rfl⟩ hr1 hP1 hD1 hS1
  refine go1 (fun rv ws2 H2 locs2 r1 r2 r3 r4 r5 r6 => ?_)
  rw [show rv = none from r1, a5, a6]
  refine lv_astore_n (k := 1) (lv' := [(1, .ref x0), (0, .ref b)]) hx hb (by decide +kernel) rfl hl (by decide) rfl (fun ls hl => ?_)
  refine ae_newoW (R := room_1) (idx := 27) (ci := 12) (k0 := 0) (fs := ae_nf12) X rfl (by decide +kernel) rfl rfl (by decide) (Nat.le_of_ble_eq_true rfl) (Nat.le_of_ble_eq_true rfl) r2 r4 r5 r6 (fun ws3 H3 m0 hr3 hp3 hx3 hP3 hD3 hS3 => ?_)
  have hx3 : ae_ad kA ws3 114 = some m0 := hx3
  refine lv_dup hx hb (by decide +kernel) rfl ?_
  obtain ⟨N2, hN2, b2, b3, b4, b5, b6, b7, b8, b9⟩ := ae_nki_ok ae_ni2
  have go2 := ae_callW (R := room_1) (ps := [.inr (.inr (some 114))]) (psC := [.ref m0]) (restC := [.ref m0]) (Q := lw_Z below #[Value.ref b] s) (l := l) (e := e) (below := below) (ce := 0 + 1 + 113 + 1) (sl := 0 + ae_nf11.length + 18033 + ae_nf12.length) (locs := locs2) (ls := ls) (pc := 12) (vir := 2) (idx := 29) (h := ae_x2) (z := 0) X rfl (by decide +kernel) (by omega) rfl (Or.inl rfl) hN2 b2 b3 b4 (by rw [b5]; exact Nat.le_of_ble_eq_true rfl) (by rw [b6]; exact Nat.le_of_ble_eq_true rfl) (by rw [b7]; rfl) (Nat.le_of_ble_eq_true rfl) b8 b9 (ae_run (ae_ends_ok ae_run2)) hl.1 ⟨_, [], rfl, ⟨m0, hx3, rfl⟩, rfl⟩ hr3 hP3 hD3 hS3
  refine go2 (fun rv2 ws4 H4 locs4 t1 t2 t3 t4 t5 t6 => ?_)
  rw [show rv2 = none from t1, b5, b6]
  refine lv_astore_n (k := 2) (lv' := [(2, .ref m0), (1, .ref x0), (0, .ref b)]) hx hb (by decide +kernel) rfl hl (by decide) rfl (fun ls hl => ?_)
  refine lv_iconst (n := 1) (v := nI 1) hx hb (by decide +kernel) (by decide +kernel) ?_
  have hNl : Jvm.Cond.arrayClass .long ∈ lw_tbl := by decide +kernel
  refine va_newa (D := D) (cl := ae_cl) (ws := ws4) (A := ae_A s) (H0 := s.heap) (tys := ae_tys kA) (atype := .long) (ty := .long) (N' := 1) (n := nI 1) (a0 := (1, .inr (.inl (fun _ => 0)))) hx hb (hts _ hNl) rfl hKK.1 t4 t5 t6 (fun q h => h) (fun cA => vp_cell_l cA 1 _) (nI_pos (by omega)) (nI_clamp (by omega)) (by decide) (Nat.le_of_ble_eq_true rfl) (Nat.le_of_ble_eq_true rfl) (by decide +kernel) (fun o0 cA H5 hK5 hP5 hD5 hS5 => ?_)
  have ecA := ae_kA (t := 3) hKK.1 rfl hK5
  subst ecA
  refine lv_astore_n (k := 3) (lv' := [(3, .ref o0), (2, .ref m0), (1, .ref x0), (0, .ref b)]) hx hb (by decide +kernel) rfl hl (by decide) rfl (fun ls hl => ?_)
  refine lv_iconst (n := 0) (v := nI 0) hx hb (by decide +kernel) (by decide) ?_
  refine lv_istore (i := 4) (lv' := [(4, .int (nI 0)), (3, .ref o0), (2, .ref m0), (1, .ref x0), (0, .ref b)]) hx hb (by decide +kernel) hl (by decide) rfl (fun ls hl => ?_)
  have hx0 : ae_ad kA ws4 0 = some x0 := t3 _ _ (hp3 _ _ (r3 _ _ hx1))
  have hm0 : ae_ad kA ws4 114 = some m0 := t3 _ _ hx3
  exact law_loop (L := L) ⟨X, hX, hbl, hL, htr, hTT⟩ 513 0 _ _ 0 ws4 H5 _ ls ae_x3 0 (by omega) (by omega) (by omega) (by omega) (Nat.le_of_ble_eq_true rfl) (Nat.le_of_ble_eq_true rfl) ⟨lv_sub hl [4, 3, 2, 1, 0] rfl, hx0, hm0, t2, lw_I0, ⟨fun _ => 0, hP5, hD5⟩, hS5⟩
set_option maxHeartbeats 4000000 in
theorem lw_walk (l : Launch) (htr : l.stackTraces = false) (b : Addr) (xs : List Int32) : MetFree l x (headSpec (Jvm.Cond.code x code maxLocals ret :: tables_1) room_1) (lw_P b xs) (fun _ _ _ _ _ => True) lw_Q := by
  refine MetFree.of_bodyS (code := code) (maxLocals := maxLocals) (ret := ret) (by decide) ?_ ?_
  · intro args s m h hn
    obtain ⟨meth, c, h1, h2, h3, h4, h5, h6, -, -⟩ := Cond.code_spec hn (atoms_spec (ws := Jvm.Cond.code x code maxLocals ret :: tables_1) h _ List.mem_cons_self)
    exact ⟨meth, c, h1, h2, h3, h4, h5, h6⟩
  · intro p e s m args below meth c s₁ B hml0 hP _
    obtain ⟨rfl, hx, hbd, hgv⟩ := hP
    obtain ⟨scr, harrAt, hlist, hof, hsmall⟩ := hx
    obtain ⟨hcb, hkn, -, -⟩ := State.arrayAt?_spec harrAt
    have hown : s.vm.findClass R_law = some m.cls := findClass_of_methodNamed B.named
    have hts0 : ∀ c ∈ (Jvm.Cond.code x code maxLocals ret :: tables_1), c.before #[Value.ref b] s = true := atoms_spec (ws := Jvm.Cond.code x code maxLocals ret :: tables_1) B.pre
    have hts : ∀ w ∈ lw_tbl, w.before #[Value.ref b] s = true := k2_hts_sels lw_privs (fun w hw => hts0 w (List.mem_cons_of_mem _ hw)) lw_privs_ok
    have hml : c.maxLocals = 7 := B.maxLocals_eq (hts0 _ List.mem_cons_self)
    have X₀ : Stand p l e room_1 s m #[Value.ref b] below meth c s₁ [] 0 0 := Stand.of_body B
    have hh0 : s₁.heap = s.heap := by rw [B.state]; rfl
    have hsz : scr.slots.size = xs.length := by rw [← Array.length_toList, hlist, List.length_map]
    have hval : ∀ j : Nat, j < xs.length → scr.slots[j]? = some (.int (xs.getD j 0)) := fun j hj => by
      rw [← Array.getElem?_toList, hlist]
      simp [hj]
    have hbl : b < s.heap.size := (Array.getElem?_eq_some_iff.mp hcb).1
    have hX : va_X b xs.length (fun j => xs.getD j 0) s s.heap := ⟨scr, hcb, hof, hkn, hsz, hval⟩
    have K : W p l e room_1 s m #[Value.ref b] below meth c s₁.heap [] 0 0 (lw_Z below #[Value.ref b] s) (entryFrame m ([Value.ref b] : List Value).toArray 7) := by
      rw [hh0]
      exact whole_start l htr hbd ⟨B.exec, B.bytes, B.returns, hml, hown, hts, hX, hbl, B.notSynchronized, hgv⟩
    obtain ⟨t, a1, o, b1, b2, b3⟩ := K s₁ rfl X₀
    exact ⟨t, o, a1, b1, b2, b3⟩
theorem lw_pre_spec {args : Array Value} {s : State} (h : (Jvm.Cond.and given_1 narrow_1).before args s = true) (hr : rest_1_c.before args s = true) : ∃ (b : Addr) (xs : List Int32), lw_P b xs args s := by
  have hs := flat_of_before _ h
  have hq := flat_of_before _ hr
  have hc : (Cond.count 1).before args s = true := hs _ (by decide +kernel)
  have harr : (Cond.arrayOf (.arg 0) .int).before args s = true := hs _ (by decide +kernel)
  have hle : (Cond.le (.length (.arg 0)) (.int 3072)).before args s = true := hs _ (by decide +kernel)
  have hlen : (Cond.isInt (.length (.arg 0))).before args s = true := hq _ (by decide +kernel)
  have hall : (Cond.all (.arg 0) (.isInt (.elem (.arg 0) (.index 0)))).before args s = true := hq _ (by decide +kernel)
  obtain ⟨b, xs, hb, hx⟩ := State.ints_of_pre rfl harr hlen hall
  have hsm : xs.length < 2 ^ 31 := hx.choose_spec.2.2.2
  have hev : (Term.length (.arg 0)).eval args s none [] s = some (.int xs.length.toInt32) := hx.length_eval hb
  have hv := Cond.le_ints hev (show (Term.int 3072).eval args s none [] s = some (.int 3072) from rfl)
  have hd : xs.length.toInt32 ≤ 3072 := by
    simpa [Cond.before, Cond.holds, hv] using hle
  have hN : xs.length ≤ 3072 := (Int32.ofNat_le_ofNat hsm (by decide)).mp (show Int32.ofNat xs.length ≤ Int32.ofNat 3072 from hd)
  exact ⟨b, xs, Cond.one_arg hc (show args[0]? = some (.ref b) from hb), hx, hN, h⟩
theorem lw_comes (l : Launch) (htr : l.stackTraces = false) : Comes l x (Jvm.Cond.code x code maxLocals ret :: tables_1) room_1 (fun tb e args s => Calls_1 tb e args s ∧ rest_1 tb e args s ∧ Pre_1 tb e args s)
    (fun _ _ args s o t => lw_Q args s o t) := by
  intro p e ha hc hk s m args below hf hfit hheap happ hpre
  obtain ⟨b, xs, hP⟩ := lw_pre_spec hpre.2.2 hpre.2.1
  obtain ⟨k, o, h1, h2, h3, hQ⟩ := lw_walk l htr b xs p e ha hc hk s m args below hf ((Spec.applies_iff_loose hf).mp happ).1 hP trivial
  exact ⟨k, o, h1, h2, h3, hQ⟩
theorem lw_frame {s t : State} {o : Outcome} {args : Array Value} (h : Framed s o t [] 601024 7293034) :
    Framed s o t (fieldLocs frame_1_writes args s ++ arrayLocs frame_1_arrays args s ++ staticLocs frame_1_statics s) 601024 7293034 := h
theorem lw_limb (L : Cond) (hL : ∀ (args : Array Value) (s t : State), L.after args s (.returned (some (.int 1))) t = true) :
    ArmFor flags0 classFile x code maxLocals ret World_1 tables_1 room_1 Calls_1 rest_1 Pre_1
      (fun tb e a s o t => postC L tb e a s o t ∧ Framed s o t (fieldLocs frame_1_writes a s ++ arrayLocs frame_1_arrays a s ++ staticLocs frame_1_statics s) 601024 7293034) := by
  intro l hfl _ _ p e ha hc hk s m args below hf hfit hheap happ hpre
  have htr : l.stackTraces = false := by
    show (!l.flags.contains noTraceFlag) = false
    rw [hfl]
    decide +kernel
  obtain ⟨k, o, h1, h2, h3, rfl, hF⟩ := lw_comes l htr p e ha hc hk s m args below hf hfit hheap happ hpre
  exact ⟨k, _, h1, h2, h3, hL args s _, lw_frame hF⟩
theorem i_vc : Claimed_1_1 ∧ Claimed_1_2 := ⟨lw_limb limb_1_1 (fun args s t => by simp [limb_1_1, Cond.after, Cond.holds, Cond.value]), lw_limb limb_1_2 (fun args s t => Cond.after_iff.mpr (by
  first | (rw [show limb_1_2 = Cond.eq .result (.int 1) from rfl, Cond.eq_ints (x := 1) (y := 1) rfl rfl]; simp; done) | (simp [limb_1_2, Cond.value, Term.eval]; done)))⟩
