noncomputable def ae_mth (n b c9 : Nat) (as : List ae_V) : Bool := and (ae_nk b 12 114 as ae_s0) (match ae_exe n b 0 0 0 (ae_args (.inr (.inr (some 114)) :: as) 0) [] ae_s0 with
  | some (some (.inl (.inl _)), h2) => and (ae_nk c9 12 114 [] h2) (match ae_exe n c9 0 0 0 (ae_args [.inr (.inr (some 114))] 0) [] h2 with
    | some (some w, _) => ae_eqv (ae_i 1) w
    | _ => false)
  | _ => false)
theorem ae_mth_ok {n b c9 : Nat} {as : List ae_V} (h : ae_mth n b c9 as = true) : ae_nk b 12 114 as ae_s0 = true ∧ ∃ (v : Nat) (h2 h3 : ae_H), ae_exe n b 0 0 0 (ae_args (.inr (.inr (some 114)) :: as) 0) [] ae_s0 = some (some (ae_i v), h2) ∧ ae_nk c9 12 114 [] h2 = true ∧ ae_exe n c9 0 0 0 (ae_args [.inr (.inr (some 114))] 0) [] h2 = some (some (ae_i 1), h3) := by
  unfold ae_mth at h
  obtain ⟨q1, h⟩ := ae_band h
  refine ⟨q1, ?_⟩
  split at h
  · next v h2 e1 =>
    obtain ⟨q2, h⟩ := ae_band h
    split at h
    · next w h3 e2 =>
      obtain ⟨z, e3, rfl⟩ := ae_eqv_ok h
      cases e3
      exact ⟨v, h2, h3, e1, q2, e2⟩
    · cases h
  · cases h
/-- what the law's branches over a thrower need besides -/
def ae_St2 (p : Program) (l : Launch) (e : Env) (s : State) (m : MethodId) (below : List Frame) (meth : Method) (c : Code) (b x0 m0 o0 ce sl : Nat) (Q : State → Prop) : Prop := l.stackTraces = false ∧ ae_TT (ae_A s) s s.heap ∧
  ∀ (ls2 : Array Slot) (H1 : Heap) (locs1 : List Loc), lv_has ls2 7 [(0, .ref b), (1, .ref x0), (2, .ref m0), (3, .ref o0), (4, .int 0)] → va_S (ae_A s) s.heap H1 locs1 → W p l e room_1 s m #[Value.ref b] below meth c H1 locs1 (ce + 1) (sl + 6) Q (F0 m 1354 ls2 [])
def ae_Mc4 : ae_M := (11, yX11_column, cX11_column, 4, some .int, 1, 3, 8, 200, 1, 6)
def ae_wh4 : List Jvm.Cond := .codeWith yL_column cL_column 6 (some .int) [(0, 12, 15, 13)] :: ae_gw
theorem ae_p4_0 : ae_ends (ae_pfx 19 ae_Mc4 3000 0 0 0 (ae_args [.inr (.inr (some 0)), .inl (.inr (0, 2147483647)), ae_top, ae_top] 0) [] ae_s0) ae_s0 = true := by decide +kernel
theorem ae_q4_0 : ae_mth 3000 194 183 [.inl (.inr (0, 2147483647)), ae_top, ae_top] = true := by decide +kernel
theorem ae_p4_1 : ae_ends (ae_pfx 19 ae_Mc4 3000 0 0 0 (ae_args [.inr (.inr (some 0)), .inl (.inr (2147483648, 2147483655)), .inl (.inr (0, 2147483647)), .inl (.inr (0, 2147483648))] 0) [] ae_s0) ae_s0 = true := by decide +kernel
theorem ae_q4_1 : ae_mth 3000 194 183 [.inl (.inr (2147483648, 2147483655)), .inl (.inr (0, 2147483647)), .inl (.inr (0, 2147483648))] = true := by decide +kernel
theorem ae_p4_2 : ae_ends (ae_pfx 19 ae_Mc4 3000 0 0 0 (ae_args [.inr (.inr (some 0)), .inl (.inr (2147483648, 2147483655)), .inl (.inr (0, 2147483647)), .inl (.inr (2147483649, 2147483668))] 0) [] ae_s0) ae_s0 = true := by decide +kernel
theorem ae_q4_2 : ae_mth 3000 194 183 [.inl (.inr (2147483648, 2147483655)), .inl (.inr (0, 2147483647)), .inl (.inr (2147483649, 2147483668))] = true := by decide +kernel
theorem ae_p4_3 : ae_ends (ae_pfx 19 ae_Mc4 3000 0 0 0 (ae_args [.inr (.inr (some 0)), .inl (.inr (2147483648, 2147483655)), .inl (.inr (0, 2147483647)), .inl (.inr (2147483669, 4294967295))] 0) [] ae_s0) ae_s0 = true := by decide +kernel
theorem ae_q4_3 : ae_mth 3000 194 183 [.inl (.inr (2147483648, 2147483655)), .inl (.inr (0, 2147483647)), .inl (.inr (2147483669, 4294967295))] = true := by decide +kernel
theorem ae_p4_4 : ae_ends (ae_pfx 19 ae_Mc4 3000 0 0 0 (ae_args [.inr (.inr (some 0)), .inl (.inr (2147483648, 2147483655)), .inl (.inr (2147483648, 4294967295)), .inl (.inr (0, 2147483648))] 0) [] ae_s0) ae_s0 = true := by decide +kernel
theorem ae_q4_4 : ae_mth 3000 194 183 [.inl (.inr (2147483648, 2147483655)), .inl (.inr (2147483648, 4294967295)), .inl (.inr (0, 2147483648))] = true := by decide +kernel
theorem ae_p4_5 : ae_ends (ae_pfx 19 ae_Mc4 3000 0 0 0 (ae_args [.inr (.inr (some 0)), .inl (.inr (2147483648, 2147483655)), .inl (.inr (2147483648, 4294967295)), .inl (.inr (2147483649, 2147483668))] 0) [] ae_s0) ae_s0 = true := by decide +kernel
theorem ae_q4_5 : ae_mth 3000 194 183 [.inl (.inr (2147483648, 2147483655)), .inl (.inr (2147483648, 4294967295)), .inl (.inr (2147483649, 2147483668))] = true := by decide +kernel
theorem ae_p4_6 : ae_ends (ae_pfx 19 ae_Mc4 3000 0 0 0 (ae_args [.inr (.inr (some 0)), .inl (.inr (2147483648, 2147483655)), .inl (.inr (2147483648, 4294967295)), .inl (.inr (2147483669, 4294967295))] 0) [] ae_s0) ae_s0 = true := by decide +kernel
theorem ae_q4_6 : ae_mth 3000 194 183 [.inl (.inr (2147483648, 2147483655)), .inl (.inr (2147483648, 4294967295)), .inl (.inr (2147483669, 4294967295))] = true := by decide +kernel
theorem ae_p4_7 : ae_ends (ae_pfx 19 ae_Mc4 3000 0 0 0 (ae_args [.inr (.inr (some 0)), .inl (.inr (2147483656, 4294967295)), ae_top, ae_top] 0) [] ae_s0) ae_s0 = true := by decide +kernel
theorem ae_q4_7 : ae_mth 3000 194 183 [.inl (.inr (2147483656, 4294967295)), ae_top, ae_top] = true := by decide +kernel
set_option maxRecDepth 100000 in
theorem ae_hp4 {l : Launch} (htr : l.stackTraces = false) {D : va_G} {kA : Nat → ClassId} {as : List ae_V} {X1 X2 X3 : Int32} (has : ∀ ad, ae_sr ad as [.int X1, .int X2, .int X3]) (hlen : as.length = 3) (hrun : ae_ends (ae_pfx 19 ae_Mc4 3000 0 0 0 (ae_args (.inr (.inr (some 0)) :: as) 0) [] ae_s0) ae_s0 = true) (hcat : ae_catS (.inr (.inr (some 0)) :: as) ≤ 4) {ws : va_W} {sz x0 o0 : Nat} (hx0 : (ae_ad ws)[0]? = some x0) (hhr : ae_hr kA ws ae_s0) :
    Met l yL_column ae_wh4 ({ frames := 9, cells := 1, slots := 6, locals := 240 }) (va_Pc [.ref x0, .int X1, .int X2, .int X3, .ref o0] (ae_BX D kA ws sz)) (ae_Qc D kA (va_A ws sz) (ae_ad ws) (some (ae_i 1), ae_s0)) 1 6 (va_A ws sz) := by
  refine va_MetW (hh := [(0, 12, 15, 13)]) (cc := cL_column) (maxL := 6) (ret := some .int) (ws' := ae_gw) (by decide +kernel) rfl ?_
  intro p e s m args below meth c s₁ B hml hv
  obtain ⟨rfl, ⟨hsz, hP, hD0, hKK⟩, hT⟩ := hv
  have hx := B.exec
  have hb := B.bytes
  have hr := B.returns
  have hts0 := atoms_spec (ws := ae_wh4) B.pre
  have hts : ∀ w ∈ ae_gw, w.before _ s = true := fun w hw => hts0 w (List.mem_cons_of_mem _ hw)
  have hown : s.vm.findClass RL = some m.cls := findClass_of_methodNamed B.named
  have htab : c.exceptionTable.toList = tableOf [(0, 12, 15, 13)] := vx_table (x := yL_column) B (hts0 _ List.mem_cons_self)
  have hlocks := B.notSynchronized
  subst hsz
  have hD := hD0.self (sz := s.heap.size)
  have hS : va_S (va_A ws s.heap.size) s.heap s.heap [] := va_S.rf
  have hl := lv_entry ([.ref x0, .int X1, .int X2, .int X3, .ref o0]) (n := 6) (Nat.le_of_ble_eq_true rfl)
  rw [lg_entry_eq]
  generalize (lg_sl ([.ref x0, .int X1, .int X2, .int X3, .ref o0]) ++ List.replicate (6 - (lg_sl ([.ref x0, .int X1, .int X2, .int X3, .ref o0])).length) Slot.unset).toArray = ls at hl ⊢
  have hl : lv_has ls 6 [(0, .ref x0), (1, .int X1), (2, .int X2), (3, .int X3), (4, .ref o0)] := hl
  have gt : ∀ {w : Jvm.Cond}, w ∈ lw_tbl → goodWord w = true → w.before _ s = true := fun q g => hts _ (ae_gw_in q g)
  refine lv_aload (i := 4) hx hb (by decide +kernel) (lv_at hl 4 rfl) ?_
  refine lv_iconst (n := 0) (v := 0) hx hb (by decide +kernel) (by decide) ?_
  refine lv_aload_n (k := 0) hx hb (by decide +kernel) rfl (lv_at hl 0 rfl) ?_
  refine lv_iload_n (k := 1) hx hb (by decide +kernel) rfl (lv_at hl 1 rfl) ?_
  refine lv_iload_n (k := 2) hx hb (by decide +kernel) rfl (lv_at hl 2 rfl) ?_
  refine lv_iload_n (k := 3) hx hb (by decide +kernel) rfl (lv_at hl 3 rfl) ?_
  obtain ⟨N, hN, a1, a2, -⟩ : ∃ N, ae_m 148 = some N ∧ N.2.1 = yX11_column ∧ N.2.2.2.2.2.1 = 1 ∧ True := ⟨_, rfl, rfl, rfl, trivial⟩
  obtain ⟨n1, n2, n3, n4, n5, n6, n7, n8⟩ := ae_mf hN
  rw [a1] at n1 n3
  obtain ⟨i1, i2⟩ := n3 a2
  obtain ⟨x1, e1, hw0, fs', ee, hfs⟩ := hhr.2.2 0 (.inr (11, _)) rfl
  have hx1 : x0 = x1 := Option.some.inj (hx0.symm.trans (ae_ad_at hw0))
  subst hx1
  subst ee
  have hth := ae_thr htr (D := D) (kA := kA) (M := ae_Mc4) rfl rfl (by decide +kernel) rfl (by decide) (ae_ends_ok hrun) (by decide +kernel) (by decide +kernel) (by decide +kernel) (by decide +kernel) (by decide) (by decide) rfl rfl (ws := ws) (asC := [.ref x0, .int X1, .int X2, .int X3]) (sz := s.heap.size) (ae_sr_c ⟨x0, hx0, rfl⟩ (has _)) hhr hcat
  have hcwM : ae_cwd ae_Mc4 ∈ ae_gw := ae_gw_in (show ae_cwd ae_Mc4 ∈ lw_tbl from ae_w148) rfl
  have hlnk : Jvm.Cond.methodLink RL 7 yX11_column ∈ lw_tbl := by decide +kernel
  have hcl13 : Jvm.Cond.classLink RL 13 ae_nse ∈ lw_tbl := by decide +kernel
  refine vx_calli (A0 := va_A ws s.heap.size) (vx_runV (As := [.int X1, .int X2, .int X3]) (rest := [.int 0, .ref o0]) (own := RL) (C := RX11) (Ts := ae_gw) (n := 3) ⟨hx, hb, hml, hown, hts⟩ hth ⟨callB_of (ws' := ae_gw) 3 hts (ae_good hcwM) rfl rfl rfl (hts _ n1) (gt hlnk rfl) ⟨by decide +kernel, by decide +kernel, by decide +kernel⟩ ⟨by decide, by decide⟩, hts _ i1, hts _ i2⟩ ⟨ae_blindX, va_recv hKK.1 hP (ci := 11) (q0 := 0) rfl hw0, fun U hU hW => ⟨rfl, ⟨by rw [hU], by rw [hU]; exact hP, hD.weaken (fun _ _ _ _ => trivial), hKK.moved hW⟩, by rw [hU]; exact hT.moved hW⟩⟩ rfl rfl hl.1 rfl (lv_room (Nat.le_of_ble_eq_true rfl)) (by show decode cL_column 7 = .ok (.invokevirtual 7, 3); decide +kernel) ⟨Nat.le_of_ble_eq_true rfl, Nat.le_of_ble_eq_true rfl⟩) hS (fun q _ h => h) (fun q h => h) (fun q _ h => h) (fun E ce q9 ws1 t H1 locs1 ht hvm hpx hBX hszz hk hS1 hce hcv hcl => ?_) (fun r u t H1 locs1 ht hvm hF => hF.elim)
  · obtain ⟨rfl, hP1, hD1⟩ := hBX
    refine ae_catch (x := ⟨0, 12, 15, 13⟩) (own := RL) (name := ae_nse) (E := ae_nse) hown (by rw [htab]; rfl) (by decide) (by decide) (gt hcl13 rfl) (va_Nw.use rfl (hT.2.2 _ ae_vn_s)) hce hcv hcl ?_
    refine lv_astore (i := 5) hx hb (by decide +kernel) hl (by decide) rfl (fun ls2 hl2 => ?_)
    refine lv_iconst (n := 1) (v := nI 1) hx hb (by decide +kernel) (by decide +kernel) ?_
    exact W.iret hx hb hr (fun t2 ht2 hW2 => ⟨_, ws1, rfl, ⟨_, rfl, nI 1, rfl, rfl, by decide⟩, hpx.1, hpx.2, by rw [ht2, ← ht]; exact hP1, hD1, hS1.F ht2⟩) hS1.2.2 (by decide +kernel) hlocks
def ae_Mc10 : ae_M := (11, yX11_bar, cX11_bar, 3, some .int, 1, 2, 8, 200, 1, 6)
def ae_wh10 : List Jvm.Cond := .codeWith yL_bar cL_bar 5 (some .int) [(0, 10, 13, 13)] :: ae_gw
theorem ae_p10_0 : ae_ends (ae_pfx 15 ae_Mc10 3000 0 0 0 (ae_args [.inr (.inr (some 0)), .inl (.inr (0, 2147483647)), ae_top] 0) [] ae_s0) ae_s0 = true := by decide +kernel
theorem ae_q10_0 : ae_mth 3000 228 183 [.inl (.inr (0, 2147483647)), ae_top] = true := by decide +kernel
theorem ae_p10_1 : ae_ends (ae_pfx 15 ae_Mc10 3000 0 0 0 (ae_args [.inr (.inr (some 0)), .inl (.inr (2147483648, 4294967295)), ae_top] 0) [] ae_s0) ae_s0 = true := by decide +kernel
theorem ae_q10_1 : ae_mth 3000 228 183 [.inl (.inr (2147483648, 4294967295)), ae_top] = true := by decide +kernel
set_option maxRecDepth 100000 in
theorem ae_hp10 {l : Launch} (htr : l.stackTraces = false) {D : va_G} {kA : Nat → ClassId} {as : List ae_V} {X1 X2 : Int32} (has : ∀ ad, ae_sr ad as [.int X1, .int X2]) (hlen : as.length = 2) (hrun : ae_ends (ae_pfx 15 ae_Mc10 3000 0 0 0 (ae_args (.inr (.inr (some 0)) :: as) 0) [] ae_s0) ae_s0 = true) (hcat : ae_catS (.inr (.inr (some 0)) :: as) ≤ 3) {ws : va_W} {sz x0 o0 : Nat} (hx0 : (ae_ad ws)[0]? = some x0) (hhr : ae_hr kA ws ae_s0) :
    Met l yL_bar ae_wh10 ({ frames := 9, cells := 1, slots := 6, locals := 240 }) (va_Pc [.ref x0, .int X1, .int X2, .ref o0] (ae_BX D kA ws sz)) (ae_Qc D kA (va_A ws sz) (ae_ad ws) (some (ae_i 1), ae_s0)) 1 6 (va_A ws sz) := by
  refine va_MetW (hh := [(0, 10, 13, 13)]) (cc := cL_bar) (maxL := 5) (ret := some .int) (ws' := ae_gw) (by decide +kernel) rfl ?_
  intro p e s m args below meth c s₁ B hml hv
  obtain ⟨rfl, ⟨hsz, hP, hD0, hKK⟩, hT⟩ := hv
  have hx := B.exec
  have hb := B.bytes
  have hr := B.returns
  have hts0 := atoms_spec (ws := ae_wh10) B.pre
  have hts : ∀ w ∈ ae_gw, w.before _ s = true := fun w hw => hts0 w (List.mem_cons_of_mem _ hw)
  have hown : s.vm.findClass RL = some m.cls := findClass_of_methodNamed B.named
  have htab : c.exceptionTable.toList = tableOf [(0, 10, 13, 13)] := vx_table (x := yL_bar) B (hts0 _ List.mem_cons_self)
  have hlocks := B.notSynchronized
  subst hsz
  have hD := hD0.self (sz := s.heap.size)
  have hS : va_S (va_A ws s.heap.size) s.heap s.heap [] := va_S.rf
  have hl := lv_entry ([.ref x0, .int X1, .int X2, .ref o0]) (n := 5) (Nat.le_of_ble_eq_true rfl)
  rw [lg_entry_eq]
  generalize (lg_sl ([.ref x0, .int X1, .int X2, .ref o0]) ++ List.replicate (5 - (lg_sl ([.ref x0, .int X1, .int X2, .ref o0])).length) Slot.unset).toArray = ls at hl ⊢
  have hl : lv_has ls 5 [(0, .ref x0), (1, .int X1), (2, .int X2), (3, .ref o0)] := hl
  have gt : ∀ {w : Jvm.Cond}, w ∈ lw_tbl → goodWord w = true → w.before _ s = true := fun q g => hts _ (ae_gw_in q g)
  refine lv_aload_n (k := 3) hx hb (by decide +kernel) rfl (lv_at hl 3 rfl) ?_
  refine lv_iconst (n := 0) (v := 0) hx hb (by decide +kernel) (by decide) ?_
  refine lv_aload_n (k := 0) hx hb (by decide +kernel) rfl (lv_at hl 0 rfl) ?_
  refine lv_iload_n (k := 1) hx hb (by decide +kernel) rfl (lv_at hl 1 rfl) ?_
  refine lv_iload_n (k := 2) hx hb (by decide +kernel) rfl (lv_at hl 2 rfl) ?_
  obtain ⟨N, hN, a1, a2, -⟩ : ∃ N, ae_m 154 = some N ∧ N.2.1 = yX11_bar ∧ N.2.2.2.2.2.1 = 1 ∧ True := ⟨_, rfl, rfl, rfl, trivial⟩
  obtain ⟨n1, n2, n3, n4, n5, n6, n7, n8⟩ := ae_mf hN
  rw [a1] at n1 n3
  obtain ⟨i1, i2⟩ := n3 a2
  obtain ⟨x1, e1, hw0, fs', ee, hfs⟩ := hhr.2.2 0 (.inr (11, _)) rfl
  have hx1 : x0 = x1 := Option.some.inj (hx0.symm.trans (ae_ad_at hw0))
  subst hx1
  subst ee
  have hth := ae_thr htr (D := D) (kA := kA) (M := ae_Mc10) rfl rfl (by decide +kernel) rfl (by decide) (ae_ends_ok hrun) (by decide +kernel) (by decide +kernel) (by decide +kernel) (by decide +kernel) (by decide) (by decide) rfl rfl (ws := ws) (asC := [.ref x0, .int X1, .int X2]) (sz := s.heap.size) (ae_sr_c ⟨x0, hx0, rfl⟩ (has _)) hhr hcat
  have hcwM : ae_cwd ae_Mc10 ∈ ae_gw := ae_gw_in (show ae_cwd ae_Mc10 ∈ lw_tbl from ae_w154) rfl
  have hlnk : Jvm.Cond.methodLink RL 15 yX11_bar ∈ lw_tbl := by decide +kernel
  have hcl13 : Jvm.Cond.classLink RL 13 ae_nse ∈ lw_tbl := by decide +kernel
  refine vx_calli (A0 := va_A ws s.heap.size) (vx_runV (As := [.int X1, .int X2]) (rest := [.int 0, .ref o0]) (own := RL) (C := RX11) (Ts := ae_gw) (n := 2) ⟨hx, hb, hml, hown, hts⟩ hth ⟨callB_of (ws' := ae_gw) 2 hts (ae_good hcwM) rfl rfl rfl (hts _ n1) (gt hlnk rfl) ⟨by decide +kernel, by decide +kernel, by decide +kernel⟩ ⟨by decide, by decide⟩, hts _ i1, hts _ i2⟩ ⟨ae_blindX, va_recv hKK.1 hP (ci := 11) (q0 := 0) rfl hw0, fun U hU hW => ⟨rfl, ⟨by rw [hU], by rw [hU]; exact hP, hD.weaken (fun _ _ _ _ => trivial), hKK.moved hW⟩, by rw [hU]; exact hT.moved hW⟩⟩ rfl rfl hl.1 rfl (lv_room (Nat.le_of_ble_eq_true rfl)) (by show decode cL_bar 5 = .ok (.invokevirtual 15, 3); decide +kernel) ⟨Nat.le_of_ble_eq_true rfl, Nat.le_of_ble_eq_true rfl⟩) hS (fun q _ h => h) (fun q h => h) (fun q _ h => h) (fun E ce q9 ws1 t H1 locs1 ht hvm hpx hBX hszz hk hS1 hce hcv hcl => ?_) (fun r u t H1 locs1 ht hvm hF => hF.elim)
  · obtain ⟨rfl, hP1, hD1⟩ := hBX
    refine ae_catch (x := ⟨0, 10, 13, 13⟩) (own := RL) (name := ae_nse) (E := ae_nse) hown (by rw [htab]; rfl) (by decide) (by decide) (gt hcl13 rfl) (va_Nw.use rfl (hT.2.2 _ ae_vn_s)) hce hcv hcl ?_
    refine lv_astore (i := 4) hx hb (by decide +kernel) hl (by decide) rfl (fun ls2 hl2 => ?_)
    refine lv_iconst (n := 1) (v := nI 1) hx hb (by decide +kernel) (by decide +kernel) ?_
    exact W.iret hx hb hr (fun t2 ht2 hW2 => ⟨_, ws1, rfl, ⟨_, rfl, nI 1, rfl, rfl, by decide⟩, hpx.1, hpx.2, by rw [ht2, ← ht]; exact hP1, hD1, hS1.F ht2⟩) hS1.2.2 (by decide +kernel) hlocks
def ae_Mc11 : ae_M := (11, yX11_wheel, cX11_wheel, 2, some .int, 1, 1, 8, 200, 1, 6)
def ae_wh11 : List Jvm.Cond := .codeWith yL_wheel cL_wheel 4 (some .int) [(0, 9, 12, 13)] :: ae_gw
theorem ae_p11_0 : ae_ends (ae_pfx 17 ae_Mc11 3000 0 0 0 (ae_args [.inr (.inr (some 0)), ae_top] 0) [] ae_s0) ae_s0 = true := by decide +kernel
theorem ae_q11_0 : ae_mth 3000 229 183 [ae_top] = true := by decide +kernel
set_option maxRecDepth 100000 in
theorem ae_hp11 {l : Launch} (htr : l.stackTraces = false) {D : va_G} {kA : Nat → ClassId} {as : List ae_V} {X1 : Int32} (has : ∀ ad, ae_sr ad as [.int X1]) (hlen : as.length = 1) (hrun : ae_ends (ae_pfx 17 ae_Mc11 3000 0 0 0 (ae_args (.inr (.inr (some 0)) :: as) 0) [] ae_s0) ae_s0 = true) (hcat : ae_catS (.inr (.inr (some 0)) :: as) ≤ 2) {ws : va_W} {sz x0 o0 : Nat} (hx0 : (ae_ad ws)[0]? = some x0) (hhr : ae_hr kA ws ae_s0) :
    Met l yL_wheel ae_wh11 ({ frames := 9, cells := 1, slots := 6, locals := 240 }) (va_Pc [.ref x0, .int X1, .ref o0] (ae_BX D kA ws sz)) (ae_Qc D kA (va_A ws sz) (ae_ad ws) (some (ae_i 1), ae_s0)) 1 6 (va_A ws sz) := by
  refine va_MetW (hh := [(0, 9, 12, 13)]) (cc := cL_wheel) (maxL := 4) (ret := some .int) (ws' := ae_gw) (by decide +kernel) rfl ?_
  intro p e s m args below meth c s₁ B hml hv
  obtain ⟨rfl, ⟨hsz, hP, hD0, hKK⟩, hT⟩ := hv
  have hx := B.exec
  have hb := B.bytes
  have hr := B.returns
  have hts0 := atoms_spec (ws := ae_wh11) B.pre
  have hts : ∀ w ∈ ae_gw, w.before _ s = true := fun w hw => hts0 w (List.mem_cons_of_mem _ hw)
  have hown : s.vm.findClass RL = some m.cls := findClass_of_methodNamed B.named
  have htab : c.exceptionTable.toList = tableOf [(0, 9, 12, 13)] := vx_table (x := yL_wheel) B (hts0 _ List.mem_cons_self)
  have hlocks := B.notSynchronized
  subst hsz
  have hD := hD0.self (sz := s.heap.size)
  have hS : va_S (va_A ws s.heap.size) s.heap s.heap [] := va_S.rf
  have hl := lv_entry ([.ref x0, .int X1, .ref o0]) (n := 4) (Nat.le_of_ble_eq_true rfl)
  rw [lg_entry_eq]
  generalize (lg_sl ([.ref x0, .int X1, .ref o0]) ++ List.replicate (4 - (lg_sl ([.ref x0, .int X1, .ref o0])).length) Slot.unset).toArray = ls at hl ⊢
  have hl : lv_has ls 4 [(0, .ref x0), (1, .int X1), (2, .ref o0)] := hl
  have gt : ∀ {w : Jvm.Cond}, w ∈ lw_tbl → goodWord w = true → w.before _ s = true := fun q g => hts _ (ae_gw_in q g)
  refine lv_aload_n (k := 2) hx hb (by decide +kernel) rfl (lv_at hl 2 rfl) ?_
  refine lv_iconst (n := 0) (v := 0) hx hb (by decide +kernel) (by decide) ?_
  refine lv_aload_n (k := 0) hx hb (by decide +kernel) rfl (lv_at hl 0 rfl) ?_
  refine lv_iload_n (k := 1) hx hb (by decide +kernel) rfl (lv_at hl 1 rfl) ?_
  obtain ⟨N, hN, a1, a2, -⟩ : ∃ N, ae_m 155 = some N ∧ N.2.1 = yX11_wheel ∧ N.2.2.2.2.2.1 = 1 ∧ True := ⟨_, rfl, rfl, rfl, trivial⟩
  obtain ⟨n1, n2, n3, n4, n5, n6, n7, n8⟩ := ae_mf hN
  rw [a1] at n1 n3
  obtain ⟨i1, i2⟩ := n3 a2
  obtain ⟨x1, e1, hw0, fs', ee, hfs⟩ := hhr.2.2 0 (.inr (11, _)) rfl
  have hx1 : x0 = x1 := Option.some.inj (hx0.symm.trans (ae_ad_at hw0))
  subst hx1
  subst ee
  have hth := ae_thr htr (D := D) (kA := kA) (M := ae_Mc11) rfl rfl (by decide +kernel) rfl (by decide) (ae_ends_ok hrun) (by decide +kernel) (by decide +kernel) (by decide +kernel) (by decide +kernel) (by decide) (by decide) rfl rfl (ws := ws) (asC := [.ref x0, .int X1]) (sz := s.heap.size) (ae_sr_c ⟨x0, hx0, rfl⟩ (has _)) hhr hcat
  have hcwM : ae_cwd ae_Mc11 ∈ ae_gw := ae_gw_in (show ae_cwd ae_Mc11 ∈ lw_tbl from ae_w155) rfl
  have hlnk : Jvm.Cond.methodLink RL 19 yX11_wheel ∈ lw_tbl := by decide +kernel
  have hcl13 : Jvm.Cond.classLink RL 13 ae_nse ∈ lw_tbl := by decide +kernel
  refine vx_calli (A0 := va_A ws s.heap.size) (vx_runV (As := [.int X1]) (rest := [.int 0, .ref o0]) (own := RL) (C := RX11) (Ts := ae_gw) (n := 1) ⟨hx, hb, hml, hown, hts⟩ hth ⟨callB_of (ws' := ae_gw) 1 hts (ae_good hcwM) rfl rfl rfl (hts _ n1) (gt hlnk rfl) ⟨by decide +kernel, by decide +kernel, by decide +kernel⟩ ⟨by decide, by decide⟩, hts _ i1, hts _ i2⟩ ⟨ae_blindX, va_recv hKK.1 hP (ci := 11) (q0 := 0) rfl hw0, fun U hU hW => ⟨rfl, ⟨by rw [hU], by rw [hU]; exact hP, hD.weaken (fun _ _ _ _ => trivial), hKK.moved hW⟩, by rw [hU]; exact hT.moved hW⟩⟩ rfl rfl hl.1 rfl (lv_room (Nat.le_of_ble_eq_true rfl)) (by show decode cL_wheel 4 = .ok (.invokevirtual 19, 3); decide +kernel) ⟨Nat.le_of_ble_eq_true rfl, Nat.le_of_ble_eq_true rfl⟩) hS (fun q _ h => h) (fun q h => h) (fun q _ h => h) (fun E ce q9 ws1 t H1 locs1 ht hvm hpx hBX hszz hk hS1 hce hcv hcl => ?_) (fun r u t H1 locs1 ht hvm hF => hF.elim)
  · obtain ⟨rfl, hP1, hD1⟩ := hBX
    refine ae_catch (x := ⟨0, 9, 12, 13⟩) (own := RL) (name := ae_nse) (E := ae_nse) hown (by rw [htab]; rfl) (by decide) (by decide) (gt hcl13 rfl) (va_Nw.use rfl (hT.2.2 _ ae_vn_s)) hce hcv hcl ?_
    refine lv_astore_n (k := 3) hx hb (by decide +kernel) rfl hl (by decide) rfl (fun ls2 hl2 => ?_)
    refine lv_iconst (n := 1) (v := nI 1) hx hb (by decide +kernel) (by decide +kernel) ?_
    exact W.iret hx hb hr (fun t2 ht2 hW2 => ⟨_, ws1, rfl, ⟨_, rfl, nI 1, rfl, rfl, by decide⟩, hpx.1, hpx.2, by rw [ht2, ← ht]; exact hP1, hD1, hS1.F ht2⟩) hS1.2.2 (by decide +kernel) hlocks
def ae_Mc24 : ae_M := (11, yX11_wantedAt, cX11_wantedAt, 3, some .int, 1, 2, 8, 200, 1, 6)
def ae_wh24 : List Jvm.Cond := .codeWith yL_wantedAt cL_wantedAt 5 (some .int) [(0, 10, 13, 13)] :: ae_gw
theorem ae_p24_0 : ae_ends (ae_pfx 12 ae_Mc24 3000 0 0 0 (ae_args [.inr (.inr (some 0)), .inl (.inr (0, 2147483647)), ae_top] 0) [] ae_s0) ae_s0 = true := by decide +kernel
theorem ae_q24_0 : ae_mth 3000 271 183 [.inl (.inr (0, 2147483647)), ae_top] = true := by decide +kernel
theorem ae_p24_1 : ae_ends (ae_pfx 12 ae_Mc24 3000 0 0 0 (ae_args [.inr (.inr (some 0)), .inl (.inr (2147483648, 4294967295)), ae_top] 0) [] ae_s0) ae_s0 = true := by decide +kernel
theorem ae_q24_1 : ae_mth 3000 271 183 [.inl (.inr (2147483648, 4294967295)), ae_top] = true := by decide +kernel
set_option maxRecDepth 100000 in
theorem ae_hp24 {l : Launch} (htr : l.stackTraces = false) {D : va_G} {kA : Nat → ClassId} {as : List ae_V} {X1 X2 : Int32} (has : ∀ ad, ae_sr ad as [.int X1, .int X2]) (hlen : as.length = 2) (hrun : ae_ends (ae_pfx 12 ae_Mc24 3000 0 0 0 (ae_args (.inr (.inr (some 0)) :: as) 0) [] ae_s0) ae_s0 = true) (hcat : ae_catS (.inr (.inr (some 0)) :: as) ≤ 3) {ws : va_W} {sz x0 o0 : Nat} (hx0 : (ae_ad ws)[0]? = some x0) (hhr : ae_hr kA ws ae_s0) :
    Met l yL_wantedAt ae_wh24 ({ frames := 9, cells := 1, slots := 6, locals := 240 }) (va_Pc [.ref x0, .int X1, .int X2, .ref o0] (ae_BX D kA ws sz)) (ae_Qc D kA (va_A ws sz) (ae_ad ws) (some (ae_i 1), ae_s0)) 1 6 (va_A ws sz) := by
  refine va_MetW (hh := [(0, 10, 13, 13)]) (cc := cL_wantedAt) (maxL := 5) (ret := some .int) (ws' := ae_gw) (by decide +kernel) rfl ?_
  intro p e s m args below meth c s₁ B hml hv
  obtain ⟨rfl, ⟨hsz, hP, hD0, hKK⟩, hT⟩ := hv
  have hx := B.exec
  have hb := B.bytes
  have hr := B.returns
  have hts0 := atoms_spec (ws := ae_wh24) B.pre
  have hts : ∀ w ∈ ae_gw, w.before _ s = true := fun w hw => hts0 w (List.mem_cons_of_mem _ hw)
  have hown : s.vm.findClass RL = some m.cls := findClass_of_methodNamed B.named
  have htab : c.exceptionTable.toList = tableOf [(0, 10, 13, 13)] := vx_table (x := yL_wantedAt) B (hts0 _ List.mem_cons_self)
  have hlocks := B.notSynchronized
  subst hsz
  have hD := hD0.self (sz := s.heap.size)
  have hS : va_S (va_A ws s.heap.size) s.heap s.heap [] := va_S.rf
  have hl := lv_entry ([.ref x0, .int X1, .int X2, .ref o0]) (n := 5) (Nat.le_of_ble_eq_true rfl)
  rw [lg_entry_eq]
  generalize (lg_sl ([.ref x0, .int X1, .int X2, .ref o0]) ++ List.replicate (5 - (lg_sl ([.ref x0, .int X1, .int X2, .ref o0])).length) Slot.unset).toArray = ls at hl ⊢
  have hl : lv_has ls 5 [(0, .ref x0), (1, .int X1), (2, .int X2), (3, .ref o0)] := hl
  have gt : ∀ {w : Jvm.Cond}, w ∈ lw_tbl → goodWord w = true → w.before _ s = true := fun q g => hts _ (ae_gw_in q g)
  refine lv_aload_n (k := 3) hx hb (by decide +kernel) rfl (lv_at hl 3 rfl) ?_
  refine lv_iconst (n := 0) (v := 0) hx hb (by decide +kernel) (by decide) ?_
  refine lv_aload_n (k := 0) hx hb (by decide +kernel) rfl (lv_at hl 0 rfl) ?_
  refine lv_iload_n (k := 1) hx hb (by decide +kernel) rfl (lv_at hl 1 rfl) ?_
  refine lv_iload_n (k := 2) hx hb (by decide +kernel) rfl (lv_at hl 2 rfl) ?_
  obtain ⟨N, hN, a1, a2, -⟩ : ∃ N, ae_m 168 = some N ∧ N.2.1 = yX11_wantedAt ∧ N.2.2.2.2.2.1 = 1 ∧ True := ⟨_, rfl, rfl, rfl, trivial⟩
  obtain ⟨n1, n2, n3, n4, n5, n6, n7, n8⟩ := ae_mf hN
  rw [a1] at n1 n3
  obtain ⟨i1, i2⟩ := n3 a2
  obtain ⟨x1, e1, hw0, fs', ee, hfs⟩ := hhr.2.2 0 (.inr (11, _)) rfl
  have hx1 : x0 = x1 := Option.some.inj (hx0.symm.trans (ae_ad_at hw0))
  subst hx1
  subst ee
  have hth := ae_thr htr (D := D) (kA := kA) (M := ae_Mc24) rfl rfl (by decide +kernel) rfl (by decide) (ae_ends_ok hrun) (by decide +kernel) (by decide +kernel) (by decide +kernel) (by decide +kernel) (by decide) (by decide) rfl rfl (ws := ws) (asC := [.ref x0, .int X1, .int X2]) (sz := s.heap.size) (ae_sr_c ⟨x0, hx0, rfl⟩ (has _)) hhr hcat
  have hcwM : ae_cwd ae_Mc24 ∈ ae_gw := ae_gw_in (show ae_cwd ae_Mc24 ∈ lw_tbl from ae_w168) rfl
  have hlnk : Jvm.Cond.methodLink RL 23 yX11_wantedAt ∈ lw_tbl := by decide +kernel
  have hcl13 : Jvm.Cond.classLink RL 13 ae_nse ∈ lw_tbl := by decide +kernel
  refine vx_calli (A0 := va_A ws s.heap.size) (vx_runV (As := [.int X1, .int X2]) (rest := [.int 0, .ref o0]) (own := RL) (C := RX11) (Ts := ae_gw) (n := 2) ⟨hx, hb, hml, hown, hts⟩ hth ⟨callB_of (ws' := ae_gw) 2 hts (ae_good hcwM) rfl rfl rfl (hts _ n1) (gt hlnk rfl) ⟨by decide +kernel, by decide +kernel, by decide +kernel⟩ ⟨by decide, by decide⟩, hts _ i1, hts _ i2⟩ ⟨ae_blindX, va_recv hKK.1 hP (ci := 11) (q0 := 0) rfl hw0, fun U hU hW => ⟨rfl, ⟨by rw [hU], by rw [hU]; exact hP, hD.weaken (fun _ _ _ _ => trivial), hKK.moved hW⟩, by rw [hU]; exact hT.moved hW⟩⟩ rfl rfl hl.1 rfl (lv_room (Nat.le_of_ble_eq_true rfl)) (by show decode cL_wantedAt 5 = .ok (.invokevirtual 23, 3); decide +kernel) ⟨Nat.le_of_ble_eq_true rfl, Nat.le_of_ble_eq_true rfl⟩) hS (fun q _ h => h) (fun q h => h) (fun q _ h => h) (fun E ce q9 ws1 t H1 locs1 ht hvm hpx hBX hszz hk hS1 hce hcv hcl => ?_) (fun r u t H1 locs1 ht hvm hF => hF.elim)
  · obtain ⟨rfl, hP1, hD1⟩ := hBX
    refine ae_catch (x := ⟨0, 10, 13, 13⟩) (own := RL) (name := ae_nse) (E := ae_nse) hown (by rw [htab]; rfl) (by decide) (by decide) (gt hcl13 rfl) (va_Nw.use rfl (hT.2.2 _ ae_vn_s)) hce hcv hcl ?_
    refine lv_astore (i := 4) hx hb (by decide +kernel) hl (by decide) rfl (fun ls2 hl2 => ?_)
    refine lv_iconst (n := 1) (v := nI 1) hx hb (by decide +kernel) (by decide +kernel) ?_
    exact W.iret hx hb hr (fun t2 ht2 hW2 => ⟨_, ws1, rfl, ⟨_, rfl, nI 1, rfl, rfl, by decide⟩, hpx.1, hpx.2, by rw [ht2, ← ht]; exact hP1, hD1, hS1.F ht2⟩) hS1.2.2 (by decide +kernel) hlocks
