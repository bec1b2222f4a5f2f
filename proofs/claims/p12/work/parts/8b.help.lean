/-! THE LAW'S HELPERS (printed by wip/p2/law/g8b.py) -/
theorem lw_nu (y : Int32) : y = nI (sv_u y.toInt) := by
  have h1 := Int32.toInt_lt y
  have h2 := Int32.le_toInt y
  refine Int32.toInt_inj.mp ?_
  show y.toInt = (Int32.ofNat (sv_u y.toInt)).toInt
  rw [Int32.toInt_ofNat']
  generalize y.toInt = x at h1 h2
  unfold sv_u
  rw [Int.toNat_of_nonneg (Int.emod_nonneg _ (by decide))]
  show x = (x % 4294967296).bmod 4294967296
  rw [Int.bmod_def]
  split <;> omega
theorem lw_ti (y : Int32) : sv_I y.toInt := by
  have h1 := Int32.toInt_lt y
  have h2 := Int32.le_toInt y
  unfold sv_I
  omega
theorem lw_vi (ad : Nat → Option Nat) (y : Int32) : ae_vr ad (wk_i y.toInt) (.int y) := ⟨y, rfl, lw_nu y, sv_u_lt _⟩
/-- the law's row of one long -/
def lh_o (kA : Nat → ClassId) (o0 : Nat) (f : Nat → Int64) : Nat × va_E := (o0, .inl (kA 3, 1, .inr (.inl f)))
def lh_Q (D : va_G) (kA : Nat → ClassId) (A : Nat → Prop) (pre : Nat → Option Nat) (tq n m : Int) (o0 : Nat) : Array Value → State → Outcome → State → Prop := fun _ st oc t => ∃ (y : Int32) (ws1 : va_W) (h1 : ae_H) (f1 : Nat → Int64), oc = .returned (some (.int y)) ∧ lw_I tq h1 n m ∧ ae_hr kA ws1 h1 ∧ ae_px pre (ae_ad kA ws1) ∧ va_P D ae_cl (ws1 ++ [lh_o kA o0 f1]) t.heap ∧ va_D A (ws1 ++ [lh_o kA o0 f1]) ∧ va_F A st t
theorem lo_sub {ws : va_W} {oE : Nat × va_E} {sz : Nat} : ∀ q, va_A ws sz q → va_A (ws ++ [oE]) sz q := fun q hq => by
  rcases hq with ⟨k, e, h⟩ | h
  · exact Or.inl ⟨k, e, by rw [List.getElem?_append_left (List.getElem?_eq_some_iff.mp h).1]; exact h⟩
  · exact Or.inr h
theorem lo_set {ws : va_W} {a b : Nat × va_E} : (ws ++ [a]).set ws.length b = ws ++ [b] := by simp
def ae_wh4 : List Jvm.Cond := .codeWith yL_column cL_column 6 (some .int) [(0, 12, 15, 13)] :: ae_gw
set_option maxRecDepth 100000 in
theorem lh_4 {tq : Int} {l : Launch} (htr : l.stackTraces = false) {D : va_G} {kA : Nat → ClassId} {X1 X2 X3 : Int32} {ws : va_W} {sz x0 o0 : Nat} {h : ae_H} {n n2 : Int} {f0 : Nat → Int64} (I : lw_I tq h n n2) (hx0 : ae_ad kA ws 0 = some x0) (hhr : ae_hr kA ws h) :
    Met l yL_column ae_wh4 ({ frames := 9, cells := 1, slots := 6, locals := 240 }) (va_Pc [.ref x0, .int X1, .int X2, .int X3, .ref o0] (ae_BX D kA (ws ++ [lh_o kA o0 f0]) sz)) (lh_Q D kA (va_A (ws ++ [lh_o kA o0 f0]) sz) (ae_ad kA ws) tq n n2 o0) 1 6 (va_A (ws ++ [lh_o kA o0 f0]) sz) := by
  refine va_MetW (hh := [(0, 12, 15, 13)]) (cc := cL_column) (maxL := 6) (ret := some .int) (ws' := ae_gw) (by decide +kernel) rfl ?_
  intro p e s m args below meth c s₁ B hml hv
  obtain ⟨rfl, ⟨hsz, hPo, hD0, hKK, hEX⟩, hT⟩ := hv
  have hx := B.exec
  have hb := B.bytes
  have hr := B.returns
  have hts0 := atoms_spec (ws := ae_wh4) B.pre
  have hts : ∀ w ∈ ae_gw, w.before _ s = true := fun w hw => hts0 w (List.mem_cons_of_mem _ hw)
  have hown : s.vm.findClass RL = some m.cls := findClass_of_methodNamed B.named
  have htab : c.exceptionTable.toList = tableOf [(0, 12, 15, 13)] := vx_table (x := yL_column) B (hts0 _ List.mem_cons_self)
  have hlocks := B.notSynchronized
  subst hsz
  have hDo := hD0.self (sz := s.heap.size)
  have hP := lo_Pl hPo
  have hD := lo_Dl hDo
  have hsub : ∀ q, va_A ws s.heap.size q → va_A (ws ++ [lh_o kA o0 f0]) s.heap.size q := lo_sub
  have hS : va_S (va_A (ws ++ [lh_o kA o0 f0]) s.heap.size) s.heap s.heap [] := va_S.rf
  have hl := lv_entry ([.ref x0, .int X1, .int X2, .int X3, .ref o0]) (n := 6) (Nat.le_of_ble_eq_true rfl)
  rw [lg_entry_eq]
  generalize (lg_sl ([.ref x0, .int X1, .int X2, .int X3, .ref o0]) ++ List.replicate (6 - (lg_sl ([.ref x0, .int X1, .int X2, .int X3, .ref o0])).length) Slot.unset).toArray = ls at hl ⊢
  have hl : lv_has ls 6 [(0, .ref x0), (1, .int X1), (2, .int X2), (3, .int X3), (4, .ref o0)] := hl
  have gt : ∀ {w : Jvm.Cond}, w ∈ lw_tbl → goodWord w = true → w.before _ s = true := fun q g => hts _ (ae_gw_in q g)
  refine lv_aload (i := 4) hx hb (by decide +kernel) (lv_at hl 4 rfl) ?_
  refine lv_iconst (n := 0) (v := 0) hx hb (by decide +kernel) (by decide) ?_
  refine lv_aload_n (k := 0) hx hb (by decide +kernel) rfl (lv_at hl 0 rfl) ?_
  refine lv_iload_n (k := 1) hx hb (by decide +kernel) rfl (lv_at hl 1 rfl) ?_
  refine lv_iload_n (k := 2) hx hb (by decide +kernel) rfl (lv_at hl 2 rfl) ?_
  refine lv_iload_n (k := 3) hx hb (by decide +kernel) rfl (lv_at hl 3 rfl) ?_
  obtain ⟨N, hN, a1, a2, -⟩ : ∃ N, ae_m 148 = some N ∧ N.2.1 = yX11_column ∧ N.2.2.2.2.2.1 = 1 ∧ True := ⟨_, rfl, rfl, rfl, trivial⟩
  obtain ⟨n1, n2, n3, n4, n5, n6, n7, n8⟩ := ae_mf hN
  rw [a1] at n1 n3
  obtain ⟨i1, i2⟩ := n3 a2
  obtain ⟨fs0, hg0, -, -⟩ := sv_hk_o (ci := 0) I.1.1 wz_ty0 tT_11 rfl
  obtain ⟨x1, e1, hw0, fs', ee, hfs⟩ := hhr.2.2 0 (.inr (11, _)) hg0
  have hx1 : x0 = x1 := Option.some.inj (hx0.symm.trans (ae_ad_at hw0))
  subst hx1
  subst ee
  have hth := lt_thr htr (D := D) (kA := kA) (M := ae_Mc4) rfl rfl (by decide +kernel) rfl rfl (fun G hG g1 g2 => tw_4 I (lw_ti X1) (lw_ti X2) (lw_ti X3) hG g1 g2) wv_4_19 wv_4_22 wv_4_23 wv_4_26 (by decide) (by decide) rfl rfl (ws := ws) (asC := [.ref x0, .int X1, .int X2, .int X3]) (sz := s.heap.size) (ae_sr_c ⟨x0, hx0, rfl⟩ (ae_sr_c (lw_vi _ X1) (ae_sr_c (lw_vi _ X2) (ae_sr_c (lw_vi _ X3) rfl)))) hhr (Nat.le_of_ble_eq_true rfl)
  have hcwM : ae_cwd ae_Mc4 ∈ ae_gw := ae_gw_in (show ae_cwd ae_Mc4 ∈ lw_tbl from ae_w148) rfl
  have hlnk : Jvm.Cond.methodLink RL 7 yX11_column ∈ lw_tbl := by decide +kernel
  have hcl13 : Jvm.Cond.classLink RL 13 ae_nse ∈ lw_tbl := by decide +kernel
  refine vx_calli (A0 := va_A (ws ++ [lh_o kA o0 f0]) s.heap.size) (vx_runV (As := [.int X1, .int X2, .int X3]) (rest := [.int 0, .ref o0]) (own := RL) (C := RX11) (Ts := ae_gw) (n := 3) ⟨hx, hb, hml, hown, hts⟩ hth ⟨callB_of (ws' := ae_gw) 3 hts (ae_good hcwM) rfl rfl rfl (hts _ n1) (gt hlnk rfl) ⟨by decide +kernel, by decide +kernel, by decide +kernel⟩ ⟨by decide, by decide⟩, hts _ i1, hts _ i2⟩ ⟨ae_blindX, va_recv hKK.1 hP (ci := 11) (q0 := 0) rfl hw0, fun U hU hW => ⟨rfl, ⟨by rw [hU], by rw [hU]; exact hP, hD.weaken (fun _ _ _ _ => trivial), hKK.moved hW, by rw [hU]; exact hEX.warm hW (fun _ _ _ => rfl) hsub⟩, by rw [hU]; exact (hT.kept (fun _ _ _ => rfl) hsub).moved hW⟩⟩ rfl rfl hl.1 rfl (lv_room (Nat.le_of_ble_eq_true rfl)) (by show decode cL_column 7 = .ok (.invokevirtual 7, 3); decide +kernel) ⟨Nat.le_of_ble_eq_true rfl, Nat.le_of_ble_eq_true rfl⟩) hS (fun q _ h => hsub q h) (fun q h => hsub q h) (fun q _ h => hsub q h) (fun E ce q9 u t H1 locs1 ht hvm hpx hBX hszz hk hS1 hce hcv hcl => ?_) (fun r u t H1 locs1 ht hvm hpx hBX hszz hk hS1 => ?_)
  · obtain ⟨rfl, hP1, hD1⟩ := hBX
    obtain ⟨k1, k2⟩ := lo_kept hPo hDo (by rw [← ht]; exact hP1) hD1 hk hsub
    refine ae_catch (x := ⟨0, 12, 15, 13⟩) (own := RL) (name := ae_nse) (E := ae_nse) hown (by rw [htab]; rfl) (by decide) (by decide) (gt hcl13 rfl) (va_Nw.use rfl (hT.2.2 _ ae_vn_s)) hce hcv hcl ?_
    refine lv_astore (i := 5) hx hb (by decide +kernel) hl (by decide) rfl (fun ls2 hl2 => ?_)
    refine lv_iconst (n := 1) (v := nI 1) hx hb (by decide +kernel) (by decide +kernel) ?_
    exact W.iret hx hb hr (fun t2 ht2 hW2 => ⟨nI 1, u.1, u.2, f0, rfl, hpx.1, hpx.2.1, hpx.2.2, by rw [ht2]; exact k1, k2, hS1.F ht2⟩) hS1.2.2 (by decide +kernel) hlocks
  · obtain ⟨hP1, hD1⟩ := hBX
    obtain ⟨k1, k2⟩ := lo_kept hPo hDo (by rw [← ht]; exact hP1) hD1 hk hsub
    refine lv_i2l hx hb (by show decode cL_column (7 + 3) = .ok (.i2l, 1); decide +kernel) rfl ?_
    refine va_last (a := o0) hx hb hKK.1 k1 k2 hS1 u.1.length 3 lo_last rfl (by unfold vp_in; decide +kernel) (by show decode cL_column (7 + 3 + 1) = .ok (.lastore, 1); decide +kernel) (fun H2 locs2 hP2 hD2 hS2 => ?_)
    rw [lo_set] at hP2 hD2
    refine lv_goto (off := 7) (tgt := 19) hx hb (by show decode cL_column (7 + 3 + 1 + 1) = .ok (.goto 7, 3); decide +kernel) (by decide) ?_
    refine lv_iconst (n := 0) (v := nI 0) hx hb (by decide +kernel) (by decide +kernel) ?_
    exact W.iret hx hb hr (fun t2 ht2 hW2 => ⟨nI 0, u.1, u.2, _, rfl, hpx.1, hpx.2.1, hpx.2.2, by rw [ht2]; exact hP2, hD2, hS2.F ht2⟩) hS2.2.2 (by decide +kernel) hlocks
def ae_wh10 : List Jvm.Cond := .codeWith yL_bar cL_bar 5 (some .int) [(0, 10, 13, 13)] :: ae_gw
set_option maxRecDepth 100000 in
theorem lh_10 {tq : Int} {l : Launch} (htr : l.stackTraces = false) {D : va_G} {kA : Nat → ClassId} {X1 X2 : Int32} {ws : va_W} {sz x0 o0 : Nat} {h : ae_H} {n n2 : Int} {f0 : Nat → Int64} (I : lw_I tq h n n2) (hx0 : ae_ad kA ws 0 = some x0) (hhr : ae_hr kA ws h) :
    Met l yL_bar ae_wh10 ({ frames := 9, cells := 1, slots := 6, locals := 240 }) (va_Pc [.ref x0, .int X1, .int X2, .ref o0] (ae_BX D kA (ws ++ [lh_o kA o0 f0]) sz)) (lh_Q D kA (va_A (ws ++ [lh_o kA o0 f0]) sz) (ae_ad kA ws) tq n n2 o0) 1 6 (va_A (ws ++ [lh_o kA o0 f0]) sz) := by
  refine va_MetW (hh := [(0, 10, 13, 13)]) (cc := cL_bar) (maxL := 5) (ret := some .int) (ws' := ae_gw) (by decide +kernel) rfl ?_
  intro p e s m args below meth c s₁ B hml hv
  obtain ⟨rfl, ⟨hsz, hPo, hD0, hKK, hEX⟩, hT⟩ := hv
  have hx := B.exec
  have hb := B.bytes
  have hr := B.returns
  have hts0 := atoms_spec (ws := ae_wh10) B.pre
  have hts : ∀ w ∈ ae_gw, w.before _ s = true := fun w hw => hts0 w (List.mem_cons_of_mem _ hw)
  have hown : s.vm.findClass RL = some m.cls := findClass_of_methodNamed B.named
  have htab : c.exceptionTable.toList = tableOf [(0, 10, 13, 13)] := vx_table (x := yL_bar) B (hts0 _ List.mem_cons_self)
  have hlocks := B.notSynchronized
  subst hsz
  have hDo := hD0.self (sz := s.heap.size)
  have hP := lo_Pl hPo
  have hD := lo_Dl hDo
  have hsub : ∀ q, va_A ws s.heap.size q → va_A (ws ++ [lh_o kA o0 f0]) s.heap.size q := lo_sub
  have hS : va_S (va_A (ws ++ [lh_o kA o0 f0]) s.heap.size) s.heap s.heap [] := va_S.rf
  have hl := lv_entry ([.ref x0, .int X1, .int X2, .ref o0]) (n := 5) (Nat.le_of_ble_eq_true rfl)
  rw [lg_entry_eq]
  generalize (lg_sl ([.ref x0, .int X1, .int X2, .ref o0]) ++ List.replicate (5 - (lg_sl ([.ref x0, .int X1, .int X2, .ref o0])).length) Slot.unset).toArray = ls at hl ⊢
  have hl : lv_has ls 5 [(0, .ref x0), (1, .int X1), (2, .int X2), (3, .ref o0)] := hl
  have gt : ∀ {w : Jvm.Cond}, w ∈ lw_tbl → goodWord w = true → w.before _ s = true := fun q g => hts _ (ae_gw_in q g)
  refine lv_aload_n (k := 3) hx hb (by decide +kernel) rfl (lv_at hl 3 rfl) ?_
  refine lv_iconst (n := 0) (v := 0) hx hb (by decide +kernel) (by decide) ?_
  refine lv_aload_n (k := 0) hx hb (by decide +kernel) rfl (lv_at hl 0 rfl) ?_
  refine lv_iload_n (k := 1) hx hb (by decide +kernel) rfl (lv_at hl 1 rfl) ?_
  refine lv_iload_n (k := 2) hx hb (by decide +kernel) rfl (lv_at hl 2 rfl) ?_
  obtain ⟨N, hN, a1, a2, -⟩ : ∃ N, ae_m 154 = some N ∧ N.2.1 = yX11_bar ∧ N.2.2.2.2.2.1 = 1 ∧ True := ⟨_, rfl, rfl, rfl, trivial⟩
  obtain ⟨n1, n2, n3, n4, n5, n6, n7, n8⟩ := ae_mf hN
  rw [a1] at n1 n3
  obtain ⟨i1, i2⟩ := n3 a2
  obtain ⟨fs0, hg0, -, -⟩ := sv_hk_o (ci := 0) I.1.1 wz_ty0 tT_11 rfl
  obtain ⟨x1, e1, hw0, fs', ee, hfs⟩ := hhr.2.2 0 (.inr (11, _)) hg0
  have hx1 : x0 = x1 := Option.some.inj (hx0.symm.trans (ae_ad_at hw0))
  subst hx1
  subst ee
  have hth := lt_thr htr (D := D) (kA := kA) (M := ae_Mc10) rfl rfl (by decide +kernel) rfl rfl (fun G hG g1 g2 => tw_10 I (lw_ti X1) (lw_ti X2) hG g1 g2) wv_10_15 wv_10_18 wv_10_19 wv_10_22 (by decide) (by decide) rfl rfl (ws := ws) (asC := [.ref x0, .int X1, .int X2]) (sz := s.heap.size) (ae_sr_c ⟨x0, hx0, rfl⟩ (ae_sr_c (lw_vi _ X1) (ae_sr_c (lw_vi _ X2) rfl))) hhr (Nat.le_of_ble_eq_true rfl)
  have hcwM : ae_cwd ae_Mc10 ∈ ae_gw := ae_gw_in (show ae_cwd ae_Mc10 ∈ lw_tbl from ae_w154) rfl
  have hlnk : Jvm.Cond.methodLink RL 15 yX11_bar ∈ lw_tbl := by decide +kernel
  have hcl13 : Jvm.Cond.classLink RL 13 ae_nse ∈ lw_tbl := by decide +kernel
  refine vx_calli (A0 := va_A (ws ++ [lh_o kA o0 f0]) s.heap.size) (vx_runV (As := [.int X1, .int X2]) (rest := [.int 0, .ref o0]) (own := RL) (C := RX11) (Ts := ae_gw) (n := 2) ⟨hx, hb, hml, hown, hts⟩ hth ⟨callB_of (ws' := ae_gw) 2 hts (ae_good hcwM) rfl rfl rfl (hts _ n1) (gt hlnk rfl) ⟨by decide +kernel, by decide +kernel, by decide +kernel⟩ ⟨by decide, by decide⟩, hts _ i1, hts _ i2⟩ ⟨ae_blindX, va_recv hKK.1 hP (ci := 11) (q0 := 0) rfl hw0, fun U hU hW => ⟨rfl, ⟨by rw [hU], by rw [hU]; exact hP, hD.weaken (fun _ _ _ _ => trivial), hKK.moved hW, by rw [hU]; exact hEX.warm hW (fun _ _ _ => rfl) hsub⟩, by rw [hU]; exact (hT.kept (fun _ _ _ => rfl) hsub).moved hW⟩⟩ rfl rfl hl.1 rfl (lv_room (Nat.le_of_ble_eq_true rfl)) (by show decode cL_bar 5 = .ok (.invokevirtual 15, 3); decide +kernel) ⟨Nat.le_of_ble_eq_true rfl, Nat.le_of_ble_eq_true rfl⟩) hS (fun q _ h => hsub q h) (fun q h => hsub q h) (fun q _ h => hsub q h) (fun E ce q9 u t H1 locs1 ht hvm hpx hBX hszz hk hS1 hce hcv hcl => ?_) (fun r u t H1 locs1 ht hvm hpx hBX hszz hk hS1 => ?_)
  · obtain ⟨rfl, hP1, hD1⟩ := hBX
    obtain ⟨k1, k2⟩ := lo_kept hPo hDo (by rw [← ht]; exact hP1) hD1 hk hsub
    refine ae_catch (x := ⟨0, 10, 13, 13⟩) (own := RL) (name := ae_nse) (E := ae_nse) hown (by rw [htab]; rfl) (by decide) (by decide) (gt hcl13 rfl) (va_Nw.use rfl (hT.2.2 _ ae_vn_s)) hce hcv hcl ?_
    refine lv_astore (i := 4) hx hb (by decide +kernel) hl (by decide) rfl (fun ls2 hl2 => ?_)
    refine lv_iconst (n := 1) (v := nI 1) hx hb (by decide +kernel) (by decide +kernel) ?_
    exact W.iret hx hb hr (fun t2 ht2 hW2 => ⟨nI 1, u.1, u.2, f0, rfl, hpx.1, hpx.2.1, hpx.2.2, by rw [ht2]; exact k1, k2, hS1.F ht2⟩) hS1.2.2 (by decide +kernel) hlocks
  · obtain ⟨hP1, hD1⟩ := hBX
    obtain ⟨k1, k2⟩ := lo_kept hPo hDo (by rw [← ht]; exact hP1) hD1 hk hsub
    refine lv_i2l hx hb (by show decode cL_bar (5 + 3) = .ok (.i2l, 1); decide +kernel) rfl ?_
    refine va_last (a := o0) hx hb hKK.1 k1 k2 hS1 u.1.length 3 lo_last rfl (by unfold vp_in; decide +kernel) (by show decode cL_bar (5 + 3 + 1) = .ok (.lastore, 1); decide +kernel) (fun H2 locs2 hP2 hD2 hS2 => ?_)
    rw [lo_set] at hP2 hD2
    refine lv_goto (off := 7) (tgt := 17) hx hb (by show decode cL_bar (5 + 3 + 1 + 1) = .ok (.goto 7, 3); decide +kernel) (by decide) ?_
    refine lv_iconst (n := 0) (v := nI 0) hx hb (by decide +kernel) (by decide +kernel) ?_
    exact W.iret hx hb hr (fun t2 ht2 hW2 => ⟨nI 0, u.1, u.2, _, rfl, hpx.1, hpx.2.1, hpx.2.2, by rw [ht2]; exact hP2, hD2, hS2.F ht2⟩) hS2.2.2 (by decide +kernel) hlocks
def ae_wh11 : List Jvm.Cond := .codeWith yL_wheel cL_wheel 4 (some .int) [(0, 9, 12, 13)] :: ae_gw
set_option maxRecDepth 100000 in
theorem lh_11 {tq : Int} {l : Launch} (htr : l.stackTraces = false) {D : va_G} {kA : Nat → ClassId} {X1 : Int32} {ws : va_W} {sz x0 o0 : Nat} {h : ae_H} {n n2 : Int} {f0 : Nat → Int64} (I : lw_I tq h n n2) (hx0 : ae_ad kA ws 0 = some x0) (hhr : ae_hr kA ws h) :
    Met l yL_wheel ae_wh11 ({ frames := 9, cells := 1, slots := 6, locals := 240 }) (va_Pc [.ref x0, .int X1, .ref o0] (ae_BX D kA (ws ++ [lh_o kA o0 f0]) sz)) (lh_Q D kA (va_A (ws ++ [lh_o kA o0 f0]) sz) (ae_ad kA ws) tq n n2 o0) 1 6 (va_A (ws ++ [lh_o kA o0 f0]) sz) := by
  refine va_MetW (hh := [(0, 9, 12, 13)]) (cc := cL_wheel) (maxL := 4) (ret := some .int) (ws' := ae_gw) (by decide +kernel) rfl ?_
  intro p e s m args below meth c s₁ B hml hv
  obtain ⟨rfl, ⟨hsz, hPo, hD0, hKK, hEX⟩, hT⟩ := hv
  have hx := B.exec
  have hb := B.bytes
  have hr := B.returns
  have hts0 := atoms_spec (ws := ae_wh11) B.pre
  have hts : ∀ w ∈ ae_gw, w.before _ s = true := fun w hw => hts0 w (List.mem_cons_of_mem _ hw)
  have hown : s.vm.findClass RL = some m.cls := findClass_of_methodNamed B.named
  have htab : c.exceptionTable.toList = tableOf [(0, 9, 12, 13)] := vx_table (x := yL_wheel) B (hts0 _ List.mem_cons_self)
  have hlocks := B.notSynchronized
  subst hsz
  have hDo := hD0.self (sz := s.heap.size)
  have hP := lo_Pl hPo
  have hD := lo_Dl hDo
  have hsub : ∀ q, va_A ws s.heap.size q → va_A (ws ++ [lh_o kA o0 f0]) s.heap.size q := lo_sub
  have hS : va_S (va_A (ws ++ [lh_o kA o0 f0]) s.heap.size) s.heap s.heap [] := va_S.rf
  have hl := lv_entry ([.ref x0, .int X1, .ref o0]) (n := 4) (Nat.le_of_ble_eq_true rfl)
  rw [lg_entry_eq]
  generalize (lg_sl ([.ref x0, .int X1, .ref o0]) ++ List.replicate (4 - (lg_sl ([.ref x0, .int X1, .ref o0])).length) Slot.unset).toArray = ls at hl ⊢
  have hl : lv_has ls 4 [(0, .ref x0), (1, .int X1), (2, .ref o0)] := hl
  have gt : ∀ {w : Jvm.Cond}, w ∈ lw_tbl → goodWord w = true → w.before _ s = true := fun q g => hts _ (ae_gw_in q g)
  refine lv_aload_n (k := 2) hx hb (by decide +kernel) rfl (lv_at hl 2 rfl) ?_
  refine lv_iconst (n := 0) (v := 0) hx hb (by decide +kernel) (by decide) ?_
  refine lv_aload_n (k := 0) hx hb (by decide +kernel) rfl (lv_at hl 0 rfl) ?_
  refine lv_iload_n (k := 1) hx hb (by decide +kernel) rfl (lv_at hl 1 rfl) ?_
  obtain ⟨N, hN, a1, a2, -⟩ : ∃ N, ae_m 155 = some N ∧ N.2.1 = yX11_wheel ∧ N.2.2.2.2.2.1 = 1 ∧ True := ⟨_, rfl, rfl, rfl, trivial⟩
  obtain ⟨n1, n2, n3, n4, n5, n6, n7, n8⟩ := ae_mf hN
  rw [a1] at n1 n3
  obtain ⟨i1, i2⟩ := n3 a2
  obtain ⟨fs0, hg0, -, -⟩ := sv_hk_o (ci := 0) I.1.1 wz_ty0 tT_11 rfl
  obtain ⟨x1, e1, hw0, fs', ee, hfs⟩ := hhr.2.2 0 (.inr (11, _)) hg0
  have hx1 : x0 = x1 := Option.some.inj (hx0.symm.trans (ae_ad_at hw0))
  subst hx1
  subst ee
  have hth := lt_thr htr (D := D) (kA := kA) (M := ae_Mc11) rfl rfl (by decide +kernel) rfl rfl (fun G hG g1 g2 => tw_11 I (lw_ti X1) hG g1 g2) wv_11_17 wv_11_20 wv_11_21 wv_11_24 (by decide) (by decide) rfl rfl (ws := ws) (asC := [.ref x0, .int X1]) (sz := s.heap.size) (ae_sr_c ⟨x0, hx0, rfl⟩ (ae_sr_c (lw_vi _ X1) rfl)) hhr (Nat.le_of_ble_eq_true rfl)
  have hcwM : ae_cwd ae_Mc11 ∈ ae_gw := ae_gw_in (show ae_cwd ae_Mc11 ∈ lw_tbl from ae_w155) rfl
  have hlnk : Jvm.Cond.methodLink RL 19 yX11_wheel ∈ lw_tbl := by decide +kernel
  have hcl13 : Jvm.Cond.classLink RL 13 ae_nse ∈ lw_tbl := by decide +kernel
  refine vx_calli (A0 := va_A (ws ++ [lh_o kA o0 f0]) s.heap.size) (vx_runV (As := [.int X1]) (rest := [.int 0, .ref o0]) (own := RL) (C := RX11) (Ts := ae_gw) (n := 1) ⟨hx, hb, hml, hown, hts⟩ hth ⟨callB_of (ws' := ae_gw) 1 hts (ae_good hcwM) rfl rfl rfl (hts _ n1) (gt hlnk rfl) ⟨by decide +kernel, by decide +kernel, by decide +kernel⟩ ⟨by decide, by decide⟩, hts _ i1, hts _ i2⟩ ⟨ae_blindX, va_recv hKK.1 hP (ci := 11) (q0 := 0) rfl hw0, fun U hU hW => ⟨rfl, ⟨by rw [hU], by rw [hU]; exact hP, hD.weaken (fun _ _ _ _ => trivial), hKK.moved hW, by rw [hU]; exact hEX.warm hW (fun _ _ _ => rfl) hsub⟩, by rw [hU]; exact (hT.kept (fun _ _ _ => rfl) hsub).moved hW⟩⟩ rfl rfl hl.1 rfl (lv_room (Nat.le_of_ble_eq_true rfl)) (by show decode cL_wheel 4 = .ok (.invokevirtual 19, 3); decide +kernel) ⟨Nat.le_of_ble_eq_true rfl, Nat.le_of_ble_eq_true rfl⟩) hS (fun q _ h => hsub q h) (fun q h => hsub q h) (fun q _ h => hsub q h) (fun E ce q9 u t H1 locs1 ht hvm hpx hBX hszz hk hS1 hce hcv hcl => ?_) (fun r u t H1 locs1 ht hvm hpx hBX hszz hk hS1 => ?_)
  · obtain ⟨rfl, hP1, hD1⟩ := hBX
    obtain ⟨k1, k2⟩ := lo_kept hPo hDo (by rw [← ht]; exact hP1) hD1 hk hsub
    refine ae_catch (x := ⟨0, 9, 12, 13⟩) (own := RL) (name := ae_nse) (E := ae_nse) hown (by rw [htab]; rfl) (by decide) (by decide) (gt hcl13 rfl) (va_Nw.use rfl (hT.2.2 _ ae_vn_s)) hce hcv hcl ?_
    refine lv_astore_n (k := 3) hx hb (by decide +kernel) rfl hl (by decide) rfl (fun ls2 hl2 => ?_)
    refine lv_iconst (n := 1) (v := nI 1) hx hb (by decide +kernel) (by decide +kernel) ?_
    exact W.iret hx hb hr (fun t2 ht2 hW2 => ⟨nI 1, u.1, u.2, f0, rfl, hpx.1, hpx.2.1, hpx.2.2, by rw [ht2]; exact k1, k2, hS1.F ht2⟩) hS1.2.2 (by decide +kernel) hlocks
  · obtain ⟨hP1, hD1⟩ := hBX
    obtain ⟨k1, k2⟩ := lo_kept hPo hDo (by rw [← ht]; exact hP1) hD1 hk hsub
    refine lv_i2l hx hb (by show decode cL_wheel (4 + 3) = .ok (.i2l, 1); decide +kernel) rfl ?_
    refine va_last (a := o0) hx hb hKK.1 k1 k2 hS1 u.1.length 3 lo_last rfl (by unfold vp_in; decide +kernel) (by show decode cL_wheel (4 + 3 + 1) = .ok (.lastore, 1); decide +kernel) (fun H2 locs2 hP2 hD2 hS2 => ?_)
    rw [lo_set] at hP2 hD2
    refine lv_goto (off := 6) (tgt := 15) hx hb (by show decode cL_wheel (4 + 3 + 1 + 1) = .ok (.goto 6, 3); decide +kernel) (by decide) ?_
    refine lv_iconst (n := 0) (v := nI 0) hx hb (by decide +kernel) (by decide +kernel) ?_
    exact W.iret hx hb hr (fun t2 ht2 hW2 => ⟨nI 0, u.1, u.2, _, rfl, hpx.1, hpx.2.1, hpx.2.2, by rw [ht2]; exact hP2, hD2, hS2.F ht2⟩) hS2.2.2 (by decide +kernel) hlocks
def ae_wh24 : List Jvm.Cond := .codeWith yL_wantedAt cL_wantedAt 5 (some .int) [(0, 10, 13, 13)] :: ae_gw
set_option maxRecDepth 100000 in
theorem lh_24 {tq : Int} {l : Launch} (htr : l.stackTraces = false) {D : va_G} {kA : Nat → ClassId} {X1 X2 : Int32} {ws : va_W} {sz x0 o0 : Nat} {h : ae_H} {n n2 : Int} {f0 : Nat → Int64} (I : lw_I tq h n n2) (hx0 : ae_ad kA ws 0 = some x0) (hhr : ae_hr kA ws h) :
    Met l yL_wantedAt ae_wh24 ({ frames := 9, cells := 1, slots := 6, locals := 240 }) (va_Pc [.ref x0, .int X1, .int X2, .ref o0] (ae_BX D kA (ws ++ [lh_o kA o0 f0]) sz)) (lh_Q D kA (va_A (ws ++ [lh_o kA o0 f0]) sz) (ae_ad kA ws) tq n n2 o0) 1 6 (va_A (ws ++ [lh_o kA o0 f0]) sz) := by
  refine va_MetW (hh := [(0, 10, 13, 13)]) (cc := cL_wantedAt) (maxL := 5) (ret := some .int) (ws' := ae_gw) (by decide +kernel) rfl ?_
  intro p e s m args below meth c s₁ B hml hv
  obtain ⟨rfl, ⟨hsz, hPo, hD0, hKK, hEX⟩, hT⟩ := hv
  have hx := B.exec
  have hb := B.bytes
  have hr := B.returns
  have hts0 := atoms_spec (ws := ae_wh24) B.pre
  have hts : ∀ w ∈ ae_gw, w.before _ s = true := fun w hw => hts0 w (List.mem_cons_of_mem _ hw)
  have hown : s.vm.findClass RL = some m.cls := findClass_of_methodNamed B.named
  have htab : c.exceptionTable.toList = tableOf [(0, 10, 13, 13)] := vx_table (x := yL_wantedAt) B (hts0 _ List.mem_cons_self)
  have hlocks := B.notSynchronized
  subst hsz
  have hDo := hD0.self (sz := s.heap.size)
  have hP := lo_Pl hPo
  have hD := lo_Dl hDo
  have hsub : ∀ q, va_A ws s.heap.size q → va_A (ws ++ [lh_o kA o0 f0]) s.heap.size q := lo_sub
  have hS : va_S (va_A (ws ++ [lh_o kA o0 f0]) s.heap.size) s.heap s.heap [] := va_S.rf
  have hl := lv_entry ([.ref x0, .int X1, .int X2, .ref o0]) (n := 5) (Nat.le_of_ble_eq_true rfl)
  rw [lg_entry_eq]
  generalize (lg_sl ([.ref x0, .int X1, .int X2, .ref o0]) ++ List.replicate (5 - (lg_sl ([.ref x0, .int X1, .int X2, .ref o0])).length) Slot.unset).toArray = ls at hl ⊢
  have hl : lv_has ls 5 [(0, .ref x0), (1, .int X1), (2, .int X2), (3, .ref o0)] := hl
  have gt : ∀ {w : Jvm.Cond}, w ∈ lw_tbl → goodWord w = true → w.before _ s = true := fun q g => hts _ (ae_gw_in q g)
  refine lv_aload_n (k := 3) hx hb (by decide +kernel) rfl (lv_at hl 3 rfl) ?_
  refine lv_iconst (n := 0) (v := 0) hx hb (by decide +kernel) (by decide) ?_
  refine lv_aload_n (k := 0) hx hb (by decide +kernel) rfl (lv_at hl 0 rfl) ?_
  refine lv_iload_n (k := 1) hx hb (by decide +kernel) rfl (lv_at hl 1 rfl) ?_
  refine lv_iload_n (k := 2) hx hb (by decide +kernel) rfl (lv_at hl 2 rfl) ?_
  obtain ⟨N, hN, a1, a2, -⟩ : ∃ N, ae_m 168 = some N ∧ N.2.1 = yX11_wantedAt ∧ N.2.2.2.2.2.1 = 1 ∧ True := ⟨_, rfl, rfl, rfl, trivial⟩
  obtain ⟨n1, n2, n3, n4, n5, n6, n7, n8⟩ := ae_mf hN
  rw [a1] at n1 n3
  obtain ⟨i1, i2⟩ := n3 a2
  obtain ⟨fs0, hg0, -, -⟩ := sv_hk_o (ci := 0) I.1.1 wz_ty0 tT_11 rfl
  obtain ⟨x1, e1, hw0, fs', ee, hfs⟩ := hhr.2.2 0 (.inr (11, _)) hg0
  have hx1 : x0 = x1 := Option.some.inj (hx0.symm.trans (ae_ad_at hw0))
  subst hx1
  subst ee
  have hth := lt_thr htr (D := D) (kA := kA) (M := ae_Mc24) rfl rfl (by decide +kernel) rfl rfl (fun G hG g1 g2 => tw_24 I (lw_ti X1) (lw_ti X2) hG g1 g2) wv_24_12 wv_24_15 wv_24_16 wv_24_19 (by decide) (by decide) rfl rfl (ws := ws) (asC := [.ref x0, .int X1, .int X2]) (sz := s.heap.size) (ae_sr_c ⟨x0, hx0, rfl⟩ (ae_sr_c (lw_vi _ X1) (ae_sr_c (lw_vi _ X2) rfl))) hhr (Nat.le_of_ble_eq_true rfl)
  have hcwM : ae_cwd ae_Mc24 ∈ ae_gw := ae_gw_in (show ae_cwd ae_Mc24 ∈ lw_tbl from ae_w168) rfl
  have hlnk : Jvm.Cond.methodLink RL 23 yX11_wantedAt ∈ lw_tbl := by decide +kernel
  have hcl13 : Jvm.Cond.classLink RL 13 ae_nse ∈ lw_tbl := by decide +kernel
  refine vx_calli (A0 := va_A (ws ++ [lh_o kA o0 f0]) s.heap.size) (vx_runV (As := [.int X1, .int X2]) (rest := [.int 0, .ref o0]) (own := RL) (C := RX11) (Ts := ae_gw) (n := 2) ⟨hx, hb, hml, hown, hts⟩ hth ⟨callB_of (ws' := ae_gw) 2 hts (ae_good hcwM) rfl rfl rfl (hts _ n1) (gt hlnk rfl) ⟨by decide +kernel, by decide +kernel, by decide +kernel⟩ ⟨by decide, by decide⟩, hts _ i1, hts _ i2⟩ ⟨ae_blindX, va_recv hKK.1 hP (ci := 11) (q0 := 0) rfl hw0, fun U hU hW => ⟨rfl, ⟨by rw [hU], by rw [hU]; exact hP, hD.weaken (fun _ _ _ _ => trivial), hKK.moved hW, by rw [hU]; exact hEX.warm hW (fun _ _ _ => rfl) hsub⟩, by rw [hU]; exact (hT.kept (fun _ _ _ => rfl) hsub).moved hW⟩⟩ rfl rfl hl.1 rfl (lv_room (Nat.le_of_ble_eq_true rfl)) (by show decode cL_wantedAt 5 = .ok (.invokevirtual 23, 3); decide +kernel) ⟨Nat.le_of_ble_eq_true rfl, Nat.le_of_ble_eq_true rfl⟩) hS (fun q _ h => hsub q h) (fun q h => hsub q h) (fun q _ h => hsub q h) (fun E ce q9 u t H1 locs1 ht hvm hpx hBX hszz hk hS1 hce hcv hcl => ?_) (fun r u t H1 locs1 ht hvm hpx hBX hszz hk hS1 => ?_)
  · obtain ⟨rfl, hP1, hD1⟩ := hBX
    obtain ⟨k1, k2⟩ := lo_kept hPo hDo (by rw [← ht]; exact hP1) hD1 hk hsub
    refine ae_catch (x := ⟨0, 10, 13, 13⟩) (own := RL) (name := ae_nse) (E := ae_nse) hown (by rw [htab]; rfl) (by decide) (by decide) (gt hcl13 rfl) (va_Nw.use rfl (hT.2.2 _ ae_vn_s)) hce hcv hcl ?_
    refine lv_astore (i := 4) hx hb (by decide +kernel) hl (by decide) rfl (fun ls2 hl2 => ?_)
    refine lv_iconst (n := 1) (v := nI 1) hx hb (by decide +kernel) (by decide +kernel) ?_
    exact W.iret hx hb hr (fun t2 ht2 hW2 => ⟨nI 1, u.1, u.2, f0, rfl, hpx.1, hpx.2.1, hpx.2.2, by rw [ht2]; exact k1, k2, hS1.F ht2⟩) hS1.2.2 (by decide +kernel) hlocks
  · obtain ⟨hP1, hD1⟩ := hBX
    obtain ⟨k1, k2⟩ := lo_kept hPo hDo (by rw [← ht]; exact hP1) hD1 hk hsub
    refine lv_i2l hx hb (by show decode cL_wantedAt (5 + 3) = .ok (.i2l, 1); decide +kernel) rfl ?_
    refine va_last (a := o0) hx hb hKK.1 k1 k2 hS1 u.1.length 3 lo_last rfl (by unfold vp_in; decide +kernel) (by show decode cL_wantedAt (5 + 3 + 1) = .ok (.lastore, 1); decide +kernel) (fun H2 locs2 hP2 hD2 hS2 => ?_)
    rw [lo_set] at hP2 hD2
    refine lv_goto (off := 7) (tgt := 17) hx hb (by show decode cL_wantedAt (5 + 3 + 1 + 1) = .ok (.goto 7, 3); decide +kernel) (by decide) ?_
    refine lv_iconst (n := 0) (v := nI 0) hx hb (by decide +kernel) (by decide +kernel) ?_
    exact W.iret hx hb hr (fun t2 ht2 hW2 => ⟨nI 0, u.1, u.2, _, rfl, hpx.1, hpx.2.1, hpx.2.2, by rw [ht2]; exact hP2, hD2, hS2.F ht2⟩) hS2.2.2 (by decide +kernel) hlocks
