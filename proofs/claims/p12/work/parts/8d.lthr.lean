/-! THE LAW'S BRANCHES OVER THROWERS (printed by wip/p2/law/g8c.py) -/
theorem ae_goodS {own : String} {idx maxL : Nat} {y : MethodName} {bytes : ByteArray} {ret : Option FieldType} {hh : List (Nat × Nat × Nat × Nat)} (h1 : Jvm.Cond.methodLink own idx y ∈ lw_tbl) (h2 : Jvm.Cond.static y ∈ lw_tbl) (h3 : Jvm.Cond.initialized y.cls ∈ lw_tbl) (h4 : Jvm.Cond.codeWith y bytes maxL ret hh ∈ lw_tbl) : GoodIn ae_gw (va_wsS own idx y (Jvm.Cond.codeWith y bytes maxL ret hh :: ae_gw)) := by
  have key : ∀ w ∈ va_wsS own idx y (Jvm.Cond.codeWith y bytes maxL ret hh :: ae_gw), w ∈ ae_gw := by
    intro w hw
    rcases List.mem_append.mp hw with h | h
    · rcases List.mem_cons.mp h with rfl | h
      · exact ae_gw_in h1 rfl
      · rcases List.mem_cons.mp h with rfl | h
        · exact ae_gw_in h2 rfl
        · rcases List.mem_cons.mp h with rfl | h
          · exact ae_gw_in h3 rfl
          · cases h
    · rcases List.mem_cons.mp h with rfl | h
      · exact ae_gw_in h4 rfl
      · exact h
  intro w hw
  exact ⟨key w hw, good_of_word (ae_gw_good (key w hw))⟩
section
variable {tq : Int} {p : Program} {l : Launch} {e : Env} {s : State} {m : MethodId} {args : Array Value} {below : List Frame} {meth : Method} {c : Code} {Q : State → Prop} {D : va_G} {kA : Nat → ClassId} {A : Nat → Prop} {R : Room} {pc ce sl o0 : Nat} {n n2 : Int}
theorem lh_cont {tq : Int} {mc ms : Nat} {st0 rest : List Value} {A1 : Nat → Prop} {pre1 : Nat → Option Nat} {a : Array Value} {free : Addr → Prop} {H : Heap} {locs : List Loc} {ls : Array Slot} (hr : va_Run p l e R s m args below meth c H locs ce sl mc ms (F0 m pc ls st0) rest (lh_Q D kA A1 pre1 tq n n2 o0 a) free) (hS : va_S A s.heap H locs) (hA : ∀ q, A1 q → A q) (hf : ∀ q, free q → A q)
    (kk : ∀ (y : Int32) (ws : va_W) (h1 : ae_H) (f1 : Nat → Int64) (H1 : Heap) (locs1 : List Loc), lw_I tq h1 n n2 → ae_hr kA ws h1 → ae_px pre1 (ae_ad kA ws) → va_P D ae_cl (ws ++ [lh_o kA o0 f1]) H1 → va_D A (ws ++ [lh_o kA o0 f1]) → va_S A s.heap H1 locs1 → W p l e R s m args below meth c H1 locs1 (ce + mc) (sl + ms) Q (F0 m (pc + 3) ls (.int y :: rest))) : W p l e R s m args below meth c H locs ce sl Q (F0 m pc ls st0) := by
  intro T hT X
  obtain ⟨v, st₀, t, T', L, h0, X', hL, e1, e2, ⟨y, ws, h9, f1, hv, h1, h2, h3, h4, h5, hz, hk⟩, st⟩ := hr T hT X
  cases hv
  rw [h0] at hz hk
  obtain ⟨t2, a1, b1⟩ := kk y ws h9 f1 T'.heap (locs ++ L) h1 h2 h3 (by rw [e1]; exact h4) (h5.weaken (fun _ q _ hq => hA q.1 hq))
    ⟨Nat.le_trans hS.1 (by rw [e1]; exact hz), fun q h1 h2 => by rw [e1, hk q (Nat.lt_of_lt_of_le h1 hS.1) (fun z => h2 (hA q z))]; exact hS.2.1 q h1 h2, fun q hq => by
      rcases List.mem_append.mp hq with h | h
      · exact hS.2.2 q h
      · exact hf _ (hL q h)⟩ T' rfl X'
  exact ⟨t2, st t2 a1, b1⟩
end
section
variable {tq : Int} {p : Program} {l : Launch} {e : Env} {s : State} {m : MethodId} {below : List Frame} {meth : Method} {c : Code} {D : va_G} {kA : Nat → ClassId} {ce sl : Nat} {ws : va_W} {H : Heap} {locs : List Loc} {ls : Array Slot} {b L x0 m0 o0 i : Nat} {xs : Nat → Int32} {Q : State → Prop} {h : ae_H} {n : Int}
set_option maxRecDepth 100000 in
theorem law_op4 (X : lw_C p l s m meth c D kA b L xs) (hi : i + 6 ≤ L) (hce : ce + 1 ≤ 601024) (hsl : sl + 6 ≤ 7293034) (S : lw_S s D kA b x0 m0 o0 i tq ws H locs ls h n n) (ht : 0 ≤ tq ∧ tq ≤ 600) (fin : ∀ ws H locs ls h n, lw_S s D kA b x0 m0 o0 i (tq + 1) ws H locs ls h n n → W p l e room_1 s m #[Value.ref b] below meth c H locs (ce + 1) (sl + 6) Q (F0 m 1270 ls [])) : W p l e room_1 s m #[Value.ref b] below meth c H locs ce sl Q (F0 m 356 ls []) := by
  have X0 := X
  obtain ⟨Xc, hX, hbl, hL, htr, hT⟩ := X
  obtain ⟨hx, hb, hml, hown, hts, hKK, hA, -, -, -, hEX⟩ := Xc
  obtain ⟨hl, hx0, hm0, hhr, I, ⟨f, hPo, hDo⟩, hS⟩ := S
  refine lv_aload_n (k := 1) hx hb (by decide +kernel) rfl (lv_at hl 1 rfl) ?_
  refine law_args hx hb hX hbl hL hi hS (lv_at hl 0 rfl) (lv_at hl 4 rfl) [1, 2, 3] (356 + 1) _ (by decide +kernel) ?_
  refine lv_aload_n (k := 3) hx hb (by decide +kernel) rfl (lv_at hl 3 rfl) ?_
  show W p l e room_1 s m #[Value.ref b] below meth c H locs ce sl Q (F0 m 376 ls [.ref o0, .int (xs (i + 3)), .int (xs (i + 2)), .int (xs (i + 1)), .ref x0])
  have hfree : ∀ q, va_A (ws ++ [lh_o kA o0 f]) H.size q → ae_A s q := by
    intro q hq
    rcases hq with ⟨k, e0, hq⟩ | hq
    · exact hDo.2 k (q, e0) hq
    · exact hA q (Nat.le_trans hS.1 hq)
  have hTH : ae_TT (va_A (ws ++ [lh_o kA o0 f]) H.size) s H := hT.kept (fun a q1 q2 => hS.2.1 a q1 q2) hfree
  have hrn := vx_runSW (p := p) (l := l) (e := e) (R := room_1) (s := s) (m := m) (args := #[Value.ref b]) (below := below) (meth := meth) (c := c) (H := H) (locs := locs) (cells := ce) (slots := sl) (As := [.ref x0, .int (xs (i + 1)), .int (xs (i + 2)), .int (xs (i + 3)), .ref o0]) (rest := []) (own := RL) (Ts := ae_gw) (n := 5) (index := 48) (hh := [(0, 12, 15, 13)]) (bytes := cL_column) (maxL := 6) (ret := some .int) (g := F0 m 376 ls [.ref o0, .int (xs (i + 3)), .int (xs (i + 2)), .int (xs (i + 1)), .ref x0]) (cc := code) (nL := 7) ⟨hx, hb, hml, hown, hts⟩ (lh_4 htr (D := D) (kA := kA) (o0 := o0) (f0 := f) (sz := H.size) I hx0 hhr)
    (vx_cwSW 5 hts (ae_goodS (by decide +kernel) (by decide +kernel) (by decide +kernel) (by decide +kernel)) rfl rfl rfl ⟨by decide +kernel, by decide +kernel, by decide +kernel⟩ ⟨by decide, by decide⟩)
    ⟨ae_blindX, fun U hU hW => ⟨rfl, ⟨by rw [hU], by rw [hU]; exact hPo, hDo.weaken (fun _ _ _ _ => trivial), hKK.moved hW, by rw [hU]; exact hEX.warm hW hS.2.1 hfree⟩, by rw [hU]; exact hTH.moved hW⟩⟩ rfl rfl hl.1 rfl (lv_room (Nat.le_of_ble_eq_true rfl)) (by show decode code 376 = .ok (.invokestatic 48, 3); decide +kernel) ⟨by show ce + 1 ≤ 601024; omega, by show sl + 6 ≤ 7293034; omega⟩
  refine lh_cont hrn hS hfree hfree (fun y ws1 h1 f1 H1 locs1 I1 g2 g3 g4 g5 g6 => ?_)
  refine lv_istore (i := 5) hx hb (by show decode code (376 + 3) = .ok (.istore 5, 2); decide +kernel) hl (by decide) (lv' := [(5, .int y), (0, .ref b), (1, .ref x0), (2, .ref m0), (3, .ref o0), (4, .int (nI i))]) rfl (fun ls1 hl1 => ?_)
  refine lv_aload_n (k := 2) hx hb (by decide +kernel) rfl (lv_at hl1 3 rfl) ?_
  refine law_args hx hb hX hbl hL hi g6 (lv_at hl1 1 rfl) (lv_at hl1 5 rfl) [1, 2, 3] (376 + 3 + 2 + 1) _ (by decide +kernel) ?_
  refine law_call X0 (z := 0) (ks := [1, 2, 3]) (pc := 400) (idx := 53) (mj := 193) (restC := []) (Or.inr ⟨rfl, rfl⟩) (by decide +kernel) rfl (by decide +kernel) hl1.1 (g3 _ _ hm0) g2 I1.1.1 g4 g5 g6 (by omega) (by omega) (by decide) (lt_193 I1 (lw_ti _) (lw_ti _) (lw_ti _)) (fun r rv ws2 H2 locs2 hr t1 t2 t3 t4 t5 t6 => ?_)
  obtain ⟨⟨x2, er2⟩, I2⟩ := hr
  rw [er2] at t1
  obtain ⟨y2, rfl, z2, rfl, -⟩ := t1
  refine lv_istore (i := 6) hx hb (by show decode code (400 + 3) = .ok (.istore 6, 2); decide +kernel) hl1 (by decide) (lv' := [(6, .int z2), (5, .int y), (0, .ref b), (1, .ref x0), (2, .ref m0), (3, .ref o0), (4, .int (nI i))]) rfl (fun ls2 hl2 => ?_)
  refine lv_goto (off := 865) (tgt := 1270) hx hb (by show decode code (400 + 3 + 2) = .ok (.goto 865, 3); decide +kernel) (by decide) ?_
  exact fin ws2 H2 locs2 ls2 _ _ ⟨⟨hl2.1, hl2.2.1, fun q hq => hl2.2.2 q (List.mem_cons_of_mem _ (List.mem_cons_of_mem _ hq))⟩, t3 _ _ (g3 _ _ hx0), t3 _ _ (g3 _ _ hm0), t2, I2, ⟨f1, t4, t5⟩, t6⟩
set_option maxRecDepth 100000 in
theorem law_op10 (X : lw_C p l s m meth c D kA b L xs) (hi : i + 6 ≤ L) (hce : ce + 1 ≤ 601024) (hsl : sl + 6 ≤ 7293034) (S : lw_S s D kA b x0 m0 o0 i tq ws H locs ls h n n) (ht : 0 ≤ tq ∧ tq ≤ 600) (fin : ∀ ws H locs ls h n, lw_S s D kA b x0 m0 o0 i (tq + 1) ws H locs ls h n n → W p l e room_1 s m #[Value.ref b] below meth c H locs (ce + 1) (sl + 6) Q (F0 m 1270 ls [])) : W p l e room_1 s m #[Value.ref b] below meth c H locs ce sl Q (F0 m 521 ls []) := by
  have X0 := X
  obtain ⟨Xc, hX, hbl, hL, htr, hT⟩ := X
  obtain ⟨hx, hb, hml, hown, hts, hKK, hA, -, -, -, hEX⟩ := Xc
  obtain ⟨hl, hx0, hm0, hhr, I, ⟨f, hPo, hDo⟩, hS⟩ := S
  refine lv_aload_n (k := 1) hx hb (by decide +kernel) rfl (lv_at hl 1 rfl) ?_
  refine law_args hx hb hX hbl hL hi hS (lv_at hl 0 rfl) (lv_at hl 4 rfl) [1, 2] (521 + 1) _ (by decide +kernel) ?_
  refine lv_aload_n (k := 3) hx hb (by decide +kernel) rfl (lv_at hl 3 rfl) ?_
  show W p l e room_1 s m #[Value.ref b] below meth c H locs ce sl Q (F0 m 535 ls [.ref o0, .int (xs (i + 2)), .int (xs (i + 1)), .ref x0])
  have hfree : ∀ q, va_A (ws ++ [lh_o kA o0 f]) H.size q → ae_A s q := by
    intro q hq
    rcases hq with ⟨k, e0, hq⟩ | hq
    · exact hDo.2 k (q, e0) hq
    · exact hA q (Nat.le_trans hS.1 hq)
  have hTH : ae_TT (va_A (ws ++ [lh_o kA o0 f]) H.size) s H := hT.kept (fun a q1 q2 => hS.2.1 a q1 q2) hfree
  have hrn := vx_runSW (p := p) (l := l) (e := e) (R := room_1) (s := s) (m := m) (args := #[Value.ref b]) (below := below) (meth := meth) (c := c) (H := H) (locs := locs) (cells := ce) (slots := sl) (As := [.ref x0, .int (xs (i + 1)), .int (xs (i + 2)), .ref o0]) (rest := []) (own := RL) (Ts := ae_gw) (n := 4) (index := 75) (hh := [(0, 10, 13, 13)]) (bytes := cL_bar) (maxL := 5) (ret := some .int) (g := F0 m 535 ls [.ref o0, .int (xs (i + 2)), .int (xs (i + 1)), .ref x0]) (cc := code) (nL := 7) ⟨hx, hb, hml, hown, hts⟩ (lh_10R htr (D := D) (kA := kA) (o0 := o0) (f0 := f) (sz := H.size) I hx0 hhr)
    (vx_cwSW 4 hts (ae_goodS (by decide +kernel) (by decide +kernel) (by decide +kernel) (by decide +kernel)) rfl rfl rfl ⟨by decide +kernel, by decide +kernel, by decide +kernel⟩ ⟨by decide, by decide⟩)
    ⟨ae_blindX, fun U hU hW => ⟨rfl, ⟨by rw [hU], by rw [hU]; exact hPo, hDo.weaken (fun _ _ _ _ => trivial), hKK.moved hW, by rw [hU]; exact hEX.warm hW hS.2.1 hfree⟩, by rw [hU]; exact hTH.moved hW⟩⟩ rfl rfl hl.1 rfl (lv_room (Nat.le_of_ble_eq_true rfl)) (by show decode code 535 = .ok (.invokestatic 75, 3); decide +kernel) ⟨by show ce + 1 ≤ 601024; omega, by show sl + 6 ≤ 7293034; omega⟩
  refine lh_contR hrn hS hfree hfree (fun y ws1 h1 f1 H1 locs1 I1 g2 g3 g4 g5 g6 hRR => ?_)
  refine lv_istore (i := 5) hx hb (by show decode code (535 + 3) = .ok (.istore 5, 2); decide +kernel) hl (by decide) (lv' := [(5, .int y), (0, .ref b), (1, .ref x0), (2, .ref m0), (3, .ref o0), (4, .int (nI i))]) rfl (fun ls1 hl1 => ?_)
  refine lv_aload_n (k := 2) hx hb (by decide +kernel) rfl (lv_at hl1 3 rfl) ?_
  refine law_args hx hb hX hbl hL hi g6 (lv_at hl1 1 rfl) (lv_at hl1 5 rfl) [1, 2] (535 + 3 + 2 + 1) _ (by decide +kernel) ?_
  refine law_call X0 (z := 0) (ks := [1, 2]) (pc := 553) (idx := 78) (mj := 227) (restC := []) (Or.inr ⟨rfl, rfl⟩) (by decide +kernel) rfl (by decide +kernel) hl1.1 (g3 _ _ hm0) g2 I1.1.1 g4 g5 g6 (by omega) (by omega) (by decide) (lt_227R I1 (lw_ti _) (lw_ti _)) (fun r rv ws2 H2 locs2 hr t1 t2 t3 t4 t5 t6 => ?_)
  obtain ⟨x2, er2, D2, I2⟩ := hr
  rw [er2] at t1
  obtain ⟨y2, rfl, z2, rfl, hz2⟩ := t1
  refine lv_istore (i := 6) hx hb (by show decode code (553 + 3) = .ok (.istore 6, 2); decide +kernel) hl1 (by decide) (lv' := [(6, .int z2), (5, .int y), (0, .ref b), (1, .ref x0), (2, .ref m0), (3, .ref o0), (4, .int (nI i))]) rfl (fun ls2 hl2 => ?_)
  refine lv_aload_n (k := 2) hx hb (by show decode code 558 = .ok (.aload_n 2, 1); decide +kernel) rfl (lv_at hl2 4 rfl) ?_
  refine law_call (i := i) X0 (z := 0) (ks := []) (pc := 559) (idx := 79) (mj := 286) (restC := []) (Or.inr ⟨rfl, rfl⟩) (by decide +kernel) rfl (by decide +kernel) hl2.1 (t3 _ _ (g3 _ _ hm0)) t2 I2.1.1 t4 t5 t6 (by omega) (by omega) (by decide) (tw_th I2) (fun r3 rv3 ws3 H3 locs3 hr3 s1 s2 s3 s4 s5 s6 => ?_)
  obtain ⟨er3, eh3⟩ := hr3
  rw [er3] at s1
  rw [eh3] at s2
  obtain ⟨y3, rfl, z3, rfl, hz3⟩ := s1
  have fin2 : W p l e room_1 s m #[Value.ref b] below meth c H3 locs3 (ce + 1) (sl + 6) Q (F0 m 1270 ls2 []) := fin ws3 H3 locs3 ls2 _ _ ⟨⟨hl2.1, hl2.2.1, fun q hq => hl2.2.2 q (List.mem_cons_of_mem _ (List.mem_cons_of_mem _ hq))⟩, s3 _ _ (t3 _ _ (g3 _ _ hx0)), s3 _ _ (t3 _ _ (g3 _ _ hm0)), s2, I2, ⟨f1, s4, s5⟩, s6⟩
  refine lv_iload (i := 5) hx hb (by show decode code (559 + 3) = .ok (.iload 5, 2); decide +kernel) (lv_at hl2 1 rfl) ?_
  rcases hRR with ⟨ey, no⟩ | ⟨ey, x, ef, ix, D1⟩
  · have e0 : dc_m r.2 114 0 = 1 := tq_10 I1.2.2 D2 no
    have ez : z3 = y := by
      rw [ey]
      refine hz3.1.trans ?_
      rw [e0]
      rfl
    refine lv_icmp_eq (off := 5) (tgt := 569) hx hb (by show decode code (559 + 3 + 2) = .ok (.if_icmp .eq 5, 3); decide +kernel) (by decide) (fun _ => ?_) (fun z => absurd ez z)
    refine lv_iload (i := 5) hx hb (by show decode code 569 = .ok (.iload 5, 2); decide +kernel) (lv_at hl2 1 rfl) ?_
    refine lv_if_ne (off := 15) (tgt := 586) hx hb (by show decode code (569 + 2) = .ok (.ifCond .ne 15, 3); decide +kernel) (by decide) (fun _ => ?_) (fun z => absurd (ey.symm.trans z) (by decide))
    exact lv_goto (off := 684) (tgt := 1270) hx hb (by show decode code 586 = .ok (.goto 684, 3); decide +kernel) (by decide) fin2
  · obtain ⟨-, e0, ev⟩ := pp_154 I1.2.2 ht I1.1.2.2.2.1.2 (lw_n1 I1.1.2.2.2.1) (lw_n2 I1.1.2.2.2.2) D1 D2
    have ez : z3 = y := by
      rw [ey]
      refine hz3.1.trans ?_
      rw [e0]
      rfl
    refine lv_icmp_eq (off := 5) (tgt := 569) hx hb (by show decode code (559 + 3 + 2) = .ok (.if_icmp .eq 5, 3); decide +kernel) (by decide) (fun _ => ?_) (fun z => absurd ez z)
    refine lv_iload (i := 5) hx hb (by show decode code 569 = .ok (.iload 5, 2); decide +kernel) (lv_at hl2 1 rfl) ?_
    refine lv_if_ne (off := 15) (tgt := 586) hx hb (by show decode code (569 + 2) = .ok (.ifCond .ne 15, 3); decide +kernel) (by decide) (fun z => absurd (ey.trans (by decide)) z) (fun _ => ?_)
    refine lv_aload_n (k := 3) hx hb (by show decode code (569 + 2 + 3) = .ok (.aload_n 3, 1); decide +kernel) rfl (lv_at hl2 5 rfl) ?_
    refine lv_iconst (n := 0) (v := 0) hx hb (by show decode code (569 + 2 + 3 + 1) = .ok (.iconst 0, 1); decide +kernel) (by decide) ?_
    refine va_lald (a := o0) hx hb hKK.1 s4 ws3.length 3 lo_last rfl (by unfold vp_in; decide +kernel) (by show decode code (569 + 2 + 3 + 1 + 1) = .ok (.laload, 1); decide +kernel) ?_
    refine lv_iload (i := 6) hx hb (by show decode code (569 + 2 + 3 + 1 + 1 + 1) = .ok (.iload 6, 2); decide +kernel) (lv_at hl2 0 rfl) ?_
    refine lv_i2l hx hb (by show decode code (569 + 2 + 3 + 1 + 1 + 1 + 2) = .ok (.i2l, 1); decide +kernel) rfl ?_
    refine W.lcmp hx hb (by show decode code (569 + 2 + 3 + 1 + 1 + 1 + 2 + 1) = .ok (.lcmp, 1); decide +kernel) ?_
    have ec : lg_cmp (f1 (Int32.toNatClampNeg 0)) z2.toInt64 = 0 := by
      rw [show Int32.toNatClampNeg 0 = 0 by decide +kernel, ef, hz2.1, ev]
      exact lg_cmp_rf _
    rw [ec]
    refine lv_if_eq (off := 5) (tgt := 586) hx hb (by show decode code (569 + 2 + 3 + 1 + 1 + 1 + 2 + 1 + 1) = .ok (.ifCond .eq 5, 3); decide +kernel) (by decide) (fun _ => ?_) (fun z => absurd rfl z)
    exact lv_goto (off := 684) (tgt := 1270) hx hb (by show decode code 586 = .ok (.goto 684, 3); decide +kernel) (by decide) fin2
set_option maxRecDepth 100000 in
theorem law_op11 (X : lw_C p l s m meth c D kA b L xs) (hi : i + 6 ≤ L) (hce : ce + 1 ≤ 601024) (hsl : sl + 6 ≤ 7293034) (S : lw_S s D kA b x0 m0 o0 i tq ws H locs ls h n n) (ht : 0 ≤ tq ∧ tq ≤ 600) (fin : ∀ ws H locs ls h n, lw_S s D kA b x0 m0 o0 i (tq + 1) ws H locs ls h n n → W p l e room_1 s m #[Value.ref b] below meth c H locs (ce + 1) (sl + 6) Q (F0 m 1270 ls [])) : W p l e room_1 s m #[Value.ref b] below meth c H locs ce sl Q (F0 m 589 ls []) := by
  have X0 := X
  obtain ⟨Xc, hX, hbl, hL, htr, hT⟩ := X
  obtain ⟨hx, hb, hml, hown, hts, hKK, hA, -, -, -, hEX⟩ := Xc
  obtain ⟨hl, hx0, hm0, hhr, I, ⟨f, hPo, hDo⟩, hS⟩ := S
  refine lv_aload_n (k := 1) hx hb (by decide +kernel) rfl (lv_at hl 1 rfl) ?_
  refine law_args hx hb hX hbl hL hi hS (lv_at hl 0 rfl) (lv_at hl 4 rfl) [1] (589 + 1) _ (by decide +kernel) ?_
  refine lv_aload_n (k := 3) hx hb (by decide +kernel) rfl (lv_at hl 3 rfl) ?_
  show W p l e room_1 s m #[Value.ref b] below meth c H locs ce sl Q (F0 m 597 ls [.ref o0, .int (xs (i + 1)), .ref x0])
  have hfree : ∀ q, va_A (ws ++ [lh_o kA o0 f]) H.size q → ae_A s q := by
    intro q hq
    rcases hq with ⟨k, e0, hq⟩ | hq
    · exact hDo.2 k (q, e0) hq
    · exact hA q (Nat.le_trans hS.1 hq)
  have hTH : ae_TT (va_A (ws ++ [lh_o kA o0 f]) H.size) s H := hT.kept (fun a q1 q2 => hS.2.1 a q1 q2) hfree
  have hrn := vx_runSW (p := p) (l := l) (e := e) (R := room_1) (s := s) (m := m) (args := #[Value.ref b]) (below := below) (meth := meth) (c := c) (H := H) (locs := locs) (cells := ce) (slots := sl) (As := [.ref x0, .int (xs (i + 1)), .ref o0]) (rest := []) (own := RL) (Ts := ae_gw) (n := 3) (index := 82) (hh := [(0, 9, 12, 13)]) (bytes := cL_wheel) (maxL := 4) (ret := some .int) (g := F0 m 597 ls [.ref o0, .int (xs (i + 1)), .ref x0]) (cc := code) (nL := 7) ⟨hx, hb, hml, hown, hts⟩ (lh_11 htr (D := D) (kA := kA) (o0 := o0) (f0 := f) (sz := H.size) I hx0 hhr)
    (vx_cwSW 3 hts (ae_goodS (by decide +kernel) (by decide +kernel) (by decide +kernel) (by decide +kernel)) rfl rfl rfl ⟨by decide +kernel, by decide +kernel, by decide +kernel⟩ ⟨by decide, by decide⟩)
    ⟨ae_blindX, fun U hU hW => ⟨rfl, ⟨by rw [hU], by rw [hU]; exact hPo, hDo.weaken (fun _ _ _ _ => trivial), hKK.moved hW, by rw [hU]; exact hEX.warm hW hS.2.1 hfree⟩, by rw [hU]; exact hTH.moved hW⟩⟩ rfl rfl hl.1 rfl (lv_room (Nat.le_of_ble_eq_true rfl)) (by show decode code 597 = .ok (.invokestatic 82, 3); decide +kernel) ⟨by show ce + 1 ≤ 601024; omega, by show sl + 6 ≤ 7293034; omega⟩
  refine lh_cont hrn hS hfree hfree (fun y ws1 h1 f1 H1 locs1 I1 g2 g3 g4 g5 g6 => ?_)
  refine lv_istore (i := 5) hx hb (by show decode code (597 + 3) = .ok (.istore 5, 2); decide +kernel) hl (by decide) (lv' := [(5, .int y), (0, .ref b), (1, .ref x0), (2, .ref m0), (3, .ref o0), (4, .int (nI i))]) rfl (fun ls1 hl1 => ?_)
  refine lv_aload_n (k := 2) hx hb (by decide +kernel) rfl (lv_at hl1 3 rfl) ?_
  refine law_args hx hb hX hbl hL hi g6 (lv_at hl1 1 rfl) (lv_at hl1 5 rfl) [1] (597 + 3 + 2 + 1) _ (by decide +kernel) ?_
  refine law_call X0 (z := 0) (ks := [1]) (pc := 609) (idx := 85) (mj := 228) (restC := []) (Or.inr ⟨rfl, rfl⟩) (by decide +kernel) rfl (by decide +kernel) hl1.1 (g3 _ _ hm0) g2 I1.1.1 g4 g5 g6 (by omega) (by omega) (by decide) (lt_228 I1 (lw_ti _)) (fun r rv ws2 H2 locs2 hr t1 t2 t3 t4 t5 t6 => ?_)
  obtain ⟨⟨x2, er2⟩, I2⟩ := hr
  rw [er2] at t1
  obtain ⟨y2, rfl, z2, rfl, -⟩ := t1
  refine lv_istore (i := 6) hx hb (by show decode code (609 + 3) = .ok (.istore 6, 2); decide +kernel) hl1 (by decide) (lv' := [(6, .int z2), (5, .int y), (0, .ref b), (1, .ref x0), (2, .ref m0), (3, .ref o0), (4, .int (nI i))]) rfl (fun ls2 hl2 => ?_)
  refine lv_goto (off := 656) (tgt := 1270) hx hb (by show decode code (609 + 3 + 2) = .ok (.goto 656, 3); decide +kernel) (by decide) ?_
  exact fin ws2 H2 locs2 ls2 _ _ ⟨⟨hl2.1, hl2.2.1, fun q hq => hl2.2.2 q (List.mem_cons_of_mem _ (List.mem_cons_of_mem _ hq))⟩, t3 _ _ (g3 _ _ hx0), t3 _ _ (g3 _ _ hm0), t2, I2, ⟨f1, t4, t5⟩, t6⟩
set_option maxRecDepth 100000 in
theorem law_op24 (X : lw_C p l s m meth c D kA b L xs) (hi : i + 6 ≤ L) (hce : ce + 1 ≤ 601024) (hsl : sl + 6 ≤ 7293034) (S : lw_S s D kA b x0 m0 o0 i tq ws H locs ls h n n) (ht : 0 ≤ tq ∧ tq ≤ 600) (fin : ∀ ws H locs ls h n, lw_S s D kA b x0 m0 o0 i (tq + 1) ws H locs ls h n n → W p l e room_1 s m #[Value.ref b] below meth c H locs (ce + 1) (sl + 6) Q (F0 m 1270 ls [])) : W p l e room_1 s m #[Value.ref b] below meth c H locs ce sl Q (F0 m 893 ls []) := by
  have X0 := X
  obtain ⟨Xc, hX, hbl, hL, htr, hT⟩ := X
  obtain ⟨hx, hb, hml, hown, hts, hKK, hA, -, -, -, hEX⟩ := Xc
  obtain ⟨hl, hx0, hm0, hhr, I, ⟨f, hPo, hDo⟩, hS⟩ := S
  refine lv_aload_n (k := 1) hx hb (by decide +kernel) rfl (lv_at hl 1 rfl) ?_
  refine law_args hx hb hX hbl hL hi hS (lv_at hl 0 rfl) (lv_at hl 4 rfl) [1, 2] (893 + 1) _ (by decide +kernel) ?_
  refine lv_aload_n (k := 3) hx hb (by decide +kernel) rfl (lv_at hl 3 rfl) ?_
  show W p l e room_1 s m #[Value.ref b] below meth c H locs ce sl Q (F0 m 907 ls [.ref o0, .int (xs (i + 2)), .int (xs (i + 1)), .ref x0])
  have hfree : ∀ q, va_A (ws ++ [lh_o kA o0 f]) H.size q → ae_A s q := by
    intro q hq
    rcases hq with ⟨k, e0, hq⟩ | hq
    · exact hDo.2 k (q, e0) hq
    · exact hA q (Nat.le_trans hS.1 hq)
  have hTH : ae_TT (va_A (ws ++ [lh_o kA o0 f]) H.size) s H := hT.kept (fun a q1 q2 => hS.2.1 a q1 q2) hfree
  have hrn := vx_runSW (p := p) (l := l) (e := e) (R := room_1) (s := s) (m := m) (args := #[Value.ref b]) (below := below) (meth := meth) (c := c) (H := H) (locs := locs) (cells := ce) (slots := sl) (As := [.ref x0, .int (xs (i + 1)), .int (xs (i + 2)), .ref o0]) (rest := []) (own := RL) (Ts := ae_gw) (n := 4) (index := 135) (hh := [(0, 10, 13, 13)]) (bytes := cL_wantedAt) (maxL := 5) (ret := some .int) (g := F0 m 907 ls [.ref o0, .int (xs (i + 2)), .int (xs (i + 1)), .ref x0]) (cc := code) (nL := 7) ⟨hx, hb, hml, hown, hts⟩ (lh_24 htr (D := D) (kA := kA) (o0 := o0) (f0 := f) (sz := H.size) I hx0 hhr)
    (vx_cwSW 4 hts (ae_goodS (by decide +kernel) (by decide +kernel) (by decide +kernel) (by decide +kernel)) rfl rfl rfl ⟨by decide +kernel, by decide +kernel, by decide +kernel⟩ ⟨by decide, by decide⟩)
    ⟨ae_blindX, fun U hU hW => ⟨rfl, ⟨by rw [hU], by rw [hU]; exact hPo, hDo.weaken (fun _ _ _ _ => trivial), hKK.moved hW, by rw [hU]; exact hEX.warm hW hS.2.1 hfree⟩, by rw [hU]; exact hTH.moved hW⟩⟩ rfl rfl hl.1 rfl (lv_room (Nat.le_of_ble_eq_true rfl)) (by show decode code 907 = .ok (.invokestatic 135, 3); decide +kernel) ⟨by show ce + 1 ≤ 601024; omega, by show sl + 6 ≤ 7293034; omega⟩
  refine lh_cont hrn hS hfree hfree (fun y ws1 h1 f1 H1 locs1 I1 g2 g3 g4 g5 g6 => ?_)
  refine lv_istore (i := 5) hx hb (by show decode code (907 + 3) = .ok (.istore 5, 2); decide +kernel) hl (by decide) (lv' := [(5, .int y), (0, .ref b), (1, .ref x0), (2, .ref m0), (3, .ref o0), (4, .int (nI i))]) rfl (fun ls1 hl1 => ?_)
  refine lv_aload_n (k := 2) hx hb (by decide +kernel) rfl (lv_at hl1 3 rfl) ?_
  refine law_args hx hb hX hbl hL hi g6 (lv_at hl1 1 rfl) (lv_at hl1 5 rfl) [1, 2] (907 + 3 + 2 + 1) _ (by decide +kernel) ?_
  refine law_call X0 (z := 0) (ks := [1, 2]) (pc := 925) (idx := 137) (mj := 270) (restC := []) (Or.inr ⟨rfl, rfl⟩) (by decide +kernel) rfl (by decide +kernel) hl1.1 (g3 _ _ hm0) g2 I1.1.1 g4 g5 g6 (by omega) (by omega) (by decide) (lt_270 I1 (lw_ti _) (lw_ti _)) (fun r rv ws2 H2 locs2 hr t1 t2 t3 t4 t5 t6 => ?_)
  obtain ⟨⟨x2, er2⟩, I2⟩ := hr
  rw [er2] at t1
  obtain ⟨y2, rfl, z2, rfl, -⟩ := t1
  refine lv_istore (i := 6) hx hb (by show decode code (925 + 3) = .ok (.istore 6, 2); decide +kernel) hl1 (by decide) (lv' := [(6, .int z2), (5, .int y), (0, .ref b), (1, .ref x0), (2, .ref m0), (3, .ref o0), (4, .int (nI i))]) rfl (fun ls2 hl2 => ?_)
  refine lv_goto (off := 340) (tgt := 1270) hx hb (by show decode code (925 + 3 + 2) = .ok (.goto 340, 3); decide +kernel) (by decide) ?_
  exact fin ws2 H2 locs2 ls2 _ _ ⟨⟨hl2.1, hl2.2.1, fun q hq => hl2.2.2 q (List.mem_cons_of_mem _ (List.mem_cons_of_mem _ hq))⟩, t3 _ _ (g3 _ _ hx0), t3 _ _ (g3 _ _ hm0), t2, I2, ⟨f1, t4, t5⟩, t6⟩
end
