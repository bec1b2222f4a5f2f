theorem ae_goodS {own : String} {idx maxL : Nat} {y : MethodName} {bytes : ByteArray} {ret : Option FieldType} {hh : List (Nat × Nat × Nat × Nat)} (h1 : Jvm.Cond.methodLink own idx y ∈ lw_tbl) (h2 : Jvm.Cond.static y ∈ lw_tbl) (h3 : Jvm.Cond.initialized y.cls ∈ lw_tbl) (h4 : Jvm.Cond.codeWith y bytes maxL ret hh ∈ lw_tbl) : GoodIn ae_gw (va_wsS own idx y (Jvm.Cond.codeWith y bytes maxL ret hh :: ae_gw)) := by
  have key : ∀ w ∈ va_wsS own idx y (Jvm.Cond.codeWith y bytes maxL ret hh :: ae_gw), w ∈ ae_gw := by
    intro w hw
    rcases List.mem_append.mp hw with h | h
    · rcases List.mem_cons.mp h with rfl | h
      · exact ae_gw_in h1 rfl
      · rcases List.mem_cons.mp h with rfl | h
        · exact ae_gw_in h2 rfl
        · rcases List.mem_cons.mp h with rfl | h
          · exact ae_gw_in h3 rfl
          · cases h
    · rcases List.mem_cons.mp h with rfl | h
      · exact ae_gw_in h4 rfl
      · exact h
  intro w hw
  exact ⟨key w hw, good_of_word (ae_gw_good (key w hw))⟩
section
variable {p : Program} {l : Launch} {e : Env} {s : State} {m : MethodId} {below : List Frame} {meth : Method} {c : Code} {D : va_G} {kA : Nat → ClassId} {ce sl : Nat} {ws : va_W} {H : Heap} {locs : List Loc} {ls : Array Slot} {b x0 m0 o0 : Nat} {xs : Nat → Int32} {Q : State → Prop}
theorem law_th4 (S : ae_St p l e s m below meth c D kA b xs x0 m0 o0 ce sl ws H locs ls Q) (S2 : ae_St2 p l e s m below meth c b x0 m0 o0 ce sl Q) {as : List ae_V} (hlen : as.length = 3) (has : ∀ ad, ae_sr ad as [.int (xs 1), .int (xs 2), .int (xs 3)]) (hrun : ae_ends (ae_pfx 19 ae_Mc4 3000 0 0 0 (ae_args (.inr (.inr (some 0)) :: as) 0) [] ae_s0) ae_s0 = true) (hcat : ae_catS (.inr (.inr (some 0)) :: as) ≤ 4) (hmt : ae_mth 3000 194 183 as = true) : W p l e room_1 s m #[Value.ref b] below meth c H locs ce sl Q (F0 m 356 ls []) := by
  obtain ⟨X, hX, hbl, hl, hx0, hm0, ho0, hhr, hP, hD, hS, hce, hsl, -⟩ := S
  obtain ⟨htr, hT, fin⟩ := S2
  have X0 := X
  obtain ⟨hx, hb, hml, hown, hts, hKK, hA, -⟩ := X0
  obtain ⟨n1, v, h2, h3, e1, n2, e2⟩ := ae_mth_ok hmt
  obtain ⟨N1, hN1, a1, a2, a3, a4, a5, a6, a7, a8, a9⟩ := ae_nk_ok n1
  obtain ⟨N2, hN2, b1, b2, b3, b4, b5, b6, b7, b8, b10⟩ := ae_nk_ok n2
  refine lv_aload_n (k := 1) hx hb (by decide +kernel) rfl (lv_at hl 1 rfl) ?_
  refine law_args hx hb hX hbl hS (lv_at hl 0 rfl) (lv_at hl 4 rfl) [1, 2, 3] 357 _ (by decide +kernel) ?_
  refine lv_aload_n (k := 3) hx hb (by decide +kernel) rfl (lv_at hl 3 rfl) ?_
  show W p l e room_1 s m #[Value.ref b] below meth c H locs ce sl Q (F0 m 376 ls [.ref o0, .int (xs 3), .int (xs 2), .int (xs 1), .ref x0])
  have hfree : ∀ q, va_A ws H.size q → ae_A s q := by
    intro q hq
    rcases hq with ⟨k, e0, hq⟩ | hq
    · exact hD.2 k (q, e0) hq
    · exact hA q (Nat.le_trans hS.1 hq)
  have hTH : ae_TT (va_A ws H.size) s H := hT.kept (fun a q1 q2 => hS.2.1 a q1 q2) hfree
  have hrn := vx_runSW (p := p) (l := l) (e := e) (R := room_1) (s := s) (m := m) (args := #[Value.ref b]) (below := below) (meth := meth) (c := c) (H := H) (locs := locs) (cells := ce) (slots := sl) (As := [.ref x0, .int (xs 1), .int (xs 2), .int (xs 3), .ref o0]) (rest := []) (own := RL) (Ts := ae_gw) (n := 5) (index := 48) (hh := [(0, 12, 15, 13)]) (bytes := cL_column) (maxL := 6) (ret := some .int) (g := F0 m 376 ls [.ref o0, .int (xs 3), .int (xs 2), .int (xs 1), .ref x0]) (cc := code) (nL := 7) ⟨hx, hb, hml, hown, hts⟩ (ae_hp4 htr (D := D) (kA := kA) (o0 := o0) has hlen hrun hcat (sz := H.size) hx0 hhr)
    (vx_cwSW 5 hts (ae_goodS (by decide +kernel) (by decide +kernel) (by decide +kernel) (by decide +kernel)) rfl rfl rfl ⟨by decide +kernel, by decide +kernel, by decide +kernel⟩ ⟨by decide, by decide⟩)
    ⟨ae_blindX, fun U hU hW => ⟨rfl, ⟨by rw [hU], by rw [hU]; exact hP, hD.weaken (fun _ _ _ _ => trivial), hKK.moved hW⟩, by rw [hU]; exact hTH.moved hW⟩⟩ rfl rfl hl.1 rfl (lv_room (Nat.le_of_ble_eq_true rfl)) (by show decode code 376 = .ok (.invokestatic 48, 3); decide +kernel) ⟨by show ce + 1 ≤ 600002; omega, by show sl + 6 ≤ 7302231; omega⟩
  refine ae_cont hrn hS hfree hfree (fun rv ws1 H1 locs1 g1 g2 g3 g4 g5 g6 => ?_)
  obtain ⟨y1, rfl, z1, rfl, rfl, hz1⟩ := g1
  have hD1 : va_D (ae_A s) ws1 := g5.weaken (fun _ q _ hq => hfree q.1 hq)
  refine lv_istore (i := 5) hx hb (by show decode code (376 + 3) = .ok (.istore 5, 2); decide +kernel) hl (by decide) (lv' := [(5, .int (nI 1)), (0, .ref b), (1, .ref x0), (2, .ref m0), (3, .ref o0), (4, .int 0)]) rfl (fun ls1 hl1 => ?_)
  refine lv_aload_n (k := 2) hx hb (by decide +kernel) rfl (lv_at hl1 3 rfl) ?_
  refine law_args hx hb hX hbl g6 (lv_at hl1 1 rfl) (lv_at hl1 5 rfl) [1, 2, 3] (376 + 3 + 2 + 1) _ (by decide +kernel) ?_
  show W p l e room_1 s m #[Value.ref b] below meth c H1 locs1 (ce + 1) (sl + 6) Q (F0 m 400 ls1 [.int (xs 3), .int (xs 2), .int (xs 1), .ref m0])
  have hrev1 : (as.reverse ++ [Sum.inr (Sum.inr (some 114))] : List ae_V).reverse = .inr (.inr (some 114)) :: as := by simp
  have hps1 : ae_sr (ae_ad ws1) (as.reverse ++ [.inr (.inr (some 114))]) [.int (xs 3), .int (xs 2), .int (xs 1), .ref m0] := ae_sr_app (ae_sr_rev (has _)) ⟨_, [], rfl, ⟨m0, g3 _ _ hm0, rfl⟩, rfl⟩
  have go1 := ae_callW (R := room_1) (ps := as.reverse ++ [.inr (.inr (some 114))]) (restC := []) (Q := Q) (l := l) (e := e) (below := below) (ce := ce + 1) (sl := sl + 6) (locs := locs1) (ls := ls1) (pc := 400) (vir := 1) (idx := 53) (z := 0) (kd := 1) (mj := 194) X rfl (by show decode code 400 = .ok (.invokevirtual 53, 3); decide +kernel) (by omega) rfl (Or.inl rfl) hN1 a2 a3 a4 (by rw [a5]; show ce + 1 + 0 ≤ 600002; omega) (by rw [a6]; show sl + 6 + 0 ≤ 7302231; omega) (by simp [a7, hlen]; rfl) (by decide) (by rw [hrev1]; exact a8) (by rw [hrev1]; exact a9) (by rw [hrev1]; exact ae_met e1) hl1.1 hps1 g2 g4 hD1 g6
  refine go1 (fun rv ws2 H2 locs2 r1 r2 r3 r4 r5 r6 => ?_)
  obtain ⟨y2, rfl, z2, rfl, rfl, hz2⟩ := r1
  rw [a5, a6]
  refine lv_istore (i := 6) hx hb (by show decode code (400 + 3) = .ok (.istore 6, 2); decide +kernel) hl1 (by decide) (lv' := [(6, .int (nI v)), (5, .int (nI 1)), (0, .ref b), (1, .ref x0), (2, .ref m0), (3, .ref o0), (4, .int 0)]) rfl (fun ls2 hl2 => ?_)
  refine lv_aload_n (k := 2) hx hb (by decide +kernel) rfl (lv_at hl2 4 rfl) ?_
  have hm2 : (ae_ad ws2)[114]? = some m0 := r3 _ _ (g3 _ _ hm0)
  have go2 := ae_callW (R := room_1) (ps := [.inr (.inr (some 114))]) (psC := [.ref m0]) (restC := []) (Q := Q) (l := l) (e := e) (below := below) (ce := ce + 1) (sl := sl + 6) (locs := locs2) (ls := ls2) (pc := 406) (vir := 1) (idx := 54) (z := 0) (kd := 1) (mj := 183) X rfl (by show decode code 406 = .ok (.invokevirtual 54, 3); decide +kernel) (by omega) rfl (Or.inl rfl) hN2 b2 b3 b4 (by rw [b5]; show ce + 1 + 0 ≤ 600002; omega) (by rw [b6]; show sl + 6 + 0 ≤ 7302231; omega) (by rw [b7]; rfl) (by decide) b8 b10 (ae_met e2) hl2.1 ⟨_, [], rfl, ⟨m0, hm2, rfl⟩, rfl⟩ r2 r4 r5 r6
  refine go2 (fun rv3 ws3 H3 locs3 t1 t2 t3 t4 t5 t6 => ?_)
  obtain ⟨y3, rfl, z3, rfl, rfl, hz3⟩ := t1
  rw [b5, b6]
  refine lv_iload (i := 5) hx hb (by show decode code (406 + 3) = .ok (.iload 5, 2); decide +kernel) (lv_at hl2 1 rfl) ?_
  refine lv_icmp_eq (off := 5) (tgt := 416) hx hb (by show decode code (406 + 3 + 2) = .ok (.if_icmp .eq 5, 3); decide +kernel) (by decide) (fun _ => ?_) (fun z => absurd rfl z)
  refine lv_iload (i := 5) hx hb (by show decode code 416 = .ok (.iload 5, 2); decide +kernel) (lv_at hl2 1 rfl) ?_
  refine lv_if_ne (off := 15) (tgt := 433) hx hb (by show decode code (416 + 2) = .ok (.ifCond .ne 15, 3); decide +kernel) (by decide) (fun _ => ?_) (fun z => absurd z (by decide))
  refine lv_goto (off := 921) (tgt := 1354) hx hb (by show decode code 433 = .ok (.goto 921, 3); decide +kernel) (by decide) ?_
  exact fin ls2 H3 locs3 ⟨hl2.1, hl2.2.1, fun q hq => hl2.2.2 q (List.mem_cons_of_mem _ (List.mem_cons_of_mem _ hq))⟩ t6
theorem law_op4 (S : ae_St p l e s m below meth c D kA b xs x0 m0 o0 ce sl ws H locs ls Q) (S2 : ae_St2 p l e s m below meth c b x0 m0 o0 ce sl Q) : W p l e room_1 s m #[Value.ref b] below meth c H locs ce sl Q (F0 m 356 ls []) := by
  have hz1 := ae_bi_lt (xs 1)
  have hz2 := ae_bi_lt (xs 2)
  have hz3 := ae_bi_lt (xs 3)
  rcases (show (0 ≤ ae_bi (xs 1) ∧ ae_bi (xs 1) ≤ 2147483647) ∨ (2147483648 ≤ ae_bi (xs 1) ∧ ae_bi (xs 1) ≤ 2147483655) ∨ (2147483656 ≤ ae_bi (xs 1) ∧ ae_bi (xs 1) ≤ 4294967295) by omega) with hq1 | hq1 | hq1
  · skip
    exact law_th4 S S2 (as := [.inl (.inr (0, 2147483647)), ae_top, ae_top]) rfl (fun ad => ae_sr_c (⟨_, rfl, by constructor <;> (show _ ≤ _) <;> omega⟩) (ae_sr_c (ae_vr_top _) (ae_sr_c (ae_vr_top _) (rfl)))) ae_p4_0 (by decide) ae_q4_0
  · skip
    rcases (show (0 ≤ ae_bi (xs 2) ∧ ae_bi (xs 2) ≤ 2147483647) ∨ (2147483648 ≤ ae_bi (xs 2) ∧ ae_bi (xs 2) ≤ 4294967295) by omega) with hq2 | hq2
    · skip
      rcases (show (0 ≤ ae_bi (xs 3) ∧ ae_bi (xs 3) ≤ 2147483648) ∨ (2147483649 ≤ ae_bi (xs 3) ∧ ae_bi (xs 3) ≤ 2147483668) ∨ (2147483669 ≤ ae_bi (xs 3) ∧ ae_bi (xs 3) ≤ 4294967295) by omega) with hq3 | hq3 | hq3
      · skip
        exact law_th4 S S2 (as := [.inl (.inr (2147483648, 2147483655)), .inl (.inr (0, 2147483647)), .inl (.inr (0, 2147483648))]) rfl (fun ad => ae_sr_c (⟨_, rfl, by constructor <;> (show _ ≤ _) <;> omega⟩) (ae_sr_c (⟨_, rfl, by constructor <;> (show _ ≤ _) <;> omega⟩) (ae_sr_c (⟨_, rfl, by constructor <;> (show _ ≤ _) <;> omega⟩) (rfl)))) ae_p4_1 (by decide) ae_q4_1
      · skip
        exact law_th4 S S2 (as := [.inl (.inr (2147483648, 2147483655)), .inl (.inr (0, 2147483647)), .inl (.inr (2147483649, 2147483668))]) rfl (fun ad => ae_sr_c (⟨_, rfl, by constructor <;> (show _ ≤ _) <;> omega⟩) (ae_sr_c (⟨_, rfl, by constructor <;> (show _ ≤ _) <;> omega⟩) (ae_sr_c (⟨_, rfl, by constructor <;> (show _ ≤ _) <;> omega⟩) (rfl)))) ae_p4_2 (by decide) ae_q4_2
      · skip
        exact law_th4 S S2 (as := [.inl (.inr (2147483648, 2147483655)), .inl (.inr (0, 2147483647)), .inl (.inr (2147483669, 4294967295))]) rfl (fun ad => ae_sr_c (⟨_, rfl, by constructor <;> (show _ ≤ _) <;> omega⟩) (ae_sr_c (⟨_, rfl, by constructor <;> (show _ ≤ _) <;> omega⟩) (ae_sr_c (⟨_, rfl, by constructor <;> (show _ ≤ _) <;> omega⟩) (rfl)))) ae_p4_3 (by decide) ae_q4_3
    · skip
      rcases (show (0 ≤ ae_bi (xs 3) ∧ ae_bi (xs 3) ≤ 2147483648) ∨ (2147483649 ≤ ae_bi (xs 3) ∧ ae_bi (xs 3) ≤ 2147483668) ∨ (2147483669 ≤ ae_bi (xs 3) ∧ ae_bi (xs 3) ≤ 4294967295) by omega) with hq3 | hq3 | hq3
      · skip
        exact law_th4 S S2 (as := [.inl (.inr (2147483648, 2147483655)), .inl (.inr (2147483648, 4294967295)), .inl (.inr (0, 2147483648))]) rfl (fun ad => ae_sr_c (⟨_, rfl, by constructor <;> (show _ ≤ _) <;> omega⟩) (ae_sr_c (⟨_, rfl, by constructor <;> (show _ ≤ _) <;> omega⟩) (ae_sr_c (⟨_, rfl, by constructor <;> (show _ ≤ _) <;> omega⟩) (rfl)))) ae_p4_4 (by decide) ae_q4_4
      · skip
        exact law_th4 S S2 (as := [.inl (.inr (2147483648, 2147483655)), .inl (.inr (2147483648, 4294967295)), .inl (.inr (2147483649, 2147483668))]) rfl (fun ad => ae_sr_c (⟨_, rfl, by constructor <;> (show _ ≤ _) <;> omega⟩) (ae_sr_c (⟨_, rfl, by constructor <;> (show _ ≤ _) <;> omega⟩) (ae_sr_c (⟨_, rfl, by constructor <;> (show _ ≤ _) <;> omega⟩) (rfl)))) ae_p4_5 (by decide) ae_q4_5
      · skip
        exact law_th4 S S2 (as := [.inl (.inr (2147483648, 2147483655)), .inl (.inr (2147483648, 4294967295)), .inl (.inr (2147483669, 4294967295))]) rfl (fun ad => ae_sr_c (⟨_, rfl, by constructor <;> (show _ ≤ _) <;> omega⟩) (ae_sr_c (⟨_, rfl, by constructor <;> (show _ ≤ _) <;> omega⟩) (ae_sr_c (⟨_, rfl, by constructor <;> (show _ ≤ _) <;> omega⟩) (rfl)))) ae_p4_6 (by decide) ae_q4_6
  · skip
    exact law_th4 S S2 (as := [.inl (.inr (2147483656, 4294967295)), ae_top, ae_top]) rfl (fun ad => ae_sr_c (⟨_, rfl, by constructor <;> (show _ ≤ _) <;> omega⟩) (ae_sr_c (ae_vr_top _) (ae_sr_c (ae_vr_top _) (rfl)))) ae_p4_7 (by decide) ae_q4_7
theorem law_th10 (S : ae_St p l e s m below meth c D kA b xs x0 m0 o0 ce sl ws H locs ls Q) (S2 : ae_St2 p l e s m below meth c b x0 m0 o0 ce sl Q) {as : List ae_V} (hlen : as.length = 2) (has : ∀ ad, ae_sr ad as [.int (xs 1), .int (xs 2)]) (hrun : ae_ends (ae_pfx 15 ae_Mc10 3000 0 0 0 (ae_args (.inr (.inr (some 0)) :: as) 0) [] ae_s0) ae_s0 = true) (hcat : ae_catS (.inr (.inr (some 0)) :: as) ≤ 3) (hmt : ae_mth 3000 228 183 as = true) : W p l e room_1 s m #[Value.ref b] below meth c H locs ce sl Q (F0 m 549 ls []) := by
  obtain ⟨X, hX, hbl, hl, hx0, hm0, ho0, hhr, hP, hD, hS, hce, hsl, -⟩ := S
  obtain ⟨htr, hT, fin⟩ := S2
  have X0 := X
  obtain ⟨hx, hb, hml, hown, hts, hKK, hA, -⟩ := X0
  obtain ⟨n1, v, h2, h3, e1, n2, e2⟩ := ae_mth_ok hmt
  obtain ⟨N1, hN1, a1, a2, a3, a4, a5, a6, a7, a8, a9⟩ := ae_nk_ok n1
  obtain ⟨N2, hN2, b1, b2, b3, b4, b5, b6, b7, b8, b10⟩ := ae_nk_ok n2
  refine lv_aload_n (k := 1) hx hb (by decide +kernel) rfl (lv_at hl 1 rfl) ?_
  refine law_args hx hb hX hbl hS (lv_at hl 0 rfl) (lv_at hl 4 rfl) [1, 2] 550 _ (by decide +kernel) ?_
  refine lv_aload_n (k := 3) hx hb (by decide +kernel) rfl (lv_at hl 3 rfl) ?_
  show W p l e room_1 s m #[Value.ref b] below meth c H locs ce sl Q (F0 m 563 ls [.ref o0, .int (xs 2), .int (xs 1), .ref x0])
  have hfree : ∀ q, va_A ws H.size q → ae_A s q := by
    intro q hq
    rcases hq with ⟨k, e0, hq⟩ | hq
    · exact hD.2 k (q, e0) hq
    · exact hA q (Nat.le_trans hS.1 hq)
  have hTH : ae_TT (va_A ws H.size) s H := hT.kept (fun a q1 q2 => hS.2.1 a q1 q2) hfree
  have hrn := vx_runSW (p := p) (l := l) (e := e) (R := room_1) (s := s) (m := m) (args := #[Value.ref b]) (below := below) (meth := meth) (c := c) (H := H) (locs := locs) (cells := ce) (slots := sl) (As := [.ref x0, .int (xs 1), .int (xs 2), .ref o0]) (rest := []) (own := RL) (Ts := ae_gw) (n := 4) (index := 78) (hh := [(0, 10, 13, 13)]) (bytes := cL_bar) (maxL := 5) (ret := some .int) (g := F0 m 563 ls [.ref o0, .int (xs 2), .int (xs 1), .ref x0]) (cc := code) (nL := 7) ⟨hx, hb, hml, hown, hts⟩ (ae_hp10 htr (D := D) (kA := kA) (o0 := o0) has hlen hrun hcat (sz := H.size) hx0 hhr)
    (vx_cwSW 4 hts (ae_goodS (by decide +kernel) (by decide +kernel) (by decide +kernel) (by decide +kernel)) rfl rfl rfl ⟨by decide +kernel, by decide +kernel, by decide +kernel⟩ ⟨by decide, by decide⟩)
    ⟨ae_blindX, fun U hU hW => ⟨rfl, ⟨by rw [hU], by rw [hU]; exact hP, hD.weaken (fun _ _ _ _ => trivial), hKK.moved hW⟩, by rw [hU]; exact hTH.moved hW⟩⟩ rfl rfl hl.1 rfl (lv_room (Nat.le_of_ble_eq_true rfl)) (by show decode code 563 = .ok (.invokestatic 78, 3); decide +kernel) ⟨by show ce + 1 ≤ 600002; omega, by show sl + 6 ≤ 7302231; omega⟩
  refine ae_cont hrn hS hfree hfree (fun rv ws1 H1 locs1 g1 g2 g3 g4 g5 g6 => ?_)
  obtain ⟨y1, rfl, z1, rfl, rfl, hz1⟩ := g1
  have hD1 : va_D (ae_A s) ws1 := g5.weaken (fun _ q _ hq => hfree q.1 hq)
  refine lv_istore (i := 5) hx hb (by show decode code (563 + 3) = .ok (.istore 5, 2); decide +kernel) hl (by decide) (lv' := [(5, .int (nI 1)), (0, .ref b), (1, .ref x0), (2, .ref m0), (3, .ref o0), (4, .int 0)]) rfl (fun ls1 hl1 => ?_)
  refine lv_aload_n (k := 2) hx hb (by decide +kernel) rfl (lv_at hl1 3 rfl) ?_
  refine law_args hx hb hX hbl g6 (lv_at hl1 1 rfl) (lv_at hl1 5 rfl) [1, 2] (563 + 3 + 2 + 1) _ (by decide +kernel) ?_
  show W p l e room_1 s m #[Value.ref b] below meth c H1 locs1 (ce + 1) (sl + 6) Q (F0 m 581 ls1 [.int (xs 2), .int (xs 1), .ref m0])
  have hrev1 : (as.reverse ++ [Sum.inr (Sum.inr (some 114))] : List ae_V).reverse = .inr (.inr (some 114)) :: as := by simp
  have hps1 : ae_sr (ae_ad ws1) (as.reverse ++ [.inr (.inr (some 114))]) [.int (xs 2), .int (xs 1), .ref m0] := ae_sr_app (ae_sr_rev (has _)) ⟨_, [], rfl, ⟨m0, g3 _ _ hm0, rfl⟩, rfl⟩
  have go1 := ae_callW (R := room_1) (ps := as.reverse ++ [.inr (.inr (some 114))]) (restC := []) (Q := Q) (l := l) (e := e) (below := below) (ce := ce + 1) (sl := sl + 6) (locs := locs1) (ls := ls1) (pc := 581) (vir := 1) (idx := 81) (z := 0) (kd := 1) (mj := 228) X rfl (by show decode code 581 = .ok (.invokevirtual 81, 3); decide +kernel) (by omega) rfl (Or.inl rfl) hN1 a2 a3 a4 (by rw [a5]; show ce + 1 + 0 ≤ 600002; omega) (by rw [a6]; show sl + 6 + 0 ≤ 7302231; omega) (by simp [a7, hlen]; rfl) (by decide) (by rw [hrev1]; exact a8) (by rw [hrev1]; exact a9) (by rw [hrev1]; exact ae_met e1) hl1.1 hps1 g2 g4 hD1 g6
  refine go1 (fun rv ws2 H2 locs2 r1 r2 r3 r4 r5 r6 => ?_)
  obtain ⟨y2, rfl, z2, rfl, rfl, hz2⟩ := r1
  rw [a5, a6]
  refine lv_istore (i := 6) hx hb (by show decode code (581 + 3) = .ok (.istore 6, 2); decide +kernel) hl1 (by decide) (lv' := [(6, .int (nI v)), (5, .int (nI 1)), (0, .ref b), (1, .ref x0), (2, .ref m0), (3, .ref o0), (4, .int 0)]) rfl (fun ls2 hl2 => ?_)
  refine lv_aload_n (k := 2) hx hb (by decide +kernel) rfl (lv_at hl2 4 rfl) ?_
  have hm2 : (ae_ad ws2)[114]? = some m0 := r3 _ _ (g3 _ _ hm0)
  have go2 := ae_callW (R := room_1) (ps := [.inr (.inr (some 114))]) (psC := [.ref m0]) (restC := []) (Q := Q) (l := l) (e := e) (below := below) (ce := ce + 1) (sl := sl + 6) (locs := locs2) (ls := ls2) (pc := 587) (vir := 1) (idx := 54) (z := 0) (kd := 1) (mj := 183) X rfl (by show decode code 587 = .ok (.invokevirtual 54, 3); decide +kernel) (by omega) rfl (Or.inl rfl) hN2 b2 b3 b4 (by rw [b5]; show ce + 1 + 0 ≤ 600002; omega) (by rw [b6]; show sl + 6 + 0 ≤ 7302231; omega) (by rw [b7]; rfl) (by decide) b8 b10 (ae_met e2) hl2.1 ⟨_, [], rfl, ⟨m0, hm2, rfl⟩, rfl⟩ r2 r4 r5 r6
  refine go2 (fun rv3 ws3 H3 locs3 t1 t2 t3 t4 t5 t6 => ?_)
  obtain ⟨y3, rfl, z3, rfl, rfl, hz3⟩ := t1
  rw [b5, b6]
  refine lv_iload (i := 5) hx hb (by show decode code (587 + 3) = .ok (.iload 5, 2); decide +kernel) (lv_at hl2 1 rfl) ?_
  refine lv_icmp_eq (off := 5) (tgt := 597) hx hb (by show decode code (587 + 3 + 2) = .ok (.if_icmp .eq 5, 3); decide +kernel) (by decide) (fun _ => ?_) (fun z => absurd rfl z)
  refine lv_iload (i := 5) hx hb (by show decode code 597 = .ok (.iload 5, 2); decide +kernel) (lv_at hl2 1 rfl) ?_
  refine lv_if_ne (off := 15) (tgt := 614) hx hb (by show decode code (597 + 2) = .ok (.ifCond .ne 15, 3); decide +kernel) (by decide) (fun _ => ?_) (fun z => absurd z (by decide))
  refine lv_goto (off := 740) (tgt := 1354) hx hb (by show decode code 614 = .ok (.goto 740, 3); decide +kernel) (by decide) ?_
  exact fin ls2 H3 locs3 ⟨hl2.1, hl2.2.1, fun q hq => hl2.2.2 q (List.mem_cons_of_mem _ (List.mem_cons_of_mem _ hq))⟩ t6
theorem law_op10 (S : ae_St p l e s m below meth c D kA b xs x0 m0 o0 ce sl ws H locs ls Q) (S2 : ae_St2 p l e s m below meth c b x0 m0 o0 ce sl Q) : W p l e room_1 s m #[Value.ref b] below meth c H locs ce sl Q (F0 m 549 ls []) := by
  have hz1 := ae_bi_lt (xs 1)
  have hz2 := ae_bi_lt (xs 2)
  rcases (show (0 ≤ ae_bi (xs 1) ∧ ae_bi (xs 1) ≤ 2147483647) ∨ (2147483648 ≤ ae_bi (xs 1) ∧ ae_bi (xs 1) ≤ 4294967295) by omega) with hq1 | hq1
  · skip
    exact law_th10 S S2 (as := [.inl (.inr (0, 2147483647)), ae_top]) rfl (fun ad => ae_sr_c (⟨_, rfl, by constructor <;> (show _ ≤ _) <;> omega⟩) (ae_sr_c (ae_vr_top _) (rfl))) ae_p10_0 (by decide) ae_q10_0
  · skip
    exact law_th10 S S2 (as := [.inl (.inr (2147483648, 4294967295)), ae_top]) rfl (fun ad => ae_sr_c (⟨_, rfl, by constructor <;> (show _ ≤ _) <;> omega⟩) (ae_sr_c (ae_vr_top _) (rfl))) ae_p10_1 (by decide) ae_q10_1
theorem law_th11 (S : ae_St p l e s m below meth c D kA b xs x0 m0 o0 ce sl ws H locs ls Q) (S2 : ae_St2 p l e s m below meth c b x0 m0 o0 ce sl Q) {as : List ae_V} (hlen : as.length = 1) (has : ∀ ad, ae_sr ad as [.int (xs 1)]) (hrun : ae_ends (ae_pfx 17 ae_Mc11 3000 0 0 0 (ae_args (.inr (.inr (some 0)) :: as) 0) [] ae_s0) ae_s0 = true) (hcat : ae_catS (.inr (.inr (some 0)) :: as) ≤ 2) (hmt : ae_mth 3000 229 183 as = true) : W p l e room_1 s m #[Value.ref b] below meth c H locs ce sl Q (F0 m 617 ls []) := by
  obtain ⟨X, hX, hbl, hl, hx0, hm0, ho0, hhr, hP, hD, hS, hce, hsl, -⟩ := S
  obtain ⟨htr, hT, fin⟩ := S2
  have X0 := X
  obtain ⟨hx, hb, hml, hown, hts, hKK, hA, -⟩ := X0
  obtain ⟨n1, v, h2, h3, e1, n2, e2⟩ := ae_mth_ok hmt
  obtain ⟨N1, hN1, a1, a2, a3, a4, a5, a6, a7, a8, a9⟩ := ae_nk_ok n1
  obtain ⟨N2, hN2, b1, b2, b3, b4, b5, b6, b7, b8, b10⟩ := ae_nk_ok n2
  refine lv_aload_n (k := 1) hx hb (by decide +kernel) rfl (lv_at hl 1 rfl) ?_
  refine law_args hx hb hX hbl hS (lv_at hl 0 rfl) (lv_at hl 4 rfl) [1] 618 _ (by decide +kernel) ?_
  refine lv_aload_n (k := 3) hx hb (by decide +kernel) rfl (lv_at hl 3 rfl) ?_
  show W p l e room_1 s m #[Value.ref b] below meth c H locs ce sl Q (F0 m 625 ls [.ref o0, .int (xs 1), .ref x0])
  have hfree : ∀ q, va_A ws H.size q → ae_A s q := by
    intro q hq
    rcases hq with ⟨k, e0, hq⟩ | hq
    · exact hD.2 k (q, e0) hq
    · exact hA q (Nat.le_trans hS.1 hq)
  have hTH : ae_TT (va_A ws H.size) s H := hT.kept (fun a q1 q2 => hS.2.1 a q1 q2) hfree
  have hrn := vx_runSW (p := p) (l := l) (e := e) (R := room_1) (s := s) (m := m) (args := #[Value.ref b]) (below := below) (meth := meth) (c := c) (H := H) (locs := locs) (cells := ce) (slots := sl) (As := [.ref x0, .int (xs 1), .ref o0]) (rest := []) (own := RL) (Ts := ae_gw) (n := 3) (index := 82) (hh := [(0, 9, 12, 13)]) (bytes := cL_wheel) (maxL := 4) (ret := some .int) (g := F0 m 625 ls [.ref o0, .int (xs 1), .ref x0]) (cc := code) (nL := 7) ⟨hx, hb, hml, hown, hts⟩ (ae_hp11 htr (D := D) (kA := kA) (o0 := o0) has hlen hrun hcat (sz := H.size) hx0 hhr)
    (vx_cwSW 3 hts (ae_goodS (by decide +kernel) (by decide +kernel) (by decide +kernel) (by decide +kernel)) rfl rfl rfl ⟨by decide +kernel, by decide +kernel, by decide +kernel⟩ ⟨by decide, by decide⟩)
    ⟨ae_blindX, fun U hU hW => ⟨rfl, ⟨by rw [hU], by rw [hU]; exact hP, hD.weaken (fun _ _ _ _ => trivial), hKK.moved hW⟩, by rw [hU]; exact hTH.moved hW⟩⟩ rfl rfl hl.1 rfl (lv_room (Nat.le_of_ble_eq_true rfl)) (by show decode code 625 = .ok (.invokestatic 82, 3); decide +kernel) ⟨by show ce + 1 ≤ 600002; omega, by show sl + 6 ≤ 7302231; omega⟩
  refine ae_cont hrn hS hfree hfree (fun rv ws1 H1 locs1 g1 g2 g3 g4 g5 g6 => ?_)
  obtain ⟨y1, rfl, z1, rfl, rfl, hz1⟩ := g1
  have hD1 : va_D (ae_A s) ws1 := g5.weaken (fun _ q _ hq => hfree q.1 hq)
  refine lv_istore (i := 5) hx hb (by show decode code (625 + 3) = .ok (.istore 5, 2); decide +kernel) hl (by decide) (lv' := [(5, .int (nI 1)), (0, .ref b), (1, .ref x0), (2, .ref m0), (3, .ref o0), (4, .int 0)]) rfl (fun ls1 hl1 => ?_)
  refine lv_aload_n (k := 2) hx hb (by decide +kernel) rfl (lv_at hl1 3 rfl) ?_
  refine law_args hx hb hX hbl g6 (lv_at hl1 1 rfl) (lv_at hl1 5 rfl) [1] (625 + 3 + 2 + 1) _ (by decide +kernel) ?_
  show W p l e room_1 s m #[Value.ref b] below meth c H1 locs1 (ce + 1) (sl + 6) Q (F0 m 637 ls1 [.int (xs 1), .ref m0])
  have hrev1 : (as.reverse ++ [Sum.inr (Sum.inr (some 114))] : List ae_V).reverse = .inr (.inr (some 114)) :: as := by simp
  have hps1 : ae_sr (ae_ad ws1) (as.reverse ++ [.inr (.inr (some 114))]) [.int (xs 1), .ref m0] := ae_sr_app (ae_sr_rev (has _)) ⟨_, [], rfl, ⟨m0, g3 _ _ hm0, rfl⟩, rfl⟩
  have go1 := ae_callW (R := room_1) (ps := as.reverse ++ [.inr (.inr (some 114))]) (restC := []) (Q := Q) (l := l) (e := e) (below := below) (ce := ce + 1) (sl := sl + 6) (locs := locs1) (ls := ls1) (pc := 637) (vir := 1) (idx := 85) (z := 0) (kd := 1) (mj := 229) X rfl (by show decode code 637 = .ok (.invokevirtual 85, 3); decide +kernel) (by omega) rfl (Or.inl rfl) hN1 a2 a3 a4 (by rw [a5]; show ce + 1 + 0 ≤ 600002; omega) (by rw [a6]; show sl + 6 + 0 ≤ 7302231; omega) (by simp [a7, hlen]; rfl) (by decide) (by rw [hrev1]; exact a8) (by rw [hrev1]; exact a9) (by rw [hrev1]; exact ae_met e1) hl1.1 hps1 g2 g4 hD1 g6
  refine go1 (fun rv ws2 H2 locs2 r1 r2 r3 r4 r5 r6 => ?_)
  obtain ⟨y2, rfl, z2, rfl, rfl, hz2⟩ := r1
  rw [a5, a6]
  refine lv_istore (i := 6) hx hb (by show decode code (637 + 3) = .ok (.istore 6, 2); decide +kernel) hl1 (by decide) (lv' := [(6, .int (nI v)), (5, .int (nI 1)), (0, .ref b), (1, .ref x0), (2, .ref m0), (3, .ref o0), (4, .int 0)]) rfl (fun ls2 hl2 => ?_)
  refine lv_aload_n (k := 2) hx hb (by decide +kernel) rfl (lv_at hl2 4 rfl) ?_
  have hm2 : (ae_ad ws2)[114]? = some m0 := r3 _ _ (g3 _ _ hm0)
  have go2 := ae_callW (R := room_1) (ps := [.inr (.inr (some 114))]) (psC := [.ref m0]) (restC := []) (Q := Q) (l := l) (e := e) (below := below) (ce := ce + 1) (sl := sl + 6) (locs := locs2) (ls := ls2) (pc := 643) (vir := 1) (idx := 54) (z := 0) (kd := 1) (mj := 183) X rfl (by show decode code 643 = .ok (.invokevirtual 54, 3); decide +kernel) (by omega) rfl (Or.inl rfl) hN2 b2 b3 b4 (by rw [b5]; show ce + 1 + 0 ≤ 600002; omega) (by rw [b6]; show sl + 6 + 0 ≤ 7302231; omega) (by rw [b7]; rfl) (by decide) b8 b10 (ae_met e2) hl2.1 ⟨_, [], rfl, ⟨m0, hm2, rfl⟩, rfl⟩ r2 r4 r5 r6
  refine go2 (fun rv3 ws3 H3 locs3 t1 t2 t3 t4 t5 t6 => ?_)
  obtain ⟨y3, rfl, z3, rfl, rfl, hz3⟩ := t1
  rw [b5, b6]
  refine lv_iload (i := 5) hx hb (by show decode code (643 + 3) = .ok (.iload 5, 2); decide +kernel) (lv_at hl2 1 rfl) ?_
  refine lv_icmp_eq (off := 5) (tgt := 653) hx hb (by show decode code (643 + 3 + 2) = .ok (.if_icmp .eq 5, 3); decide +kernel) (by decide) (fun _ => ?_) (fun z => absurd rfl z)
  refine lv_iload (i := 5) hx hb (by show decode code 653 = .ok (.iload 5, 2); decide +kernel) (lv_at hl2 1 rfl) ?_
  refine lv_if_ne (off := 15) (tgt := 670) hx hb (by show decode code (653 + 2) = .ok (.ifCond .ne 15, 3); decide +kernel) (by decide) (fun _ => ?_) (fun z => absurd z (by decide))
  refine lv_goto (off := 684) (tgt := 1354) hx hb (by show decode code 670 = .ok (.goto 684, 3); decide +kernel) (by decide) ?_
  exact fin ls2 H3 locs3 ⟨hl2.1, hl2.2.1, fun q hq => hl2.2.2 q (List.mem_cons_of_mem _ (List.mem_cons_of_mem _ hq))⟩ t6
theorem law_op11 (S : ae_St p l e s m below meth c D kA b xs x0 m0 o0 ce sl ws H locs ls Q) (S2 : ae_St2 p l e s m below meth c b x0 m0 o0 ce sl Q) : W p l e room_1 s m #[Value.ref b] below meth c H locs ce sl Q (F0 m 617 ls []) := by
  have hz1 := ae_bi_lt (xs 1)
  exact law_th11 S S2 (as := [ae_top]) rfl (fun ad => ae_sr_c (ae_vr_top _) (rfl)) ae_p11_0 (by decide) ae_q11_0
theorem law_th24 (S : ae_St p l e s m below meth c D kA b xs x0 m0 o0 ce sl ws H locs ls Q) (S2 : ae_St2 p l e s m below meth c b x0 m0 o0 ce sl Q) {as : List ae_V} (hlen : as.length = 2) (has : ∀ ad, ae_sr ad as [.int (xs 1), .int (xs 2)]) (hrun : ae_ends (ae_pfx 12 ae_Mc24 3000 0 0 0 (ae_args (.inr (.inr (some 0)) :: as) 0) [] ae_s0) ae_s0 = true) (hcat : ae_catS (.inr (.inr (some 0)) :: as) ≤ 3) (hmt : ae_mth 3000 271 183 as = true) : W p l e room_1 s m #[Value.ref b] below meth c H locs ce sl Q (F0 m 949 ls []) := by
  obtain ⟨X, hX, hbl, hl, hx0, hm0, ho0, hhr, hP, hD, hS, hce, hsl, -⟩ := S
  obtain ⟨htr, hT, fin⟩ := S2
  have X0 := X
  obtain ⟨hx, hb, hml, hown, hts, hKK, hA, -⟩ := X0
  obtain ⟨n1, v, h2, h3, e1, n2, e2⟩ := ae_mth_ok hmt
  obtain ⟨N1, hN1, a1, a2, a3, a4, a5, a6, a7, a8, a9⟩ := ae_nk_ok n1
  obtain ⟨N2, hN2, b1, b2, b3, b4, b5, b6, b7, b8, b10⟩ := ae_nk_ok n2
  refine lv_aload_n (k := 1) hx hb (by decide +kernel) rfl (lv_at hl 1 rfl) ?_
  refine law_args hx hb hX hbl hS (lv_at hl 0 rfl) (lv_at hl 4 rfl) [1, 2] 950 _ (by decide +kernel) ?_
  refine lv_aload_n (k := 3) hx hb (by decide +kernel) rfl (lv_at hl 3 rfl) ?_
  show W p l e room_1 s m #[Value.ref b] below meth c H locs ce sl Q (F0 m 963 ls [.ref o0, .int (xs 2), .int (xs 1), .ref x0])
  have hfree : ∀ q, va_A ws H.size q → ae_A s q := by
    intro q hq
    rcases hq with ⟨k, e0, hq⟩ | hq
    · exact hD.2 k (q, e0) hq
    · exact hA q (Nat.le_trans hS.1 hq)
  have hTH : ae_TT (va_A ws H.size) s H := hT.kept (fun a q1 q2 => hS.2.1 a q1 q2) hfree
  have hrn := vx_runSW (p := p) (l := l) (e := e) (R := room_1) (s := s) (m := m) (args := #[Value.ref b]) (below := below) (meth := meth) (c := c) (H := H) (locs := locs) (cells := ce) (slots := sl) (As := [.ref x0, .int (xs 1), .int (xs 2), .ref o0]) (rest := []) (own := RL) (Ts := ae_gw) (n := 4) (index := 135) (hh := [(0, 10, 13, 13)]) (bytes := cL_wantedAt) (maxL := 5) (ret := some .int) (g := F0 m 963 ls [.ref o0, .int (xs 2), .int (xs 1), .ref x0]) (cc := code) (nL := 7) ⟨hx, hb, hml, hown, hts⟩ (ae_hp24 htr (D := D) (kA := kA) (o0 := o0) has hlen hrun hcat (sz := H.size) hx0 hhr)
    (vx_cwSW 4 hts (ae_goodS (by decide +kernel) (by decide +kernel) (by decide +kernel) (by decide +kernel)) rfl rfl rfl ⟨by decide +kernel, by decide +kernel, by decide +kernel⟩ ⟨by decide, by decide⟩)
    ⟨ae_blindX, fun U hU hW => ⟨rfl, ⟨by rw [hU], by rw [hU]; exact hP, hD.weaken (fun _ _ _ _ => trivial), hKK.moved hW⟩, by rw [hU]; exact hTH.moved hW⟩⟩ rfl rfl hl.1 rfl (lv_room (Nat.le_of_ble_eq_true rfl)) (by show decode code 963 = .ok (.invokestatic 135, 3); decide +kernel) ⟨by show ce + 1 ≤ 600002; omega, by show sl + 6 ≤ 7302231; omega⟩
  refine ae_cont hrn hS hfree hfree (fun rv ws1 H1 locs1 g1 g2 g3 g4 g5 g6 => ?_)
  obtain ⟨y1, rfl, z1, rfl, rfl, hz1⟩ := g1
  have hD1 : va_D (ae_A s) ws1 := g5.weaken (fun _ q _ hq => hfree q.1 hq)
  refine lv_istore (i := 5) hx hb (by show decode code (963 + 3) = .ok (.istore 5, 2); decide +kernel) hl (by decide) (lv' := [(5, .int (nI 1)), (0, .ref b), (1, .ref x0), (2, .ref m0), (3, .ref o0), (4, .int 0)]) rfl (fun ls1 hl1 => ?_)
  refine lv_aload_n (k := 2) hx hb (by decide +kernel) rfl (lv_at hl1 3 rfl) ?_
  refine law_args hx hb hX hbl g6 (lv_at hl1 1 rfl) (lv_at hl1 5 rfl) [1, 2] (963 + 3 + 2 + 1) _ (by decide +kernel) ?_
  show W p l e room_1 s m #[Value.ref b] below meth c H1 locs1 (ce + 1) (sl + 6) Q (F0 m 981 ls1 [.int (xs 2), .int (xs 1), .ref m0])
  have hrev1 : (as.reverse ++ [Sum.inr (Sum.inr (some 114))] : List ae_V).reverse = .inr (.inr (some 114)) :: as := by simp
  have hps1 : ae_sr (ae_ad ws1) (as.reverse ++ [.inr (.inr (some 114))]) [.int (xs 2), .int (xs 1), .ref m0] := ae_sr_app (ae_sr_rev (has _)) ⟨_, [], rfl, ⟨m0, g3 _ _ hm0, rfl⟩, rfl⟩
  have go1 := ae_callW (R := room_1) (ps := as.reverse ++ [.inr (.inr (some 114))]) (restC := []) (Q := Q) (l := l) (e := e) (below := below) (ce := ce + 1) (sl := sl + 6) (locs := locs1) (ls := ls1) (pc := 981) (vir := 1) (idx := 137) (z := 0) (kd := 1) (mj := 271) X rfl (by show decode code 981 = .ok (.invokevirtual 137, 3); decide +kernel) (by omega) rfl (Or.inl rfl) hN1 a2 a3 a4 (by rw [a5]; show ce + 1 + 0 ≤ 600002; omega) (by rw [a6]; show sl + 6 + 0 ≤ 7302231; omega) (by simp [a7, hlen]; rfl) (by decide) (by rw [hrev1]; exact a8) (by rw [hrev1]; exact a9) (by rw [hrev1]; exact ae_met e1) hl1.1 hps1 g2 g4 hD1 g6
  refine go1 (fun rv ws2 H2 locs2 r1 r2 r3 r4 r5 r6 => ?_)
  obtain ⟨y2, rfl, z2, rfl, rfl, hz2⟩ := r1
  rw [a5, a6]
  refine lv_istore (i := 6) hx hb (by show decode code (981 + 3) = .ok (.istore 6, 2); decide +kernel) hl1 (by decide) (lv' := [(6, .int (nI v)), (5, .int (nI 1)), (0, .ref b), (1, .ref x0), (2, .ref m0), (3, .ref o0), (4, .int 0)]) rfl (fun ls2 hl2 => ?_)
  refine lv_aload_n (k := 2) hx hb (by decide +kernel) rfl (lv_at hl2 4 rfl) ?_
  have hm2 : (ae_ad ws2)[114]? = some m0 := r3 _ _ (g3 _ _ hm0)
  have go2 := ae_callW (R := room_1) (ps := [.inr (.inr (some 114))]) (psC := [.ref m0]) (restC := []) (Q := Q) (l := l) (e := e) (below := below) (ce := ce + 1) (sl := sl + 6) (locs := locs2) (ls := ls2) (pc := 987) (vir := 1) (idx := 54) (z := 0) (kd := 1) (mj := 183) X rfl (by show decode code 987 = .ok (.invokevirtual 54, 3); decide +kernel) (by omega) rfl (Or.inl rfl) hN2 b2 b3 b4 (by rw [b5]; show ce + 1 + 0 ≤ 600002; omega) (by rw [b6]; show sl + 6 + 0 ≤ 7302231; omega) (by rw [b7]; rfl) (by decide) b8 b10 (ae_met e2) hl2.1 ⟨_, [], rfl, ⟨m0, hm2, rfl⟩, rfl⟩ r2 r4 r5 r6
  refine go2 (fun rv3 ws3 H3 locs3 t1 t2 t3 t4 t5 t6 => ?_)
  obtain ⟨y3, rfl, z3, rfl, rfl, hz3⟩ := t1
  rw [b5, b6]
  refine lv_iload (i := 5) hx hb (by show decode code (987 + 3) = .ok (.iload 5, 2); decide +kernel) (lv_at hl2 1 rfl) ?_
  refine lv_icmp_eq (off := 5) (tgt := 997) hx hb (by show decode code (987 + 3 + 2) = .ok (.if_icmp .eq 5, 3); decide +kernel) (by decide) (fun _ => ?_) (fun z => absurd rfl z)
  refine lv_iload (i := 5) hx hb (by show decode code 997 = .ok (.iload 5, 2); decide +kernel) (lv_at hl2 1 rfl) ?_
  refine lv_if_ne (off := 15) (tgt := 1014) hx hb (by show decode code (997 + 2) = .ok (.ifCond .ne 15, 3); decide +kernel) (by decide) (fun _ => ?_) (fun z => absurd z (by decide))
  refine lv_goto (off := 340) (tgt := 1354) hx hb (by show decode code 1014 = .ok (.goto 340, 3); decide +kernel) (by decide) ?_
  exact fin ls2 H3 locs3 ⟨hl2.1, hl2.2.1, fun q hq => hl2.2.2 q (List.mem_cons_of_mem _ (List.mem_cons_of_mem _ hq))⟩ t6
theorem law_op24 (S : ae_St p l e s m below meth c D kA b xs x0 m0 o0 ce sl ws H locs ls Q) (S2 : ae_St2 p l e s m below meth c b x0 m0 o0 ce sl Q) : W p l e room_1 s m #[Value.ref b] below meth c H locs ce sl Q (F0 m 949 ls []) := by
  have hz1 := ae_bi_lt (xs 1)
  have hz2 := ae_bi_lt (xs 2)
  rcases (show (0 ≤ ae_bi (xs 1) ∧ ae_bi (xs 1) ≤ 2147483647) ∨ (2147483648 ≤ ae_bi (xs 1) ∧ ae_bi (xs 1) ≤ 4294967295) by omega) with hq1 | hq1
  · skip
    exact law_th24 S S2 (as := [.inl (.inr (0, 2147483647)), ae_top]) rfl (fun ad => ae_sr_c (⟨_, rfl, by constructor <;> (show _ ≤ _) <;> omega⟩) (ae_sr_c (ae_vr_top _) (rfl))) ae_p24_0 (by decide) ae_q24_0
  · skip
    exact law_th24 S S2 (as := [.inl (.inr (2147483648, 4294967295)), ae_top]) rfl (fun ad => ae_sr_c (⟨_, rfl, by constructor <;> (show _ ≤ _) <;> omega⟩) (ae_sr_c (ae_vr_top _) (rfl))) ae_p24_1 (by decide) ae_q24_1
end
