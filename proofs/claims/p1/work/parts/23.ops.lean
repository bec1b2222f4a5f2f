def ae_St (p : Program) (l : Launch) (e : Env) (s : State) (m : MethodId) (below : List Frame) (meth : Method) (c : Code) (D : va_G) (kA : Nat → ClassId) (b : Nat) (xs : Nat → Int32) (x0 m0 o0 ce sl : Nat) (ws : va_W) (H : Heap) (locs : List Loc) (ls : Array Slot) (Q : State → Prop) : Prop :=
  ae_Cx p s m #[Value.ref b] meth c D kA (ae_A s) ae_Ml ∧ va_X b 6 xs s s.heap ∧ b < s.heap.size ∧ lv_has ls 7 [(0, .ref b), (1, .ref x0), (2, .ref m0), (3, .ref o0), (4, .int 0)] ∧ (ae_ad ws)[0]? = some x0 ∧ (ae_ad ws)[114]? = some m0 ∧ (ae_ad ws)[174]? = some o0 ∧ ae_hr kA ws ae_s0 ∧ va_P D ae_cl ws H ∧ va_D (ae_A s) ws ∧ va_S (ae_A s) s.heap H locs ∧ ce ≤ 600000 ∧ sl ≤ 7302000 ∧
  (∀ (H1 : Heap) (locs1 : List Loc), va_S (ae_A s) s.heap H1 locs1 → W p l e room_1 s m #[Value.ref b] below meth c H1 locs1 ce sl Q (F0 m 1354 ls []))
theorem ae_kn {X : Int32} (i : Nat) (h : ae_bi X = 2147483648 + i) (hi : i < 2147483648) : ae_ir (.inl i) X := by
  refine ⟨ae_bi_inj ?_, by omega⟩
  rw [h, ae_bi_nI]
  show _ = (i + 2147483648) % 4294967296
  omega
section
variable {p : Program} {l : Launch} {e : Env} {s : State} {m : MethodId} {below : List Frame} {meth : Method} {c : Code} {D : va_G} {kA : Nat → ClassId} {ce sl : Nat} {ws : va_W} {H : Heap} {locs : List Loc} {ls : Array Slot} {b x0 m0 o0 : Nat} {xs : Nat → Int32} {Q : State → Prop}
theorem law_brS (S : ae_St p l e s m below meth c D kA b xs x0 m0 o0 ce sl ws H locs ls Q) {pc n a b9 iA iB P1 P2 P3 : Nat} {ks : List Nat} {as : List ae_V} (hck : ae_bk pc ks iA iB P1 P2 P3 = true) (hcA : ae_cp 17 iA = some (1, a, 0)) (hcB : ae_cp 17 iB = some (1, b9, 0)) (hlen : as.length = ks.length) (has : ∀ ad, ae_sr ad as (ks.map (fun k => Value.int (xs k)))) (htwo : ae_two n a b9 as = true) : W p l e room_1 s m #[Value.ref b] below meth c H locs ce sl Q (F0 m pc ls []) := by
  obtain ⟨X, hX, hbl, hl, hx0, hm0, -, hhr, hP, hD, hS, hce, hsl, fin⟩ := S
  exact law_br X hX hbl hl.1 (lv_at hl 0 rfl) (lv_at hl 1 rfl) (lv_at hl 2 rfl) (lv_at hl 4 rfl) hx0 hm0 hhr hP hD hS (by omega) (by omega) hck hcA hcB hlen has htwo fin
theorem law_ck0 : ae_bk 208 [1, 2, 3, 4, 5] 30 34 239 243 273 = true := by decide +kernel
theorem law_op0 (S : ae_St p l e s m below meth c D kA b xs x0 m0 o0 ce sl ws H locs ls Q) : W p l e room_1 s m #[Value.ref b] below meth c H locs ce sl Q (F0 m 208 ls []) := by
  have hz1 := ae_bi_lt (xs 1)
  have hz2 := ae_bi_lt (xs 2)
  have hz3 := ae_bi_lt (xs 3)
  have hz4 := ae_bi_lt (xs 4)
  have hz5 := ae_bi_lt (xs 5)
  exact law_brS S (as := [ae_top, ae_top, ae_top, ae_top, ae_top]) (n := 40000) law_ck0 rfl rfl rfl (fun ad => ae_sr_c (ae_vr_top _) (ae_sr_c (ae_vr_top _) (ae_sr_c (ae_vr_top _) (ae_sr_c (ae_vr_top _) (ae_sr_c (ae_vr_top _) (rfl)))))) ae_t_feed_0
theorem law_ck1 : ae_bk 281 [1] 35 39 288 292 298 = true := by decide +kernel
theorem law_op1 (S : ae_St p l e s m below meth c D kA b xs x0 m0 o0 ce sl ws H locs ls Q) : W p l e room_1 s m #[Value.ref b] below meth c H locs ce sl Q (F0 m 281 ls []) := by
  have hz1 := ae_bi_lt (xs 1)
  rcases (show (0 ≤ ae_bi (xs 1) ∧ ae_bi (xs 1) ≤ 2147483647) ∨ (2147483648 ≤ ae_bi (xs 1) ∧ ae_bi (xs 1) ≤ 2147483648) ∨ (2147483649 ≤ ae_bi (xs 1) ∧ ae_bi (xs 1) ≤ 4294967295) by omega) with hq1 | hq1 | hq1
  · skip
    exact law_brS S (as := [.inl (.inr (0, 2147483647))]) (n := 40000) law_ck1 rfl rfl rfl (fun ad => ae_sr_c (⟨_, rfl, by constructor <;> (show _ ≤ _) <;> omega⟩) (rfl)) ae_t_end_0
  · skip
    exact law_brS S (as := [ae_i 0]) (n := 40000) law_ck1 rfl rfl rfl (fun ad => ae_sr_c (⟨_, rfl, ae_kn 0 (by omega) (by omega)⟩) (rfl)) ae_t_end_1
  · skip
    exact law_brS S (as := [.inl (.inr (2147483649, 4294967295))]) (n := 40000) law_ck1 rfl rfl rfl (fun ad => ae_sr_c (⟨_, rfl, by constructor <;> (show _ ≤ _) <;> omega⟩) (rfl)) ae_t_end_2
theorem law_ck2 : ae_bk 306 [1] 40 43 313 317 323 = true := by decide +kernel
theorem law_op2 (S : ae_St p l e s m below meth c D kA b xs x0 m0 o0 ce sl ws H locs ls Q) : W p l e room_1 s m #[Value.ref b] below meth c H locs ce sl Q (F0 m 306 ls []) := by
  have hz1 := ae_bi_lt (xs 1)
  rcases (show (0 ≤ ae_bi (xs 1) ∧ ae_bi (xs 1) ≤ 2147483647) ∨ (2147483648 ≤ ae_bi (xs 1) ∧ ae_bi (xs 1) ≤ 2147483655) ∨ (2147483656 ≤ ae_bi (xs 1) ∧ ae_bi (xs 1) ≤ 4294967295) by omega) with hq1 | hq1 | hq1
  · skip
    exact law_brS S (as := [.inl (.inr (0, 2147483647))]) (n := 40000) law_ck2 rfl rfl rfl (fun ad => ae_sr_c (⟨_, rfl, by constructor <;> (show _ ≤ _) <;> omega⟩) (rfl)) ae_t_card_0
  · skip
    exact law_brS S (as := [.inl (.inr (2147483648, 2147483655))]) (n := 40000) law_ck2 rfl rfl rfl (fun ad => ae_sr_c (⟨_, rfl, by constructor <;> (show _ ≤ _) <;> omega⟩) (rfl)) ae_t_card_1
  · skip
    exact law_brS S (as := [.inl (.inr (2147483656, 4294967295))]) (n := 40000) law_ck2 rfl rfl rfl (fun ad => ae_sr_c (⟨_, rfl, by constructor <;> (show _ ≤ _) <;> omega⟩) (rfl)) ae_t_card_2
theorem law_ck3 : ae_bk 331 [1] 44 47 338 342 348 = true := by decide +kernel
theorem law_op3 (S : ae_St p l e s m below meth c D kA b xs x0 m0 o0 ce sl ws H locs ls Q) : W p l e room_1 s m #[Value.ref b] below meth c H locs ce sl Q (F0 m 331 ls []) := by
  have hz1 := ae_bi_lt (xs 1)
  rcases (show (0 ≤ ae_bi (xs 1) ∧ ae_bi (xs 1) ≤ 2147483647) ∨ (2147483648 ≤ ae_bi (xs 1) ∧ ae_bi (xs 1) ≤ 2147483655) ∨ (2147483656 ≤ ae_bi (xs 1) ∧ ae_bi (xs 1) ≤ 4294967295) by omega) with hq1 | hq1 | hq1
  · skip
    exact law_brS S (as := [.inl (.inr (0, 2147483647))]) (n := 40000) law_ck3 rfl rfl rfl (fun ad => ae_sr_c (⟨_, rfl, by constructor <;> (show _ ≤ _) <;> omega⟩) (rfl)) ae_t_cards_0
  · skip
    exact law_brS S (as := [.inl (.inr (2147483648, 2147483655))]) (n := 40000) law_ck3 rfl rfl rfl (fun ad => ae_sr_c (⟨_, rfl, by constructor <;> (show _ ≤ _) <;> omega⟩) (rfl)) ae_t_cards_1
  · skip
    exact law_brS S (as := [.inl (.inr (2147483656, 4294967295))]) (n := 40000) law_ck3 rfl rfl rfl (fun ad => ae_sr_c (⟨_, rfl, by constructor <;> (show _ ≤ _) <;> omega⟩) (rfl)) ae_t_cards_2
theorem law_ck5 : ae_bk 436 [1] 58 61 443 447 453 = true := by decide +kernel
theorem law_op5 (S : ae_St p l e s m below meth c D kA b xs x0 m0 o0 ce sl ws H locs ls Q) : W p l e room_1 s m #[Value.ref b] below meth c H locs ce sl Q (F0 m 436 ls []) := by
  have hz1 := ae_bi_lt (xs 1)
  rcases (show (0 ≤ ae_bi (xs 1) ∧ ae_bi (xs 1) ≤ 2147483647) ∨ (2147483648 ≤ ae_bi (xs 1) ∧ ae_bi (xs 1) ≤ 2147483655) ∨ (2147483656 ≤ ae_bi (xs 1) ∧ ae_bi (xs 1) ≤ 4294967295) by omega) with hq1 | hq1 | hq1
  · skip
    exact law_brS S (as := [.inl (.inr (0, 2147483647))]) (n := 40000) law_ck5 rfl rfl rfl (fun ad => ae_sr_c (⟨_, rfl, by constructor <;> (show _ ≤ _) <;> omega⟩) (rfl)) ae_t_empty_0
  · skip
    exact law_brS S (as := [.inl (.inr (2147483648, 2147483655))]) (n := 40000) law_ck5 rfl rfl rfl (fun ad => ae_sr_c (⟨_, rfl, by constructor <;> (show _ ≤ _) <;> omega⟩) (rfl)) ae_t_empty_1
  · skip
    exact law_brS S (as := [.inl (.inr (2147483656, 4294967295))]) (n := 40000) law_ck5 rfl rfl rfl (fun ad => ae_sr_c (⟨_, rfl, by constructor <;> (show _ ≤ _) <;> omega⟩) (rfl)) ae_t_empty_2
theorem law_ck6 : ae_bk 461 [] 62 65 462 466 466 = true := by decide +kernel
theorem law_op6 (S : ae_St p l e s m below meth c D kA b xs x0 m0 o0 ce sl ws H locs ls Q) : W p l e room_1 s m #[Value.ref b] below meth c H locs ce sl Q (F0 m 461 ls []) := by
  exact law_brS S (as := []) (n := 40000) law_ck6 rfl rfl rfl (fun ad => rfl) ae_t_board_0
theorem law_ck7 : ae_bk 474 [] 66 69 475 479 479 = true := by decide +kernel
theorem law_op7 (S : ae_St p l e s m below meth c D kA b xs x0 m0 o0 ce sl ws H locs ls Q) : W p l e room_1 s m #[Value.ref b] below meth c H locs ce sl Q (F0 m 474 ls []) := by
  exact law_brS S (as := []) (n := 40000) law_ck7 rfl rfl rfl (fun ad => rfl) ae_t_fault_0
theorem law_ck8 : ae_bk 487 [1, 2] 70 73 500 504 516 = true := by decide +kernel
theorem law_op8 (S : ae_St p l e s m below meth c D kA b xs x0 m0 o0 ce sl ws H locs ls Q) : W p l e room_1 s m #[Value.ref b] below meth c H locs ce sl Q (F0 m 487 ls []) := by
  have hz1 := ae_bi_lt (xs 1)
  have hz2 := ae_bi_lt (xs 2)
  rcases (show (0 ≤ ae_bi (xs 1) ∧ ae_bi (xs 1) ≤ 2147483647) ∨ (2147483648 ≤ ae_bi (xs 1) ∧ ae_bi (xs 1) ≤ 2147483648) ∨ (2147483649 ≤ ae_bi (xs 1) ∧ ae_bi (xs 1) ≤ 2147483649) ∨ (2147483650 ≤ ae_bi (xs 1) ∧ ae_bi (xs 1) ≤ 2147483650) ∨ (2147483651 ≤ ae_bi (xs 1) ∧ ae_bi (xs 1) ≤ 2147483651) ∨ (2147483652 ≤ ae_bi (xs 1) ∧ ae_bi (xs 1) ≤ 2147483652) ∨ (2147483653 ≤ ae_bi (xs 1) ∧ ae_bi (xs 1) ≤ 2147483653) ∨ (2147483654 ≤ ae_bi (xs 1) ∧ ae_bi (xs 1) ≤ 2147483654) ∨ (2147483655 ≤ ae_bi (xs 1) ∧ ae_bi (xs 1) ≤ 2147483655) ∨ (2147483656 ≤ ae_bi (xs 1) ∧ ae_bi (xs 1) ≤ 4294967295) by omega) with hq1 | hq1 | hq1 | hq1 | hq1 | hq1 | hq1 | hq1 | hq1 | hq1
  · skip
    exact law_brS S (as := [.inl (.inr (0, 2147483647)), ae_top]) (n := 40000) law_ck8 rfl rfl rfl (fun ad => ae_sr_c (⟨_, rfl, by constructor <;> (show _ ≤ _) <;> omega⟩) (ae_sr_c (ae_vr_top _) (rfl))) ae_t_run_0
  · skip
    rcases (show (0 ≤ ae_bi (xs 2) ∧ ae_bi (xs 2) ≤ 2147483647) ∨ (2147483648 ≤ ae_bi (xs 2) ∧ ae_bi (xs 2) ≤ 2147483648) ∨ (2147483649 ≤ ae_bi (xs 2) ∧ ae_bi (xs 2) ≤ 2147483649) ∨ (2147483650 ≤ ae_bi (xs 2) ∧ ae_bi (xs 2) ≤ 2147483650) ∨ (2147483651 ≤ ae_bi (xs 2) ∧ ae_bi (xs 2) ≤ 2147483651) ∨ (2147483652 ≤ ae_bi (xs 2) ∧ ae_bi (xs 2) ≤ 2147483652) ∨ (2147483653 ≤ ae_bi (xs 2) ∧ ae_bi (xs 2) ≤ 2147483653) ∨ (2147483654 ≤ ae_bi (xs 2) ∧ ae_bi (xs 2) ≤ 2147483654) ∨ (2147483655 ≤ ae_bi (xs 2) ∧ ae_bi (xs 2) ≤ 2147483655) ∨ (2147483656 ≤ ae_bi (xs 2) ∧ ae_bi (xs 2) ≤ 4294967295) by omega) with hq2 | hq2 | hq2 | hq2 | hq2 | hq2 | hq2 | hq2 | hq2 | hq2
    · skip
      exact law_brS S (as := [.inl (.inr (2147483648, 2147483655)), .inl (.inr (0, 2147483647))]) (n := 40000) law_ck8 rfl rfl rfl (fun ad => ae_sr_c (⟨_, rfl, by constructor <;> (show _ ≤ _) <;> omega⟩) (ae_sr_c (⟨_, rfl, by constructor <;> (show _ ≤ _) <;> omega⟩) (rfl))) ae_t_run_2
    · skip
      exact law_brS S (as := [ae_i 0, ae_i 0]) (n := 40000) law_ck8 rfl rfl rfl (fun ad => ae_sr_c (⟨_, rfl, ae_kn 0 (by omega) (by omega)⟩) (ae_sr_c (⟨_, rfl, ae_kn 0 (by omega) (by omega)⟩) (rfl))) ae_t_run_4
    · skip
      exact law_brS S (as := [ae_i 0, ae_i 1]) (n := 40000) law_ck8 rfl rfl rfl (fun ad => ae_sr_c (⟨_, rfl, ae_kn 0 (by omega) (by omega)⟩) (ae_sr_c (⟨_, rfl, ae_kn 1 (by omega) (by omega)⟩) (rfl))) ae_h_run_8
    · skip
      exact law_brS S (as := [.inl (.inr (2147483648, 2147483649)), .inl (.inr (2147483650, 2147483651))]) (n := 40000) law_ck8 rfl rfl rfl (fun ad => ae_sr_c (⟨_, rfl, by constructor <;> (show _ ≤ _) <;> omega⟩) (ae_sr_c (⟨_, rfl, by constructor <;> (show _ ≤ _) <;> omega⟩) (rfl))) ae_h_run_4
    · skip
      exact law_brS S (as := [.inl (.inr (2147483648, 2147483649)), .inl (.inr (2147483650, 2147483651))]) (n := 40000) law_ck8 rfl rfl rfl (fun ad => ae_sr_c (⟨_, rfl, by constructor <;> (show _ ≤ _) <;> omega⟩) (ae_sr_c (⟨_, rfl, by constructor <;> (show _ ≤ _) <;> omega⟩) (rfl))) ae_h_run_4
    · skip
      exact law_brS S (as := [.inl (.inr (2147483648, 2147483651)), .inl (.inr (2147483652, 2147483655))]) (n := 40000) law_ck8 rfl rfl rfl (fun ad => ae_sr_c (⟨_, rfl, by constructor <;> (show _ ≤ _) <;> omega⟩) (ae_sr_c (⟨_, rfl, by constructor <;> (show _ ≤ _) <;> omega⟩) (rfl))) ae_h_run_2
    · skip
      exact law_brS S (as := [.inl (.inr (2147483648, 2147483651)), .inl (.inr (2147483652, 2147483655))]) (n := 40000) law_ck8 rfl rfl rfl (fun ad => ae_sr_c (⟨_, rfl, by constructor <;> (show _ ≤ _) <;> omega⟩) (ae_sr_c (⟨_, rfl, by constructor <;> (show _ ≤ _) <;> omega⟩) (rfl))) ae_h_run_2
    · skip
      exact law_brS S (as := [.inl (.inr (2147483648, 2147483651)), .inl (.inr (2147483652, 2147483655))]) (n := 40000) law_ck8 rfl rfl rfl (fun ad => ae_sr_c (⟨_, rfl, by constructor <;> (show _ ≤ _) <;> omega⟩) (ae_sr_c (⟨_, rfl, by constructor <;> (show _ ≤ _) <;> omega⟩) (rfl))) ae_h_run_2
    · skip
      exact law_brS S (as := [.inl (.inr (2147483648, 2147483651)), .inl (.inr (2147483652, 2147483655))]) (n := 40000) law_ck8 rfl rfl rfl (fun ad => ae_sr_c (⟨_, rfl, by constructor <;> (show _ ≤ _) <;> omega⟩) (ae_sr_c (⟨_, rfl, by constructor <;> (show _ ≤ _) <;> omega⟩) (rfl))) ae_h_run_2
    · skip
      exact law_brS S (as := [.inl (.inr (2147483648, 2147483655)), .inl (.inr (2147483656, 4294967295))]) (n := 40000) law_ck8 rfl rfl rfl (fun ad => ae_sr_c (⟨_, rfl, by constructor <;> (show _ ≤ _) <;> omega⟩) (ae_sr_c (⟨_, rfl, by constructor <;> (show _ ≤ _) <;> omega⟩) (rfl))) ae_t_run_3
  · skip
    rcases (show (0 ≤ ae_bi (xs 2) ∧ ae_bi (xs 2) ≤ 2147483647) ∨ (2147483648 ≤ ae_bi (xs 2) ∧ ae_bi (xs 2) ≤ 2147483648) ∨ (2147483649 ≤ ae_bi (xs 2) ∧ ae_bi (xs 2) ≤ 2147483649) ∨ (2147483650 ≤ ae_bi (xs 2) ∧ ae_bi (xs 2) ≤ 2147483650) ∨ (2147483651 ≤ ae_bi (xs 2) ∧ ae_bi (xs 2) ≤ 2147483651) ∨ (2147483652 ≤ ae_bi (xs 2) ∧ ae_bi (xs 2) ≤ 2147483652) ∨ (2147483653 ≤ ae_bi (xs 2) ∧ ae_bi (xs 2) ≤ 2147483653) ∨ (2147483654 ≤ ae_bi (xs 2) ∧ ae_bi (xs 2) ≤ 2147483654) ∨ (2147483655 ≤ ae_bi (xs 2) ∧ ae_bi (xs 2) ≤ 2147483655) ∨ (2147483656 ≤ ae_bi (xs 2) ∧ ae_bi (xs 2) ≤ 4294967295) by omega) with hq2 | hq2 | hq2 | hq2 | hq2 | hq2 | hq2 | hq2 | hq2 | hq2
    · skip
      exact law_brS S (as := [.inl (.inr (2147483648, 2147483655)), .inl (.inr (0, 2147483647))]) (n := 40000) law_ck8 rfl rfl rfl (fun ad => ae_sr_c (⟨_, rfl, by constructor <;> (show _ ≤ _) <;> omega⟩) (ae_sr_c (⟨_, rfl, by constructor <;> (show _ ≤ _) <;> omega⟩) (rfl))) ae_t_run_2
    · skip
      exact law_brS S (as := [ae_i 1, ae_i 0]) (n := 40000) law_ck8 rfl rfl rfl (fun ad => ae_sr_c (⟨_, rfl, ae_kn 1 (by omega) (by omega)⟩) (ae_sr_c (⟨_, rfl, ae_kn 0 (by omega) (by omega)⟩) (rfl))) ae_h_run_9
    · skip
      exact law_brS S (as := [ae_i 1, ae_i 1]) (n := 40000) law_ck8 rfl rfl rfl (fun ad => ae_sr_c (⟨_, rfl, ae_kn 1 (by omega) (by omega)⟩) (ae_sr_c (⟨_, rfl, ae_kn 1 (by omega) (by omega)⟩) (rfl))) ae_t_run_5
    · skip
      exact law_brS S (as := [.inl (.inr (2147483648, 2147483649)), .inl (.inr (2147483650, 2147483651))]) (n := 40000) law_ck8 rfl rfl rfl (fun ad => ae_sr_c (⟨_, rfl, by constructor <;> (show _ ≤ _) <;> omega⟩) (ae_sr_c (⟨_, rfl, by constructor <;> (show _ ≤ _) <;> omega⟩) (rfl))) ae_h_run_4
    · skip
      exact law_brS S (as := [.inl (.inr (2147483648, 2147483649)), .inl (.inr (2147483650, 2147483651))]) (n := 40000) law_ck8 rfl rfl rfl (fun ad => ae_sr_c (⟨_, rfl, by constructor <;> (show _ ≤ _) <;> omega⟩) (ae_sr_c (⟨_, rfl, by constructor <;> (show _ ≤ _) <;> omega⟩) (rfl))) ae_h_run_4
    · skip
      exact law_brS S (as := [.inl (.inr (2147483648, 2147483651)), .inl (.inr (2147483652, 2147483655))]) (n := 40000) law_ck8 rfl rfl rfl (fun ad => ae_sr_c (⟨_, rfl, by constructor <;> (show _ ≤ _) <;> omega⟩) (ae_sr_c (⟨_, rfl, by constructor <;> (show _ ≤ _) <;> omega⟩) (rfl))) ae_h_run_2
    · skip
      exact law_brS S (as := [.inl (.inr (2147483648, 2147483651)), .inl (.inr (2147483652, 2147483655))]) (n := 40000) law_ck8 rfl rfl rfl (fun ad => ae_sr_c (⟨_, rfl, by constructor <;> (show _ ≤ _) <;> omega⟩) (ae_sr_c (⟨_, rfl, by constructor <;> (show _ ≤ _) <;> omega⟩) (rfl))) ae_h_run_2
    · skip
      exact law_brS S (as := [.inl (.inr (2147483648, 2147483651)), .inl (.inr (2147483652, 2147483655))]) (n := 40000) law_ck8 rfl rfl rfl (fun ad => ae_sr_c (⟨_, rfl, by constructor <;> (show _ ≤ _) <;> omega⟩) (ae_sr_c (⟨_, rfl, by constructor <;> (show _ ≤ _) <;> omega⟩) (rfl))) ae_h_run_2
    · skip
      exact law_brS S (as := [.inl (.inr (2147483648, 2147483651)), .inl (.inr (2147483652, 2147483655))]) (n := 40000) law_ck8 rfl rfl rfl (fun ad => ae_sr_c (⟨_, rfl, by constructor <;> (show _ ≤ _) <;> omega⟩) (ae_sr_c (⟨_, rfl, by constructor <;> (show _ ≤ _) <;> omega⟩) (rfl))) ae_h_run_2
    · skip
      exact law_brS S (as := [.inl (.inr (2147483648, 2147483655)), .inl (.inr (2147483656, 4294967295))]) (n := 40000) law_ck8 rfl rfl rfl (fun ad => ae_sr_c (⟨_, rfl, by constructor <;> (show _ ≤ _) <;> omega⟩) (ae_sr_c (⟨_, rfl, by constructor <;> (show _ ≤ _) <;> omega⟩) (rfl))) ae_t_run_3
  · skip
    rcases (show (0 ≤ ae_bi (xs 2) ∧ ae_bi (xs 2) ≤ 2147483647) ∨ (2147483648 ≤ ae_bi (xs 2) ∧ ae_bi (xs 2) ≤ 2147483648) ∨ (2147483649 ≤ ae_bi (xs 2) ∧ ae_bi (xs 2) ≤ 2147483649) ∨ (2147483650 ≤ ae_bi (xs 2) ∧ ae_bi (xs 2) ≤ 2147483650) ∨ (2147483651 ≤ ae_bi (xs 2) ∧ ae_bi (xs 2) ≤ 2147483651) ∨ (2147483652 ≤ ae_bi (xs 2) ∧ ae_bi (xs 2) ≤ 2147483652) ∨ (2147483653 ≤ ae_bi (xs 2) ∧ ae_bi (xs 2) ≤ 2147483653) ∨ (2147483654 ≤ ae_bi (xs 2) ∧ ae_bi (xs 2) ≤ 2147483654) ∨ (2147483655 ≤ ae_bi (xs 2) ∧ ae_bi (xs 2) ≤ 2147483655) ∨ (2147483656 ≤ ae_bi (xs 2) ∧ ae_bi (xs 2) ≤ 4294967295) by omega) with hq2 | hq2 | hq2 | hq2 | hq2 | hq2 | hq2 | hq2 | hq2 | hq2
    · skip
      exact law_brS S (as := [.inl (.inr (2147483648, 2147483655)), .inl (.inr (0, 2147483647))]) (n := 40000) law_ck8 rfl rfl rfl (fun ad => ae_sr_c (⟨_, rfl, by constructor <;> (show _ ≤ _) <;> omega⟩) (ae_sr_c (⟨_, rfl, by constructor <;> (show _ ≤ _) <;> omega⟩) (rfl))) ae_t_run_2
    · skip
      exact law_brS S (as := [.inl (.inr (2147483650, 2147483651)), .inl (.inr (2147483648, 2147483649))]) (n := 40000) law_ck8 rfl rfl rfl (fun ad => ae_sr_c (⟨_, rfl, by constructor <;> (show _ ≤ _) <;> omega⟩) (ae_sr_c (⟨_, rfl, by constructor <;> (show _ ≤ _) <;> omega⟩) (rfl))) ae_h_run_5
    · skip
      exact law_brS S (as := [.inl (.inr (2147483650, 2147483651)), .inl (.inr (2147483648, 2147483649))]) (n := 40000) law_ck8 rfl rfl rfl (fun ad => ae_sr_c (⟨_, rfl, by constructor <;> (show _ ≤ _) <;> omega⟩) (ae_sr_c (⟨_, rfl, by constructor <;> (show _ ≤ _) <;> omega⟩) (rfl))) ae_h_run_5
    · skip
      exact law_brS S (as := [ae_i 2, ae_i 2]) (n := 40000) law_ck8 rfl rfl rfl (fun ad => ae_sr_c (⟨_, rfl, ae_kn 2 (by omega) (by omega)⟩) (ae_sr_c (⟨_, rfl, ae_kn 2 (by omega) (by omega)⟩) (rfl))) ae_t_run_6
    · skip
      exact law_brS S (as := [ae_i 2, ae_i 3]) (n := 40000) law_ck8 rfl rfl rfl (fun ad => ae_sr_c (⟨_, rfl, ae_kn 2 (by omega) (by omega)⟩) (ae_sr_c (⟨_, rfl, ae_kn 3 (by omega) (by omega)⟩) (rfl))) ae_h_run_10
    · skip
      exact law_brS S (as := [.inl (.inr (2147483648, 2147483651)), .inl (.inr (2147483652, 2147483655))]) (n := 40000) law_ck8 rfl rfl rfl (fun ad => ae_sr_c (⟨_, rfl, by constructor <;> (show _ ≤ _) <;> omega⟩) (ae_sr_c (⟨_, rfl, by constructor <;> (show _ ≤ _) <;> omega⟩) (rfl))) ae_h_run_2
    · skip
      exact law_brS S (as := [.inl (.inr (2147483648, 2147483651)), .inl (.inr (2147483652, 2147483655))]) (n := 40000) law_ck8 rfl rfl rfl (fun ad => ae_sr_c (⟨_, rfl, by constructor <;> (show _ ≤ _) <;> omega⟩) (ae_sr_c (⟨_, rfl, by constructor <;> (show _ ≤ _) <;> omega⟩) (rfl))) ae_h_run_2
    · skip
      exact law_brS S (as := [.inl (.inr (2147483648, 2147483651)), .inl (.inr (2147483652, 2147483655))]) (n := 40000) law_ck8 rfl rfl rfl (fun ad => ae_sr_c (⟨_, rfl, by constructor <;> (show _ ≤ _) <;> omega⟩) (ae_sr_c (⟨_, rfl, by constructor <;> (show _ ≤ _) <;> omega⟩) (rfl))) ae_h_run_2
    · skip
      exact law_brS S (as := [.inl (.inr (2147483648, 2147483651)), .inl (.inr (2147483652, 2147483655))]) (n := 40000) law_ck8 rfl rfl rfl (fun ad => ae_sr_c (⟨_, rfl, by constructor <;> (show _ ≤ _) <;> omega⟩) (ae_sr_c (⟨_, rfl, by constructor <;> (show _ ≤ _) <;> omega⟩) (rfl))) ae_h_run_2
    · skip
      exact law_brS S (as := [.inl (.inr (2147483648, 2147483655)), .inl (.inr (2147483656, 4294967295))]) (n := 40000) law_ck8 rfl rfl rfl (fun ad => ae_sr_c (⟨_, rfl, by constructor <;> (show _ ≤ _) <;> omega⟩) (ae_sr_c (⟨_, rfl, by constructor <;> (show _ ≤ _) <;> omega⟩) (rfl))) ae_t_run_3
  · skip
    rcases (show (0 ≤ ae_bi (xs 2) ∧ ae_bi (xs 2) ≤ 2147483647) ∨ (2147483648 ≤ ae_bi (xs 2) ∧ ae_bi (xs 2) ≤ 2147483648) ∨ (2147483649 ≤ ae_bi (xs 2) ∧ ae_bi (xs 2) ≤ 2147483649) ∨ (2147483650 ≤ ae_bi (xs 2) ∧ ae_bi (xs 2) ≤ 2147483650) ∨ (2147483651 ≤ ae_bi (xs 2) ∧ ae_bi (xs 2) ≤ 2147483651) ∨ (2147483652 ≤ ae_bi (xs 2) ∧ ae_bi (xs 2) ≤ 2147483652) ∨ (2147483653 ≤ ae_bi (xs 2) ∧ ae_bi (xs 2) ≤ 2147483653) ∨ (2147483654 ≤ ae_bi (xs 2) ∧ ae_bi (xs 2) ≤ 2147483654) ∨ (2147483655 ≤ ae_bi (xs 2) ∧ ae_bi (xs 2) ≤ 2147483655) ∨ (2147483656 ≤ ae_bi (xs 2) ∧ ae_bi (xs 2) ≤ 4294967295) by omega) with hq2 | hq2 | hq2 | hq2 | hq2 | hq2 | hq2 | hq2 | hq2 | hq2
    · skip
      exact law_brS S (as := [.inl (.inr (2147483648, 2147483655)), .inl (.inr (0, 2147483647))]) (n := 40000) law_ck8 rfl rfl rfl (fun ad => ae_sr_c (⟨_, rfl, by constructor <;> (show _ ≤ _) <;> omega⟩) (ae_sr_c (⟨_, rfl, by constructor <;> (show _ ≤ _) <;> omega⟩) (rfl))) ae_t_run_2
    · skip
      exact law_brS S (as := [.inl (.inr (2147483650, 2147483651)), .inl (.inr (2147483648, 2147483649))]) (n := 40000) law_ck8 rfl rfl rfl (fun ad => ae_sr_c (⟨_, rfl, by constructor <;> (show _ ≤ _) <;> omega⟩) (ae_sr_c (⟨_, rfl, by constructor <;> (show _ ≤ _) <;> omega⟩) (rfl))) ae_h_run_5
    · skip
      exact law_brS S (as := [.inl (.inr (2147483650, 2147483651)), .inl (.inr (2147483648, 2147483649))]) (n := 40000) law_ck8 rfl rfl rfl (fun ad => ae_sr_c (⟨_, rfl, by constructor <;> (show _ ≤ _) <;> omega⟩) (ae_sr_c (⟨_, rfl, by constructor <;> (show _ ≤ _) <;> omega⟩) (rfl))) ae_h_run_5
    · skip
      exact law_brS S (as := [ae_i 3, ae_i 2]) (n := 40000) law_ck8 rfl rfl rfl (fun ad => ae_sr_c (⟨_, rfl, ae_kn 3 (by omega) (by omega)⟩) (ae_sr_c (⟨_, rfl, ae_kn 2 (by omega) (by omega)⟩) (rfl))) ae_h_run_11
    · skip
      exact law_brS S (as := [ae_i 3, ae_i 3]) (n := 40000) law_ck8 rfl rfl rfl (fun ad => ae_sr_c (⟨_, rfl, ae_kn 3 (by omega) (by omega)⟩) (ae_sr_c (⟨_, rfl, ae_kn 3 (by omega) (by omega)⟩) (rfl))) ae_t_run_7
    · skip
      exact law_brS S (as := [.inl (.inr (2147483648, 2147483651)), .inl (.inr (2147483652, 2147483655))]) (n := 40000) law_ck8 rfl rfl rfl (fun ad => ae_sr_c (⟨_, rfl, by constructor <;> (show _ ≤ _) <;> omega⟩) (ae_sr_c (⟨_, rfl, by constructor <;> (show _ ≤ _) <;> omega⟩) (rfl))) ae_h_run_2
    · skip
      exact law_brS S (as := [.inl (.inr (2147483648, 2147483651)), .inl (.inr (2147483652, 2147483655))]) (n := 40000) law_ck8 rfl rfl rfl (fun ad => ae_sr_c (⟨_, rfl, by constructor <;> (show _ ≤ _) <;> omega⟩) (ae_sr_c (⟨_, rfl, by constructor <;> (show _ ≤ _) <;> omega⟩) (rfl))) ae_h_run_2
    · skip
      exact law_brS S (as := [.inl (.inr (2147483648, 2147483651)), .inl (.inr (2147483652, 2147483655))]) (n := 40000) law_ck8 rfl rfl rfl (fun ad => ae_sr_c (⟨_, rfl, by constructor <;> (show _ ≤ _) <;> omega⟩) (ae_sr_c (⟨_, rfl, by constructor <;> (show _ ≤ _) <;> omega⟩) (rfl))) ae_h_run_2
    · skip
      exact law_brS S (as := [.inl (.inr (2147483648, 2147483651)), .inl (.inr (2147483652, 2147483655))]) (n := 40000) law_ck8 rfl rfl rfl (fun ad => ae_sr_c (⟨_, rfl, by constructor <;> (show _ ≤ _) <;> omega⟩) (ae_sr_c (⟨_, rfl, by constructor <;> (show _ ≤ _) <;> omega⟩) (rfl))) ae_h_run_2
    · skip
      exact law_brS S (as := [.inl (.inr (2147483648, 2147483655)), .inl (.inr (2147483656, 4294967295))]) (n := 40000) law_ck8 rfl rfl rfl (fun ad => ae_sr_c (⟨_, rfl, by constructor <;> (show _ ≤ _) <;> omega⟩) (ae_sr_c (⟨_, rfl, by constructor <;> (show _ ≤ _) <;> omega⟩) (rfl))) ae_t_run_3
  · skip
    rcases (show (0 ≤ ae_bi (xs 2) ∧ ae_bi (xs 2) ≤ 2147483647) ∨ (2147483648 ≤ ae_bi (xs 2) ∧ ae_bi (xs 2) ≤ 2147483648) ∨ (2147483649 ≤ ae_bi (xs 2) ∧ ae_bi (xs 2) ≤ 2147483649) ∨ (2147483650 ≤ ae_bi (xs 2) ∧ ae_bi (xs 2) ≤ 2147483650) ∨ (2147483651 ≤ ae_bi (xs 2) ∧ ae_bi (xs 2) ≤ 2147483651) ∨ (2147483652 ≤ ae_bi (xs 2) ∧ ae_bi (xs 2) ≤ 2147483652) ∨ (2147483653 ≤ ae_bi (xs 2) ∧ ae_bi (xs 2) ≤ 2147483653) ∨ (2147483654 ≤ ae_bi (xs 2) ∧ ae_bi (xs 2) ≤ 2147483654) ∨ (2147483655 ≤ ae_bi (xs 2) ∧ ae_bi (xs 2) ≤ 2147483655) ∨ (2147483656 ≤ ae_bi (xs 2) ∧ ae_bi (xs 2) ≤ 4294967295) by omega) with hq2 | hq2 | hq2 | hq2 | hq2 | hq2 | hq2 | hq2 | hq2 | hq2
    · skip
      exact law_brS S (as := [.inl (.inr (2147483648, 2147483655)), .inl (.inr (0, 2147483647))]) (n := 40000) law_ck8 rfl rfl rfl (fun ad => ae_sr_c (⟨_, rfl, by constructor <;> (show _ ≤ _) <;> omega⟩) (ae_sr_c (⟨_, rfl, by constructor <;> (show _ ≤ _) <;> omega⟩) (rfl))) ae_t_run_2
    · skip
      exact law_brS S (as := [.inl (.inr (2147483652, 2147483655)), .inl (.inr (2147483648, 2147483651))]) (n := 40000) law_ck8 rfl rfl rfl (fun ad => ae_sr_c (⟨_, rfl, by constructor <;> (show _ ≤ _) <;> omega⟩) (ae_sr_c (⟨_, rfl, by constructor <;> (show _ ≤ _) <;> omega⟩) (rfl))) ae_h_run_3
    · skip
      exact law_brS S (as := [.inl (.inr (2147483652, 2147483655)), .inl (.inr (2147483648, 2147483651))]) (n := 40000) law_ck8 rfl rfl rfl (fun ad => ae_sr_c (⟨_, rfl, by constructor <;> (show _ ≤ _) <;> omega⟩) (ae_sr_c (⟨_, rfl, by constructor <;> (show _ ≤ _) <;> omega⟩) (rfl))) ae_h_run_3
    · skip
      exact law_brS S (as := [.inl (.inr (2147483652, 2147483655)), .inl (.inr (2147483648, 2147483651))]) (n := 40000) law_ck8 rfl rfl rfl (fun ad => ae_sr_c (⟨_, rfl, by constructor <;> (show _ ≤ _) <;> omega⟩) (ae_sr_c (⟨_, rfl, by constructor <;> (show _ ≤ _) <;> omega⟩) (rfl))) ae_h_run_3
    · skip
      exact law_brS S (as := [.inl (.inr (2147483652, 2147483655)), .inl (.inr (2147483648, 2147483651))]) (n := 40000) law_ck8 rfl rfl rfl (fun ad => ae_sr_c (⟨_, rfl, by constructor <;> (show _ ≤ _) <;> omega⟩) (ae_sr_c (⟨_, rfl, by constructor <;> (show _ ≤ _) <;> omega⟩) (rfl))) ae_h_run_3
    · skip
      exact law_brS S (as := [ae_i 4, ae_i 4]) (n := 40000) law_ck8 rfl rfl rfl (fun ad => ae_sr_c (⟨_, rfl, ae_kn 4 (by omega) (by omega)⟩) (ae_sr_c (⟨_, rfl, ae_kn 4 (by omega) (by omega)⟩) (rfl))) ae_t_run_8
    · skip
      exact law_brS S (as := [ae_i 4, ae_i 5]) (n := 40000) law_ck8 rfl rfl rfl (fun ad => ae_sr_c (⟨_, rfl, ae_kn 4 (by omega) (by omega)⟩) (ae_sr_c (⟨_, rfl, ae_kn 5 (by omega) (by omega)⟩) (rfl))) ae_h_run_12
    · skip
      exact law_brS S (as := [.inl (.inr (2147483652, 2147483653)), .inl (.inr (2147483654, 2147483655))]) (n := 40000) law_ck8 rfl rfl rfl (fun ad => ae_sr_c (⟨_, rfl, by constructor <;> (show _ ≤ _) <;> omega⟩) (ae_sr_c (⟨_, rfl, by constructor <;> (show _ ≤ _) <;> omega⟩) (rfl))) ae_h_run_6
    · skip
      exact law_brS S (as := [.inl (.inr (2147483652, 2147483653)), .inl (.inr (2147483654, 2147483655))]) (n := 40000) law_ck8 rfl rfl rfl (fun ad => ae_sr_c (⟨_, rfl, by constructor <;> (show _ ≤ _) <;> omega⟩) (ae_sr_c (⟨_, rfl, by constructor <;> (show _ ≤ _) <;> omega⟩) (rfl))) ae_h_run_6
    · skip
      exact law_brS S (as := [.inl (.inr (2147483648, 2147483655)), .inl (.inr (2147483656, 4294967295))]) (n := 40000) law_ck8 rfl rfl rfl (fun ad => ae_sr_c (⟨_, rfl, by constructor <;> (show _ ≤ _) <;> omega⟩) (ae_sr_c (⟨_, rfl, by constructor <;> (show _ ≤ _) <;> omega⟩) (rfl))) ae_t_run_3
  · skip
    rcases (show (0 ≤ ae_bi (xs 2) ∧ ae_bi (xs 2) ≤ 2147483647) ∨ (2147483648 ≤ ae_bi (xs 2) ∧ ae_bi (xs 2) ≤ 2147483648) ∨ (2147483649 ≤ ae_bi (xs 2) ∧ ae_bi (xs 2) ≤ 2147483649) ∨ (2147483650 ≤ ae_bi (xs 2) ∧ ae_bi (xs 2) ≤ 2147483650) ∨ (2147483651 ≤ ae_bi (xs 2) ∧ ae_bi (xs 2) ≤ 2147483651) ∨ (2147483652 ≤ ae_bi (xs 2) ∧ ae_bi (xs 2) ≤ 2147483652) ∨ (2147483653 ≤ ae_bi (xs 2) ∧ ae_bi (xs 2) ≤ 2147483653) ∨ (2147483654 ≤ ae_bi (xs 2) ∧ ae_bi (xs 2) ≤ 2147483654) ∨ (2147483655 ≤ ae_bi (xs 2) ∧ ae_bi (xs 2) ≤ 2147483655) ∨ (2147483656 ≤ ae_bi (xs 2) ∧ ae_bi (xs 2) ≤ 4294967295) by omega) with hq2 | hq2 | hq2 | hq2 | hq2 | hq2 | hq2 | hq2 | hq2 | hq2
    · skip
      exact law_brS S (as := [.inl (.inr (2147483648, 2147483655)), .inl (.inr (0, 2147483647))]) (n := 40000) law_ck8 rfl rfl rfl (fun ad => ae_sr_c (⟨_, rfl, by constructor <;> (show _ ≤ _) <;> omega⟩) (ae_sr_c (⟨_, rfl, by constructor <;> (show _ ≤ _) <;> omega⟩) (rfl))) ae_t_run_2
    · skip
      exact law_brS S (as := [.inl (.inr (2147483652, 2147483655)), .inl (.inr (2147483648, 2147483651))]) (n := 40000) law_ck8 rfl rfl rfl (fun ad => ae_sr_c (⟨_, rfl, by constructor <;> (show _ ≤ _) <;> omega⟩) (ae_sr_c (⟨_, rfl, by constructor <;> (show _ ≤ _) <;> omega⟩) (rfl))) ae_h_run_3
    · skip
      exact law_brS S (as := [.inl (.inr (2147483652, 2147483655)), .inl (.inr (2147483648, 2147483651))]) (n := 40000) law_ck8 rfl rfl rfl (fun ad => ae_sr_c (⟨_, rfl, by constructor <;> (show _ ≤ _) <;> omega⟩) (ae_sr_c (⟨_, rfl, by constructor <;> (show _ ≤ _) <;> omega⟩) (rfl))) ae_h_run_3
    · skip
      exact law_brS S (as := [.inl (.inr (2147483652, 2147483655)), .inl (.inr (2147483648, 2147483651))]) (n := 40000) law_ck8 rfl rfl rfl (fun ad => ae_sr_c (⟨_, rfl, by constructor <;> (show _ ≤ _) <;> omega⟩) (ae_sr_c (⟨_, rfl, by constructor <;> (show _ ≤ _) <;> omega⟩) (rfl))) ae_h_run_3
    · skip
      exact law_brS S (as := [.inl (.inr (2147483652, 2147483655)), .inl (.inr (2147483648, 2147483651))]) (n := 40000) law_ck8 rfl rfl rfl (fun ad => ae_sr_c (⟨_, rfl, by constructor <;> (show _ ≤ _) <;> omega⟩) (ae_sr_c (⟨_, rfl, by constructor <;> (show _ ≤ _) <;> omega⟩) (rfl))) ae_h_run_3
    · skip
      exact law_brS S (as := [ae_i 5, ae_i 4]) (n := 40000) law_ck8 rfl rfl rfl (fun ad => ae_sr_c (⟨_, rfl, ae_kn 5 (by omega) (by omega)⟩) (ae_sr_c (⟨_, rfl, ae_kn 4 (by omega) (by omega)⟩) (rfl))) ae_h_run_13
    · skip
      exact law_brS S (as := [ae_i 5, ae_i 5]) (n := 40000) law_ck8 rfl rfl rfl (fun ad => ae_sr_c (⟨_, rfl, ae_kn 5 (by omega) (by omega)⟩) (ae_sr_c (⟨_, rfl, ae_kn 5 (by omega) (by omega)⟩) (rfl))) ae_t_run_9
    · skip
      exact law_brS S (as := [.inl (.inr (2147483652, 2147483653)), .inl (.inr (2147483654, 2147483655))]) (n := 40000) law_ck8 rfl rfl rfl (fun ad => ae_sr_c (⟨_, rfl, by constructor <;> (show _ ≤ _) <;> omega⟩) (ae_sr_c (⟨_, rfl, by constructor <;> (show _ ≤ _) <;> omega⟩) (rfl))) ae_h_run_6
    · skip
      exact law_brS S (as := [.inl (.inr (2147483652, 2147483653)), .inl (.inr (2147483654, 2147483655))]) (n := 40000) law_ck8 rfl rfl rfl (fun ad => ae_sr_c (⟨_, rfl, by constructor <;> (show _ ≤ _) <;> omega⟩) (ae_sr_c (⟨_, rfl, by constructor <;> (show _ ≤ _) <;> omega⟩) (rfl))) ae_h_run_6
    · skip
      exact law_brS S (as := [.inl (.inr (2147483648, 2147483655)), .inl (.inr (2147483656, 4294967295))]) (n := 40000) law_ck8 rfl rfl rfl (fun ad => ae_sr_c (⟨_, rfl, by constructor <;> (show _ ≤ _) <;> omega⟩) (ae_sr_c (⟨_, rfl, by constructor <;> (show _ ≤ _) <;> omega⟩) (rfl))) ae_t_run_3
  · skip
    rcases (show (0 ≤ ae_bi (xs 2) ∧ ae_bi (xs 2) ≤ 2147483647) ∨ (2147483648 ≤ ae_bi (xs 2) ∧ ae_bi (xs 2) ≤ 2147483648) ∨ (2147483649 ≤ ae_bi (xs 2) ∧ ae_bi (xs 2) ≤ 2147483649) ∨ (2147483650 ≤ ae_bi (xs 2) ∧ ae_bi (xs 2) ≤ 2147483650) ∨ (2147483651 ≤ ae_bi (xs 2) ∧ ae_bi (xs 2) ≤ 2147483651) ∨ (2147483652 ≤ ae_bi (xs 2) ∧ ae_bi (xs 2) ≤ 2147483652) ∨ (2147483653 ≤ ae_bi (xs 2) ∧ ae_bi (xs 2) ≤ 2147483653) ∨ (2147483654 ≤ ae_bi (xs 2) ∧ ae_bi (xs 2) ≤ 2147483654) ∨ (2147483655 ≤ ae_bi (xs 2) ∧ ae_bi (xs 2) ≤ 2147483655) ∨ (2147483656 ≤ ae_bi (xs 2) ∧ ae_bi (xs 2) ≤ 4294967295) by omega) with hq2 | hq2 | hq2 | hq2 | hq2 | hq2 | hq2 | hq2 | hq2 | hq2
    · skip
      exact law_brS S (as := [.inl (.inr (2147483648, 2147483655)), .inl (.inr (0, 2147483647))]) (n := 40000) law_ck8 rfl rfl rfl (fun ad => ae_sr_c (⟨_, rfl, by constructor <;> (show _ ≤ _) <;> omega⟩) (ae_sr_c (⟨_, rfl, by constructor <;> (show _ ≤ _) <;> omega⟩) (rfl))) ae_t_run_2
    · skip
      exact law_brS S (as := [.inl (.inr (2147483652, 2147483655)), .inl (.inr (2147483648, 2147483651))]) (n := 40000) law_ck8 rfl rfl rfl (fun ad => ae_sr_c (⟨_, rfl, by constructor <;> (show _ ≤ _) <;> omega⟩) (ae_sr_c (⟨_, rfl, by constructor <;> (show _ ≤ _) <;> omega⟩) (rfl))) ae_h_run_3
    · skip
      exact law_brS S (as := [.inl (.inr (2147483652, 2147483655)), .inl (.inr (2147483648, 2147483651))]) (n := 40000) law_ck8 rfl rfl rfl (fun ad => ae_sr_c (⟨_, rfl, by constructor <;> (show _ ≤ _) <;> omega⟩) (ae_sr_c (⟨_, rfl, by constructor <;> (show _ ≤ _) <;> omega⟩) (rfl))) ae_h_run_3
    · skip
      exact law_brS S (as := [.inl (.inr (2147483652, 2147483655)), .inl (.inr (2147483648, 2147483651))]) (n := 40000) law_ck8 rfl rfl rfl (fun ad => ae_sr_c (⟨_, rfl, by constructor <;> (show _ ≤ _) <;> omega⟩) (ae_sr_c (⟨_, rfl, by constructor <;> (show _ ≤ _) <;> omega⟩) (rfl))) ae_h_run_3
    · skip
      exact law_brS S (as := [.inl (.inr (2147483652, 2147483655)), .inl (.inr (2147483648, 2147483651))]) (n := 40000) law_ck8 rfl rfl rfl (fun ad => ae_sr_c (⟨_, rfl, by constructor <;> (show _ ≤ _) <;> omega⟩) (ae_sr_c (⟨_, rfl, by constructor <;> (show _ ≤ _) <;> omega⟩) (rfl))) ae_h_run_3
    · skip
      exact law_brS S (as := [.inl (.inr (2147483654, 2147483655)), .inl (.inr (2147483652, 2147483653))]) (n := 40000) law_ck8 rfl rfl rfl (fun ad => ae_sr_c (⟨_, rfl, by constructor <;> (show _ ≤ _) <;> omega⟩) (ae_sr_c (⟨_, rfl, by constructor <;> (show _ ≤ _) <;> omega⟩) (rfl))) ae_h_run_7
    · skip
      exact law_brS S (as := [.inl (.inr (2147483654, 2147483655)), .inl (.inr (2147483652, 2147483653))]) (n := 40000) law_ck8 rfl rfl rfl (fun ad => ae_sr_c (⟨_, rfl, by constructor <;> (show _ ≤ _) <;> omega⟩) (ae_sr_c (⟨_, rfl, by constructor <;> (show _ ≤ _) <;> omega⟩) (rfl))) ae_h_run_7
    · skip
      exact law_brS S (as := [ae_i 6, ae_i 6]) (n := 40000) law_ck8 rfl rfl rfl (fun ad => ae_sr_c (⟨_, rfl, ae_kn 6 (by omega) (by omega)⟩) (ae_sr_c (⟨_, rfl, ae_kn 6 (by omega) (by omega)⟩) (rfl))) ae_t_run_10
    · skip
      exact law_brS S (as := [ae_i 6, ae_i 7]) (n := 40000) law_ck8 rfl rfl rfl (fun ad => ae_sr_c (⟨_, rfl, ae_kn 6 (by omega) (by omega)⟩) (ae_sr_c (⟨_, rfl, ae_kn 7 (by omega) (by omega)⟩) (rfl))) ae_h_run_14
    · skip
      exact law_brS S (as := [.inl (.inr (2147483648, 2147483655)), .inl (.inr (2147483656, 4294967295))]) (n := 40000) law_ck8 rfl rfl rfl (fun ad => ae_sr_c (⟨_, rfl, by constructor <;> (show _ ≤ _) <;> omega⟩) (ae_sr_c (⟨_, rfl, by constructor <;> (show _ ≤ _) <;> omega⟩) (rfl))) ae_t_run_3
  · skip
    rcases (show (0 ≤ ae_bi (xs 2) ∧ ae_bi (xs 2) ≤ 2147483647) ∨ (2147483648 ≤ ae_bi (xs 2) ∧ ae_bi (xs 2) ≤ 2147483648) ∨ (2147483649 ≤ ae_bi (xs 2) ∧ ae_bi (xs 2) ≤ 2147483649) ∨ (2147483650 ≤ ae_bi (xs 2) ∧ ae_bi (xs 2) ≤ 2147483650) ∨ (2147483651 ≤ ae_bi (xs 2) ∧ ae_bi (xs 2) ≤ 2147483651) ∨ (2147483652 ≤ ae_bi (xs 2) ∧ ae_bi (xs 2) ≤ 2147483652) ∨ (2147483653 ≤ ae_bi (xs 2) ∧ ae_bi (xs 2) ≤ 2147483653) ∨ (2147483654 ≤ ae_bi (xs 2) ∧ ae_bi (xs 2) ≤ 2147483654) ∨ (2147483655 ≤ ae_bi (xs 2) ∧ ae_bi (xs 2) ≤ 2147483655) ∨ (2147483656 ≤ ae_bi (xs 2) ∧ ae_bi (xs 2) ≤ 4294967295) by omega) with hq2 | hq2 | hq2 | hq2 | hq2 | hq2 | hq2 | hq2 | hq2 | hq2
    · skip
      exact law_brS S (as := [.inl (.inr (2147483648, 2147483655)), .inl (.inr (0, 2147483647))]) (n := 40000) law_ck8 rfl rfl rfl (fun ad => ae_sr_c (⟨_, rfl, by constructor <;> (show _ ≤ _) <;> omega⟩) (ae_sr_c (⟨_, rfl, by constructor <;> (show _ ≤ _) <;> omega⟩) (rfl))) ae_t_run_2
    · skip
      exact law_brS S (as := [.inl (.inr (2147483652, 2147483655)), .inl (.inr (2147483648, 2147483651))]) (n := 40000) law_ck8 rfl rfl rfl (fun ad => ae_sr_c (⟨_, rfl, by constructor <;> (show _ ≤ _) <;> omega⟩) (ae_sr_c (⟨_, rfl, by constructor <;> (show _ ≤ _) <;> omega⟩) (rfl))) ae_h_run_3
    · skip
      exact law_brS S (as := [.inl (.inr (2147483652, 2147483655)), .inl (.inr (2147483648, 2147483651))]) (n := 40000) law_ck8 rfl rfl rfl (fun ad => ae_sr_c (⟨_, rfl, by constructor <;> (show _ ≤ _) <;> omega⟩) (ae_sr_c (⟨_, rfl, by constructor <;> (show _ ≤ _) <;> omega⟩) (rfl))) ae_h_run_3
    · skip
      exact law_brS S (as := [.inl (.inr (2147483652, 2147483655)), .inl (.inr (2147483648, 2147483651))]) (n := 40000) law_ck8 rfl rfl rfl (fun ad => ae_sr_c (⟨_, rfl, by constructor <;> (show _ ≤ _) <;> omega⟩) (ae_sr_c (⟨_, rfl, by constructor <;> (show _ ≤ _) <;> omega⟩) (rfl))) ae_h_run_3
    · skip
      exact law_brS S (as := [.inl (.inr (2147483652, 2147483655)), .inl (.inr (2147483648, 2147483651))]) (n := 40000) law_ck8 rfl rfl rfl (fun ad => ae_sr_c (⟨_, rfl, by constructor <;> (show _ ≤ _) <;> omega⟩) (ae_sr_c (⟨_, rfl, by constructor <;> (show _ ≤ _) <;> omega⟩) (rfl))) ae_h_run_3
    · skip
      exact law_brS S (as := [.inl (.inr (2147483654, 2147483655)), .inl (.inr (2147483652, 2147483653))]) (n := 40000) law_ck8 rfl rfl rfl (fun ad => ae_sr_c (⟨_, rfl, by constructor <;> (show _ ≤ _) <;> omega⟩) (ae_sr_c (⟨_, rfl, by constructor <;> (show _ ≤ _) <;> omega⟩) (rfl))) ae_h_run_7
    · skip
      exact law_brS S (as := [.inl (.inr (2147483654, 2147483655)), .inl (.inr (2147483652, 2147483653))]) (n := 40000) law_ck8 rfl rfl rfl (fun ad => ae_sr_c (⟨_, rfl, by constructor <;> (show _ ≤ _) <;> omega⟩) (ae_sr_c (⟨_, rfl, by constructor <;> (show _ ≤ _) <;> omega⟩) (rfl))) ae_h_run_7
    · skip
      exact law_brS S (as := [ae_i 7, ae_i 6]) (n := 40000) law_ck8 rfl rfl rfl (fun ad => ae_sr_c (⟨_, rfl, ae_kn 7 (by omega) (by omega)⟩) (ae_sr_c (⟨_, rfl, ae_kn 6 (by omega) (by omega)⟩) (rfl))) ae_h_run_15
    · skip
      exact law_brS S (as := [ae_i 7, ae_i 7]) (n := 40000) law_ck8 rfl rfl rfl (fun ad => ae_sr_c (⟨_, rfl, ae_kn 7 (by omega) (by omega)⟩) (ae_sr_c (⟨_, rfl, ae_kn 7 (by omega) (by omega)⟩) (rfl))) ae_t_run_11
    · skip
      exact law_brS S (as := [.inl (.inr (2147483648, 2147483655)), .inl (.inr (2147483656, 4294967295))]) (n := 40000) law_ck8 rfl rfl rfl (fun ad => ae_sr_c (⟨_, rfl, by constructor <;> (show _ ≤ _) <;> omega⟩) (ae_sr_c (⟨_, rfl, by constructor <;> (show _ ≤ _) <;> omega⟩) (rfl))) ae_t_run_3
  · skip
    exact law_brS S (as := [.inl (.inr (2147483656, 4294967295)), ae_top]) (n := 40000) law_ck8 rfl rfl rfl (fun ad => ae_sr_c (⟨_, rfl, by constructor <;> (show _ ≤ _) <;> omega⟩) (ae_sr_c (ae_vr_top _) (rfl))) ae_t_run_1
theorem law_ck9 : ae_bk 524 [1] 74 77 531 535 541 = true := by decide +kernel
theorem law_op9 (S : ae_St p l e s m below meth c D kA b xs x0 m0 o0 ce sl ws H locs ls Q) : W p l e room_1 s m #[Value.ref b] below meth c H locs ce sl Q (F0 m 524 ls []) := by
  have hz1 := ae_bi_lt (xs 1)
  exact law_brS S (as := [ae_top]) (n := 40000) law_ck9 rfl rfl rfl (fun ad => ae_sr_c (ae_vr_top _) (rfl)) ae_t_ran_0
theorem law_ck12 : ae_bk 673 [1, 2] 86 90 686 690 702 = true := by decide +kernel
theorem law_op12 (S : ae_St p l e s m below meth c D kA b xs x0 m0 o0 ce sl ws H locs ls Q) : W p l e room_1 s m #[Value.ref b] below meth c H locs ce sl Q (F0 m 673 ls []) := by
  have hz1 := ae_bi_lt (xs 1)
  have hz2 := ae_bi_lt (xs 2)
  rcases (show (0 ≤ ae_bi (xs 1) ∧ ae_bi (xs 1) ≤ 2147483647) ∨ (2147483648 ≤ ae_bi (xs 1) ∧ ae_bi (xs 1) ≤ 2147483648) ∨ (2147483649 ≤ ae_bi (xs 1) ∧ ae_bi (xs 1) ≤ 2147483649) ∨ (2147483650 ≤ ae_bi (xs 1) ∧ ae_bi (xs 1) ≤ 2147483650) ∨ (2147483651 ≤ ae_bi (xs 1) ∧ ae_bi (xs 1) ≤ 2147483651) ∨ (2147483652 ≤ ae_bi (xs 1) ∧ ae_bi (xs 1) ≤ 2147483652) ∨ (2147483653 ≤ ae_bi (xs 1) ∧ ae_bi (xs 1) ≤ 2147483653) ∨ (2147483654 ≤ ae_bi (xs 1) ∧ ae_bi (xs 1) ≤ 2147483654) ∨ (2147483655 ≤ ae_bi (xs 1) ∧ ae_bi (xs 1) ≤ 2147483655) ∨ (2147483656 ≤ ae_bi (xs 1) ∧ ae_bi (xs 1) ≤ 4294967295) by omega) with hq1 | hq1 | hq1 | hq1 | hq1 | hq1 | hq1 | hq1 | hq1 | hq1
  · skip
    exact law_brS S (as := [.inl (.inr (0, 2147483647)), ae_top]) (n := 40000) law_ck12 rfl rfl rfl (fun ad => ae_sr_c (⟨_, rfl, by constructor <;> (show _ ≤ _) <;> omega⟩) (ae_sr_c (ae_vr_top _) (rfl))) ae_t_pass_0
  · skip
    rcases (show (0 ≤ ae_bi (xs 2) ∧ ae_bi (xs 2) ≤ 2147483648) ∨ (2147483649 ≤ ae_bi (xs 2) ∧ ae_bi (xs 2) ≤ 2147483668) ∨ (2147483669 ≤ ae_bi (xs 2) ∧ ae_bi (xs 2) ≤ 4294967295) by omega) with hq2 | hq2 | hq2
    · skip
      exact law_brS S (as := [.inl (.inr (2147483648, 2147483655)), .inl (.inr (0, 2147483648))]) (n := 40000) law_ck12 rfl rfl rfl (fun ad => ae_sr_c (⟨_, rfl, by constructor <;> (show _ ≤ _) <;> omega⟩) (ae_sr_c (⟨_, rfl, by constructor <;> (show _ ≤ _) <;> omega⟩) (rfl))) ae_t_pass_2
    · skip
      exact law_brS S (as := [ae_i 0, .inl (.inr (2147483649, 2147483668))]) (n := 40000) law_ck12 rfl rfl rfl (fun ad => ae_sr_c (⟨_, rfl, ae_kn 0 (by omega) (by omega)⟩) (ae_sr_c (⟨_, rfl, by constructor <;> (show _ ≤ _) <;> omega⟩) (rfl))) ae_t_pass_4
    · skip
      exact law_brS S (as := [.inl (.inr (2147483648, 2147483655)), .inl (.inr (2147483669, 4294967295))]) (n := 40000) law_ck12 rfl rfl rfl (fun ad => ae_sr_c (⟨_, rfl, by constructor <;> (show _ ≤ _) <;> omega⟩) (ae_sr_c (⟨_, rfl, by constructor <;> (show _ ≤ _) <;> omega⟩) (rfl))) ae_t_pass_3
  · skip
    rcases (show (0 ≤ ae_bi (xs 2) ∧ ae_bi (xs 2) ≤ 2147483648) ∨ (2147483649 ≤ ae_bi (xs 2) ∧ ae_bi (xs 2) ≤ 2147483668) ∨ (2147483669 ≤ ae_bi (xs 2) ∧ ae_bi (xs 2) ≤ 4294967295) by omega) with hq2 | hq2 | hq2
    · skip
      exact law_brS S (as := [.inl (.inr (2147483648, 2147483655)), .inl (.inr (0, 2147483648))]) (n := 40000) law_ck12 rfl rfl rfl (fun ad => ae_sr_c (⟨_, rfl, by constructor <;> (show _ ≤ _) <;> omega⟩) (ae_sr_c (⟨_, rfl, by constructor <;> (show _ ≤ _) <;> omega⟩) (rfl))) ae_t_pass_2
    · skip
      exact law_brS S (as := [ae_i 1, .inl (.inr (2147483649, 2147483668))]) (n := 40000) law_ck12 rfl rfl rfl (fun ad => ae_sr_c (⟨_, rfl, ae_kn 1 (by omega) (by omega)⟩) (ae_sr_c (⟨_, rfl, by constructor <;> (show _ ≤ _) <;> omega⟩) (rfl))) ae_t_pass_5
    · skip
      exact law_brS S (as := [.inl (.inr (2147483648, 2147483655)), .inl (.inr (2147483669, 4294967295))]) (n := 40000) law_ck12 rfl rfl rfl (fun ad => ae_sr_c (⟨_, rfl, by constructor <;> (show _ ≤ _) <;> omega⟩) (ae_sr_c (⟨_, rfl, by constructor <;> (show _ ≤ _) <;> omega⟩) (rfl))) ae_t_pass_3
  · skip
    rcases (show (0 ≤ ae_bi (xs 2) ∧ ae_bi (xs 2) ≤ 2147483648) ∨ (2147483649 ≤ ae_bi (xs 2) ∧ ae_bi (xs 2) ≤ 2147483668) ∨ (2147483669 ≤ ae_bi (xs 2) ∧ ae_bi (xs 2) ≤ 4294967295) by omega) with hq2 | hq2 | hq2
    · skip
      exact law_brS S (as := [.inl (.inr (2147483648, 2147483655)), .inl (.inr (0, 2147483648))]) (n := 40000) law_ck12 rfl rfl rfl (fun ad => ae_sr_c (⟨_, rfl, by constructor <;> (show _ ≤ _) <;> omega⟩) (ae_sr_c (⟨_, rfl, by constructor <;> (show _ ≤ _) <;> omega⟩) (rfl))) ae_t_pass_2
    · skip
      exact law_brS S (as := [ae_i 2, .inl (.inr (2147483649, 2147483668))]) (n := 40000) law_ck12 rfl rfl rfl (fun ad => ae_sr_c (⟨_, rfl, ae_kn 2 (by omega) (by omega)⟩) (ae_sr_c (⟨_, rfl, by constructor <;> (show _ ≤ _) <;> omega⟩) (rfl))) ae_t_pass_6
    · skip
      exact law_brS S (as := [.inl (.inr (2147483648, 2147483655)), .inl (.inr (2147483669, 4294967295))]) (n := 40000) law_ck12 rfl rfl rfl (fun ad => ae_sr_c (⟨_, rfl, by constructor <;> (show _ ≤ _) <;> omega⟩) (ae_sr_c (⟨_, rfl, by constructor <;> (show _ ≤ _) <;> omega⟩) (rfl))) ae_t_pass_3
  · skip
    rcases (show (0 ≤ ae_bi (xs 2) ∧ ae_bi (xs 2) ≤ 2147483648) ∨ (2147483649 ≤ ae_bi (xs 2) ∧ ae_bi (xs 2) ≤ 2147483668) ∨ (2147483669 ≤ ae_bi (xs 2) ∧ ae_bi (xs 2) ≤ 4294967295) by omega) with hq2 | hq2 | hq2
    · skip
      exact law_brS S (as := [.inl (.inr (2147483648, 2147483655)), .inl (.inr (0, 2147483648))]) (n := 40000) law_ck12 rfl rfl rfl (fun ad => ae_sr_c (⟨_, rfl, by constructor <;> (show _ ≤ _) <;> omega⟩) (ae_sr_c (⟨_, rfl, by constructor <;> (show _ ≤ _) <;> omega⟩) (rfl))) ae_t_pass_2
    · skip
      exact law_brS S (as := [ae_i 3, .inl (.inr (2147483649, 2147483668))]) (n := 40000) law_ck12 rfl rfl rfl (fun ad => ae_sr_c (⟨_, rfl, ae_kn 3 (by omega) (by omega)⟩) (ae_sr_c (⟨_, rfl, by constructor <;> (show _ ≤ _) <;> omega⟩) (rfl))) ae_t_pass_7
    · skip
      exact law_brS S (as := [.inl (.inr (2147483648, 2147483655)), .inl (.inr (2147483669, 4294967295))]) (n := 40000) law_ck12 rfl rfl rfl (fun ad => ae_sr_c (⟨_, rfl, by constructor <;> (show _ ≤ _) <;> omega⟩) (ae_sr_c (⟨_, rfl, by constructor <;> (show _ ≤ _) <;> omega⟩) (rfl))) ae_t_pass_3
  · skip
    rcases (show (0 ≤ ae_bi (xs 2) ∧ ae_bi (xs 2) ≤ 2147483648) ∨ (2147483649 ≤ ae_bi (xs 2) ∧ ae_bi (xs 2) ≤ 2147483668) ∨ (2147483669 ≤ ae_bi (xs 2) ∧ ae_bi (xs 2) ≤ 4294967295) by omega) with hq2 | hq2 | hq2
    · skip
      exact law_brS S (as := [.inl (.inr (2147483648, 2147483655)), .inl (.inr (0, 2147483648))]) (n := 40000) law_ck12 rfl rfl rfl (fun ad => ae_sr_c (⟨_, rfl, by constructor <;> (show _ ≤ _) <;> omega⟩) (ae_sr_c (⟨_, rfl, by constructor <;> (show _ ≤ _) <;> omega⟩) (rfl))) ae_t_pass_2
    · skip
      exact law_brS S (as := [ae_i 4, .inl (.inr (2147483649, 2147483668))]) (n := 40000) law_ck12 rfl rfl rfl (fun ad => ae_sr_c (⟨_, rfl, ae_kn 4 (by omega) (by omega)⟩) (ae_sr_c (⟨_, rfl, by constructor <;> (show _ ≤ _) <;> omega⟩) (rfl))) ae_t_pass_8
    · skip
      exact law_brS S (as := [.inl (.inr (2147483648, 2147483655)), .inl (.inr (2147483669, 4294967295))]) (n := 40000) law_ck12 rfl rfl rfl (fun ad => ae_sr_c (⟨_, rfl, by constructor <;> (show _ ≤ _) <;> omega⟩) (ae_sr_c (⟨_, rfl, by constructor <;> (show _ ≤ _) <;> omega⟩) (rfl))) ae_t_pass_3
  · skip
    rcases (show (0 ≤ ae_bi (xs 2) ∧ ae_bi (xs 2) ≤ 2147483648) ∨ (2147483649 ≤ ae_bi (xs 2) ∧ ae_bi (xs 2) ≤ 2147483668) ∨ (2147483669 ≤ ae_bi (xs 2) ∧ ae_bi (xs 2) ≤ 4294967295) by omega) with hq2 | hq2 | hq2
    · skip
      exact law_brS S (as := [.inl (.inr (2147483648, 2147483655)), .inl (.inr (0, 2147483648))]) (n := 40000) law_ck12 rfl rfl rfl (fun ad => ae_sr_c (⟨_, rfl, by constructor <;> (show _ ≤ _) <;> omega⟩) (ae_sr_c (⟨_, rfl, by constructor <;> (show _ ≤ _) <;> omega⟩) (rfl))) ae_t_pass_2
    · skip
      exact law_brS S (as := [ae_i 5, .inl (.inr (2147483649, 2147483668))]) (n := 40000) law_ck12 rfl rfl rfl (fun ad => ae_sr_c (⟨_, rfl, ae_kn 5 (by omega) (by omega)⟩) (ae_sr_c (⟨_, rfl, by constructor <;> (show _ ≤ _) <;> omega⟩) (rfl))) ae_t_pass_9
    · skip
      exact law_brS S (as := [.inl (.inr (2147483648, 2147483655)), .inl (.inr (2147483669, 4294967295))]) (n := 40000) law_ck12 rfl rfl rfl (fun ad => ae_sr_c (⟨_, rfl, by constructor <;> (show _ ≤ _) <;> omega⟩) (ae_sr_c (⟨_, rfl, by constructor <;> (show _ ≤ _) <;> omega⟩) (rfl))) ae_t_pass_3
  · skip
    rcases (show (0 ≤ ae_bi (xs 2) ∧ ae_bi (xs 2) ≤ 2147483648) ∨ (2147483649 ≤ ae_bi (xs 2) ∧ ae_bi (xs 2) ≤ 2147483668) ∨ (2147483669 ≤ ae_bi (xs 2) ∧ ae_bi (xs 2) ≤ 4294967295) by omega) with hq2 | hq2 | hq2
    · skip
      exact law_brS S (as := [.inl (.inr (2147483648, 2147483655)), .inl (.inr (0, 2147483648))]) (n := 40000) law_ck12 rfl rfl rfl (fun ad => ae_sr_c (⟨_, rfl, by constructor <;> (show _ ≤ _) <;> omega⟩) (ae_sr_c (⟨_, rfl, by constructor <;> (show _ ≤ _) <;> omega⟩) (rfl))) ae_t_pass_2
    · skip
      exact law_brS S (as := [ae_i 6, .inl (.inr (2147483649, 2147483668))]) (n := 40000) law_ck12 rfl rfl rfl (fun ad => ae_sr_c (⟨_, rfl, ae_kn 6 (by omega) (by omega)⟩) (ae_sr_c (⟨_, rfl, by constructor <;> (show _ ≤ _) <;> omega⟩) (rfl))) ae_t_pass_10
    · skip
      exact law_brS S (as := [.inl (.inr (2147483648, 2147483655)), .inl (.inr (2147483669, 4294967295))]) (n := 40000) law_ck12 rfl rfl rfl (fun ad => ae_sr_c (⟨_, rfl, by constructor <;> (show _ ≤ _) <;> omega⟩) (ae_sr_c (⟨_, rfl, by constructor <;> (show _ ≤ _) <;> omega⟩) (rfl))) ae_t_pass_3
  · skip
    rcases (show (0 ≤ ae_bi (xs 2) ∧ ae_bi (xs 2) ≤ 2147483648) ∨ (2147483649 ≤ ae_bi (xs 2) ∧ ae_bi (xs 2) ≤ 2147483668) ∨ (2147483669 ≤ ae_bi (xs 2) ∧ ae_bi (xs 2) ≤ 4294967295) by omega) with hq2 | hq2 | hq2
    · skip
      exact law_brS S (as := [.inl (.inr (2147483648, 2147483655)), .inl (.inr (0, 2147483648))]) (n := 40000) law_ck12 rfl rfl rfl (fun ad => ae_sr_c (⟨_, rfl, by constructor <;> (show _ ≤ _) <;> omega⟩) (ae_sr_c (⟨_, rfl, by constructor <;> (show _ ≤ _) <;> omega⟩) (rfl))) ae_t_pass_2
    · skip
      exact law_brS S (as := [ae_i 7, .inl (.inr (2147483649, 2147483668))]) (n := 40000) law_ck12 rfl rfl rfl (fun ad => ae_sr_c (⟨_, rfl, ae_kn 7 (by omega) (by omega)⟩) (ae_sr_c (⟨_, rfl, by constructor <;> (show _ ≤ _) <;> omega⟩) (rfl))) ae_t_pass_11
    · skip
      exact law_brS S (as := [.inl (.inr (2147483648, 2147483655)), .inl (.inr (2147483669, 4294967295))]) (n := 40000) law_ck12 rfl rfl rfl (fun ad => ae_sr_c (⟨_, rfl, by constructor <;> (show _ ≤ _) <;> omega⟩) (ae_sr_c (⟨_, rfl, by constructor <;> (show _ ≤ _) <;> omega⟩) (rfl))) ae_t_pass_3
  · skip
    exact law_brS S (as := [.inl (.inr (2147483656, 4294967295)), ae_top]) (n := 40000) law_ck12 rfl rfl rfl (fun ad => ae_sr_c (⟨_, rfl, by constructor <;> (show _ ≤ _) <;> omega⟩) (ae_sr_c (ae_vr_top _) (rfl))) ae_t_pass_1
theorem law_ck13 : ae_bk 710 [1] 91 94 717 721 727 = true := by decide +kernel
theorem law_op13 (S : ae_St p l e s m below meth c D kA b xs x0 m0 o0 ce sl ws H locs ls Q) : W p l e room_1 s m #[Value.ref b] below meth c H locs ce sl Q (F0 m 710 ls []) := by
  have hz1 := ae_bi_lt (xs 1)
  rcases (show (0 ≤ ae_bi (xs 1) ∧ ae_bi (xs 1) ≤ 2147483647) ∨ (2147483648 ≤ ae_bi (xs 1) ∧ ae_bi (xs 1) ≤ 2147483655) ∨ (2147483656 ≤ ae_bi (xs 1) ∧ ae_bi (xs 1) ≤ 4294967295) by omega) with hq1 | hq1 | hq1
  · skip
    exact law_brS S (as := [.inl (.inr (0, 2147483647))]) (n := 40000) law_ck13 rfl rfl rfl (fun ad => ae_sr_c (⟨_, rfl, by constructor <;> (show _ ≤ _) <;> omega⟩) (rfl)) ae_t_idle_0
  · skip
    exact law_brS S (as := [.inl (.inr (2147483648, 2147483655))]) (n := 40000) law_ck13 rfl rfl rfl (fun ad => ae_sr_c (⟨_, rfl, by constructor <;> (show _ ≤ _) <;> omega⟩) (rfl)) ae_h_idle_0
  · skip
    exact law_brS S (as := [.inl (.inr (2147483656, 4294967295))]) (n := 40000) law_ck13 rfl rfl rfl (fun ad => ae_sr_c (⟨_, rfl, by constructor <;> (show _ ≤ _) <;> omega⟩) (rfl)) ae_t_idle_2
theorem law_ck14 : ae_bk 735 [1] 95 98 742 746 752 = true := by decide +kernel
theorem law_op14 (S : ae_St p l e s m below meth c D kA b xs x0 m0 o0 ce sl ws H locs ls Q) : W p l e room_1 s m #[Value.ref b] below meth c H locs ce sl Q (F0 m 735 ls []) := by
  have hz1 := ae_bi_lt (xs 1)
  rcases (show (0 ≤ ae_bi (xs 1) ∧ ae_bi (xs 1) ≤ 2147483647) ∨ (2147483648 ≤ ae_bi (xs 1) ∧ ae_bi (xs 1) ≤ 2147483648) ∨ (2147483649 ≤ ae_bi (xs 1) ∧ ae_bi (xs 1) ≤ 2147483649) ∨ (2147483650 ≤ ae_bi (xs 1) ∧ ae_bi (xs 1) ≤ 2147483650) ∨ (2147483651 ≤ ae_bi (xs 1) ∧ ae_bi (xs 1) ≤ 2147483651) ∨ (2147483652 ≤ ae_bi (xs 1) ∧ ae_bi (xs 1) ≤ 2147483652) ∨ (2147483653 ≤ ae_bi (xs 1) ∧ ae_bi (xs 1) ≤ 2147483653) ∨ (2147483654 ≤ ae_bi (xs 1) ∧ ae_bi (xs 1) ≤ 2147483654) ∨ (2147483655 ≤ ae_bi (xs 1) ∧ ae_bi (xs 1) ≤ 2147483655) ∨ (2147483656 ≤ ae_bi (xs 1) ∧ ae_bi (xs 1) ≤ 4294967295) by omega) with hq1 | hq1 | hq1 | hq1 | hq1 | hq1 | hq1 | hq1 | hq1 | hq1
  · skip
    exact law_brS S (as := [.inl (.inr (0, 2147483647))]) (n := 40000) law_ck14 rfl rfl rfl (fun ad => ae_sr_c (⟨_, rfl, by constructor <;> (show _ ≤ _) <;> omega⟩) (rfl)) ae_t_missing_0
  · skip
    exact law_brS S (as := [ae_i 0]) (n := 40000) law_ck14 rfl rfl rfl (fun ad => ae_sr_c (⟨_, rfl, ae_kn 0 (by omega) (by omega)⟩) (rfl)) ae_t_missing_1
  · skip
    exact law_brS S (as := [ae_i 1]) (n := 40000) law_ck14 rfl rfl rfl (fun ad => ae_sr_c (⟨_, rfl, ae_kn 1 (by omega) (by omega)⟩) (rfl)) ae_t_missing_2
  · skip
    exact law_brS S (as := [ae_i 2]) (n := 40000) law_ck14 rfl rfl rfl (fun ad => ae_sr_c (⟨_, rfl, ae_kn 2 (by omega) (by omega)⟩) (rfl)) ae_t_missing_3
  · skip
    exact law_brS S (as := [ae_i 3]) (n := 40000) law_ck14 rfl rfl rfl (fun ad => ae_sr_c (⟨_, rfl, ae_kn 3 (by omega) (by omega)⟩) (rfl)) ae_t_missing_4
  · skip
    exact law_brS S (as := [ae_i 4]) (n := 40000) law_ck14 rfl rfl rfl (fun ad => ae_sr_c (⟨_, rfl, ae_kn 4 (by omega) (by omega)⟩) (rfl)) ae_t_missing_5
  · skip
    exact law_brS S (as := [ae_i 5]) (n := 40000) law_ck14 rfl rfl rfl (fun ad => ae_sr_c (⟨_, rfl, ae_kn 5 (by omega) (by omega)⟩) (rfl)) ae_t_missing_6
  · skip
    exact law_brS S (as := [ae_i 6]) (n := 40000) law_ck14 rfl rfl rfl (fun ad => ae_sr_c (⟨_, rfl, ae_kn 6 (by omega) (by omega)⟩) (rfl)) ae_t_missing_7
  · skip
    exact law_brS S (as := [ae_i 7]) (n := 40000) law_ck14 rfl rfl rfl (fun ad => ae_sr_c (⟨_, rfl, ae_kn 7 (by omega) (by omega)⟩) (rfl)) ae_t_missing_8
  · skip
    exact law_brS S (as := [.inl (.inr (2147483656, 4294967295))]) (n := 40000) law_ck14 rfl rfl rfl (fun ad => ae_sr_c (⟨_, rfl, by constructor <;> (show _ ≤ _) <;> omega⟩) (rfl)) ae_t_missing_9
theorem law_ck15 : ae_bk 760 [1] 99 102 767 771 777 = true := by decide +kernel
theorem law_op15 (S : ae_St p l e s m below meth c D kA b xs x0 m0 o0 ce sl ws H locs ls Q) : W p l e room_1 s m #[Value.ref b] below meth c H locs ce sl Q (F0 m 760 ls []) := by
  have hz1 := ae_bi_lt (xs 1)
  rcases (show (0 ≤ ae_bi (xs 1) ∧ ae_bi (xs 1) ≤ 2147483647) ∨ (2147483648 ≤ ae_bi (xs 1) ∧ ae_bi (xs 1) ≤ 4294967295) by omega) with hq1 | hq1
  · skip
    exact law_brS S (as := [.inl (.inr (0, 2147483647))]) (n := 40000) law_ck15 rfl rfl rfl (fun ad => ae_sr_c (⟨_, rfl, by constructor <;> (show _ ≤ _) <;> omega⟩) (rfl)) ae_t_wire_0
  · skip
    exact law_brS S (as := [.inl (.inr (2147483648, 4294967295))]) (n := 40000) law_ck15 rfl rfl rfl (fun ad => ae_sr_c (⟨_, rfl, by constructor <;> (show _ ≤ _) <;> omega⟩) (rfl)) ae_t_wire_1
theorem law_ck16 : ae_bk 785 [1] 103 106 792 796 802 = true := by decide +kernel
theorem law_op16 (S : ae_St p l e s m below meth c D kA b xs x0 m0 o0 ce sl ws H locs ls Q) : W p l e room_1 s m #[Value.ref b] below meth c H locs ce sl Q (F0 m 785 ls []) := by
  have hz1 := ae_bi_lt (xs 1)
  rcases (show (0 ≤ ae_bi (xs 1) ∧ ae_bi (xs 1) ≤ 2147483647) ∨ (2147483648 ≤ ae_bi (xs 1) ∧ ae_bi (xs 1) ≤ 2147483655) ∨ (2147483656 ≤ ae_bi (xs 1) ∧ ae_bi (xs 1) ≤ 4294967295) by omega) with hq1 | hq1 | hq1
  · skip
    exact law_brS S (as := [.inl (.inr (0, 2147483647))]) (n := 40000) law_ck16 rfl rfl rfl (fun ad => ae_sr_c (⟨_, rfl, by constructor <;> (show _ ≤ _) <;> omega⟩) (rfl)) ae_t_tests_0
  · skip
    exact law_brS S (as := [.inl (.inr (2147483648, 2147483655))]) (n := 40000) law_ck16 rfl rfl rfl (fun ad => ae_sr_c (⟨_, rfl, by constructor <;> (show _ ≤ _) <;> omega⟩) (rfl)) ae_t_tests_1
  · skip
    exact law_brS S (as := [.inl (.inr (2147483656, 4294967295))]) (n := 40000) law_ck16 rfl rfl rfl (fun ad => ae_sr_c (⟨_, rfl, by constructor <;> (show _ ≤ _) <;> omega⟩) (rfl)) ae_t_tests_2
theorem law_ck17 : ae_bk 810 [] 107 110 811 815 815 = true := by decide +kernel
theorem law_op17 (S : ae_St p l e s m below meth c D kA b xs x0 m0 o0 ce sl ws H locs ls Q) : W p l e room_1 s m #[Value.ref b] below meth c H locs ce sl Q (F0 m 810 ls []) := by
  exact law_brS S (as := []) (n := 40000) law_ck17 rfl rfl rfl (fun ad => rfl) ae_t_testSet_0
theorem law_ck18 : ae_bk 823 [] 111 114 824 828 828 = true := by decide +kernel
theorem law_op18 (S : ae_St p l e s m below meth c D kA b xs x0 m0 o0 ce sl ws H locs ls Q) : W p l e room_1 s m #[Value.ref b] below meth c H locs ce sl Q (F0 m 823 ls []) := by
  exact law_brS S (as := []) (n := 40000) law_ck18 rfl rfl rfl (fun ad => rfl) ae_t_shown_0
theorem law_ck19 : ae_bk 836 [] 115 118 837 841 841 = true := by decide +kernel
theorem law_op19 (S : ae_St p l e s m below meth c D kA b xs x0 m0 o0 ce sl ws H locs ls Q) : W p l e room_1 s m #[Value.ref b] below meth c H locs ce sl Q (F0 m 836 ls []) := by
  exact law_brS S (as := []) (n := 40000) law_ck19 rfl rfl rfl (fun ad => rfl) ae_t_job_0
theorem law_ck20 : ae_bk 849 [] 119 122 850 854 854 = true := by decide +kernel
theorem law_op20 (S : ae_St p l e s m below meth c D kA b xs x0 m0 o0 ce sl ws H locs ls Q) : W p l e room_1 s m #[Value.ref b] below meth c H locs ce sl Q (F0 m 849 ls []) := by
  exact law_brS S (as := []) (n := 40000) law_ck20 rfl rfl rfl (fun ad => rfl) ae_t_runs_0
theorem law_ck21 : ae_bk 862 [1] 123 126 869 873 879 = true := by decide +kernel
theorem law_op21 (S : ae_St p l e s m below meth c D kA b xs x0 m0 o0 ce sl ws H locs ls Q) : W p l e room_1 s m #[Value.ref b] below meth c H locs ce sl Q (F0 m 862 ls []) := by
  have hz1 := ae_bi_lt (xs 1)
  rcases (show (0 ≤ ae_bi (xs 1) ∧ ae_bi (xs 1) ≤ 2147483647) ∨ (2147483648 ≤ ae_bi (xs 1) ∧ ae_bi (xs 1) ≤ 4294967295) by omega) with hq1 | hq1
  · skip
    exact law_brS S (as := [.inl (.inr (0, 2147483647))]) (n := 40000) law_ck21 rfl rfl rfl (fun ad => ae_sr_c (⟨_, rfl, by constructor <;> (show _ ≤ _) <;> omega⟩) (rfl)) ae_t_wants_0
  · skip
    exact law_brS S (as := [.inl (.inr (2147483648, 4294967295))]) (n := 40000) law_ck21 rfl rfl rfl (fun ad => ae_sr_c (⟨_, rfl, by constructor <;> (show _ ≤ _) <;> omega⟩) (rfl)) ae_t_wants_1
theorem law_ck22 : ae_bk 887 [1] 127 130 894 898 904 = true := by decide +kernel
theorem law_op22 (S : ae_St p l e s m below meth c D kA b xs x0 m0 o0 ce sl ws H locs ls Q) : W p l e room_1 s m #[Value.ref b] below meth c H locs ce sl Q (F0 m 887 ls []) := by
  have hz1 := ae_bi_lt (xs 1)
  rcases (show (0 ≤ ae_bi (xs 1) ∧ ae_bi (xs 1) ≤ 2147483647) ∨ (2147483648 ≤ ae_bi (xs 1) ∧ ae_bi (xs 1) ≤ 4294967295) by omega) with hq1 | hq1
  · skip
    exact law_brS S (as := [.inl (.inr (0, 2147483647))]) (n := 40000) law_ck22 rfl rfl rfl (fun ad => ae_sr_c (⟨_, rfl, by constructor <;> (show _ ≤ _) <;> omega⟩) (rfl)) ae_t_make_0
  · skip
    exact law_brS S (as := [.inl (.inr (2147483648, 4294967295))]) (n := 40000) law_ck22 rfl rfl rfl (fun ad => ae_sr_c (⟨_, rfl, by constructor <;> (show _ ≤ _) <;> omega⟩) (rfl)) ae_t_make_1
theorem law_ck23 : ae_bk 912 [1, 2] 131 134 925 929 941 = true := by decide +kernel
theorem law_op23 (S : ae_St p l e s m below meth c D kA b xs x0 m0 o0 ce sl ws H locs ls Q) : W p l e room_1 s m #[Value.ref b] below meth c H locs ce sl Q (F0 m 912 ls []) := by
  have hz1 := ae_bi_lt (xs 1)
  have hz2 := ae_bi_lt (xs 2)
  rcases (show (0 ≤ ae_bi (xs 1) ∧ ae_bi (xs 1) ≤ 2147483647) ∨ (2147483648 ≤ ae_bi (xs 1) ∧ ae_bi (xs 1) ≤ 2147483655) ∨ (2147483656 ≤ ae_bi (xs 1) ∧ ae_bi (xs 1) ≤ 4294967295) by omega) with hq1 | hq1 | hq1
  · skip
    rcases (show (0 ≤ ae_bi (xs 2) ∧ ae_bi (xs 2) ≤ 2147483647) ∨ (2147483648 ≤ ae_bi (xs 2) ∧ ae_bi (xs 2) ≤ 4294967295) by omega) with hq2 | hq2
    · skip
      exact law_brS S (as := [.inl (.inr (0, 2147483647)), .inl (.inr (0, 2147483647))]) (n := 40000) law_ck23 rfl rfl rfl (fun ad => ae_sr_c (⟨_, rfl, by constructor <;> (show _ ≤ _) <;> omega⟩) (ae_sr_c (⟨_, rfl, by constructor <;> (show _ ≤ _) <;> omega⟩) (rfl))) ae_t_wanted_0
    · skip
      exact law_brS S (as := [.inl (.inr (0, 2147483647)), .inl (.inr (2147483648, 4294967295))]) (n := 40000) law_ck23 rfl rfl rfl (fun ad => ae_sr_c (⟨_, rfl, by constructor <;> (show _ ≤ _) <;> omega⟩) (ae_sr_c (⟨_, rfl, by constructor <;> (show _ ≤ _) <;> omega⟩) (rfl))) ae_t_wanted_1
  · skip
    rcases (show (0 ≤ ae_bi (xs 2) ∧ ae_bi (xs 2) ≤ 2147483647) ∨ (2147483648 ≤ ae_bi (xs 2) ∧ ae_bi (xs 2) ≤ 4294967295) by omega) with hq2 | hq2
    · skip
      exact law_brS S (as := [.inl (.inr (2147483648, 2147483655)), .inl (.inr (0, 2147483647))]) (n := 40000) law_ck23 rfl rfl rfl (fun ad => ae_sr_c (⟨_, rfl, by constructor <;> (show _ ≤ _) <;> omega⟩) (ae_sr_c (⟨_, rfl, by constructor <;> (show _ ≤ _) <;> omega⟩) (rfl))) ae_t_wanted_2
    · skip
      exact law_brS S (as := [.inl (.inr (2147483648, 2147483655)), .inl (.inr (2147483648, 4294967295))]) (n := 40000) law_ck23 rfl rfl rfl (fun ad => ae_sr_c (⟨_, rfl, by constructor <;> (show _ ≤ _) <;> omega⟩) (ae_sr_c (⟨_, rfl, by constructor <;> (show _ ≤ _) <;> omega⟩) (rfl))) ae_t_wanted_3
  · skip
    rcases (show (0 ≤ ae_bi (xs 2) ∧ ae_bi (xs 2) ≤ 2147483647) ∨ (2147483648 ≤ ae_bi (xs 2) ∧ ae_bi (xs 2) ≤ 4294967295) by omega) with hq2 | hq2
    · skip
      exact law_brS S (as := [.inl (.inr (2147483656, 4294967295)), .inl (.inr (0, 2147483647))]) (n := 40000) law_ck23 rfl rfl rfl (fun ad => ae_sr_c (⟨_, rfl, by constructor <;> (show _ ≤ _) <;> omega⟩) (ae_sr_c (⟨_, rfl, by constructor <;> (show _ ≤ _) <;> omega⟩) (rfl))) ae_t_wanted_4
    · skip
      exact law_brS S (as := [.inl (.inr (2147483656, 4294967295)), .inl (.inr (2147483648, 4294967295))]) (n := 40000) law_ck23 rfl rfl rfl (fun ad => ae_sr_c (⟨_, rfl, by constructor <;> (show _ ≤ _) <;> omega⟩) (ae_sr_c (⟨_, rfl, by constructor <;> (show _ ≤ _) <;> omega⟩) (rfl))) ae_t_wanted_5
theorem law_ck25 : ae_bk 1017 [1, 2] 138 141 1030 1034 1046 = true := by decide +kernel
theorem law_op25 (S : ae_St p l e s m below meth c D kA b xs x0 m0 o0 ce sl ws H locs ls Q) : W p l e room_1 s m #[Value.ref b] below meth c H locs ce sl Q (F0 m 1017 ls []) := by
  have hz1 := ae_bi_lt (xs 1)
  have hz2 := ae_bi_lt (xs 2)
  rcases (show (0 ≤ ae_bi (xs 1) ∧ ae_bi (xs 1) ≤ 2147483647) ∨ (2147483648 ≤ ae_bi (xs 1) ∧ ae_bi (xs 1) ≤ 2147483655) ∨ (2147483656 ≤ ae_bi (xs 1) ∧ ae_bi (xs 1) ≤ 4294967295) by omega) with hq1 | hq1 | hq1
  · skip
    rcases (show (0 ≤ ae_bi (xs 2) ∧ ae_bi (xs 2) ≤ 2147483647) ∨ (2147483648 ≤ ae_bi (xs 2) ∧ ae_bi (xs 2) ≤ 4294967295) by omega) with hq2 | hq2
    · skip
      exact law_brS S (as := [.inl (.inr (0, 2147483647)), .inl (.inr (0, 2147483647))]) (n := 40000) law_ck25 rfl rfl rfl (fun ad => ae_sr_c (⟨_, rfl, by constructor <;> (show _ ≤ _) <;> omega⟩) (ae_sr_c (⟨_, rfl, by constructor <;> (show _ ≤ _) <;> omega⟩) (rfl))) ae_t_same_0
    · skip
      exact law_brS S (as := [.inl (.inr (0, 2147483647)), .inl (.inr (2147483648, 4294967295))]) (n := 40000) law_ck25 rfl rfl rfl (fun ad => ae_sr_c (⟨_, rfl, by constructor <;> (show _ ≤ _) <;> omega⟩) (ae_sr_c (⟨_, rfl, by constructor <;> (show _ ≤ _) <;> omega⟩) (rfl))) ae_t_same_1
  · skip
    rcases (show (0 ≤ ae_bi (xs 2) ∧ ae_bi (xs 2) ≤ 2147483647) ∨ (2147483648 ≤ ae_bi (xs 2) ∧ ae_bi (xs 2) ≤ 4294967295) by omega) with hq2 | hq2
    · skip
      exact law_brS S (as := [.inl (.inr (2147483648, 2147483655)), .inl (.inr (0, 2147483647))]) (n := 40000) law_ck25 rfl rfl rfl (fun ad => ae_sr_c (⟨_, rfl, by constructor <;> (show _ ≤ _) <;> omega⟩) (ae_sr_c (⟨_, rfl, by constructor <;> (show _ ≤ _) <;> omega⟩) (rfl))) ae_t_same_2
    · skip
      exact law_brS S (as := [.inl (.inr (2147483648, 2147483655)), .inl (.inr (2147483648, 4294967295))]) (n := 40000) law_ck25 rfl rfl rfl (fun ad => ae_sr_c (⟨_, rfl, by constructor <;> (show _ ≤ _) <;> omega⟩) (ae_sr_c (⟨_, rfl, by constructor <;> (show _ ≤ _) <;> omega⟩) (rfl))) ae_t_same_3
  · skip
    rcases (show (0 ≤ ae_bi (xs 2) ∧ ae_bi (xs 2) ≤ 2147483647) ∨ (2147483648 ≤ ae_bi (xs 2) ∧ ae_bi (xs 2) ≤ 4294967295) by omega) with hq2 | hq2
    · skip
      exact law_brS S (as := [.inl (.inr (2147483656, 4294967295)), .inl (.inr (0, 2147483647))]) (n := 40000) law_ck25 rfl rfl rfl (fun ad => ae_sr_c (⟨_, rfl, by constructor <;> (show _ ≤ _) <;> omega⟩) (ae_sr_c (⟨_, rfl, by constructor <;> (show _ ≤ _) <;> omega⟩) (rfl))) ae_t_same_4
    · skip
      exact law_brS S (as := [.inl (.inr (2147483656, 4294967295)), .inl (.inr (2147483648, 4294967295))]) (n := 40000) law_ck25 rfl rfl rfl (fun ad => ae_sr_c (⟨_, rfl, by constructor <;> (show _ ≤ _) <;> omega⟩) (ae_sr_c (⟨_, rfl, by constructor <;> (show _ ≤ _) <;> omega⟩) (rfl))) ae_t_same_5
theorem law_ck26 : ae_bk 1054 [1] 142 145 1061 1065 1071 = true := by decide +kernel
theorem law_op26 (S : ae_St p l e s m below meth c D kA b xs x0 m0 o0 ce sl ws H locs ls Q) : W p l e room_1 s m #[Value.ref b] below meth c H locs ce sl Q (F0 m 1054 ls []) := by
  have hz1 := ae_bi_lt (xs 1)
  rcases (show (0 ≤ ae_bi (xs 1) ∧ ae_bi (xs 1) ≤ 2147483647) ∨ (2147483648 ≤ ae_bi (xs 1) ∧ ae_bi (xs 1) ≤ 2147483655) ∨ (2147483656 ≤ ae_bi (xs 1) ∧ ae_bi (xs 1) ≤ 4294967295) by omega) with hq1 | hq1 | hq1
  · skip
    exact law_brS S (as := [.inl (.inr (0, 2147483647))]) (n := 40000) law_ck26 rfl rfl rfl (fun ad => ae_sr_c (⟨_, rfl, by constructor <;> (show _ ≤ _) <;> omega⟩) (rfl)) ae_t_needed_0
  · skip
    exact law_brS S (as := [.inl (.inr (2147483648, 2147483655))]) (n := 40000) law_ck26 rfl rfl rfl (fun ad => ae_sr_c (⟨_, rfl, by constructor <;> (show _ ≤ _) <;> omega⟩) (rfl)) ae_t_needed_1
  · skip
    exact law_brS S (as := [.inl (.inr (2147483656, 4294967295))]) (n := 40000) law_ck26 rfl rfl rfl (fun ad => ae_sr_c (⟨_, rfl, by constructor <;> (show _ ≤ _) <;> omega⟩) (rfl)) ae_t_needed_2
theorem law_ck27 : ae_bk 1079 [] 146 149 1080 1084 1084 = true := by decide +kernel
theorem law_op27 (S : ae_St p l e s m below meth c D kA b xs x0 m0 o0 ce sl ws H locs ls Q) : W p l e room_1 s m #[Value.ref b] below meth c H locs ce sl Q (F0 m 1079 ls []) := by
  exact law_brS S (as := []) (n := 40000) law_ck27 rfl rfl rfl (fun ad => rfl) ae_t_neededSet_0
theorem law_ck28 : ae_bk 1092 [1] 150 153 1099 1103 1109 = true := by decide +kernel
theorem law_op28 (S : ae_St p l e s m below meth c D kA b xs x0 m0 o0 ce sl ws H locs ls Q) : W p l e room_1 s m #[Value.ref b] below meth c H locs ce sl Q (F0 m 1092 ls []) := by
  have hz1 := ae_bi_lt (xs 1)
  rcases (show (0 ≤ ae_bi (xs 1) ∧ ae_bi (xs 1) ≤ 2147483647) ∨ (2147483648 ≤ ae_bi (xs 1) ∧ ae_bi (xs 1) ≤ 2147483655) ∨ (2147483656 ≤ ae_bi (xs 1) ∧ ae_bi (xs 1) ≤ 4294967295) by omega) with hq1 | hq1 | hq1
  · skip
    exact law_brS S (as := [.inl (.inr (0, 2147483647))]) (n := 40000) law_ck28 rfl rfl rfl (fun ad => ae_sr_c (⟨_, rfl, by constructor <;> (show _ ≤ _) <;> omega⟩) (rfl)) ae_t_unseen_0
  · skip
    exact law_brS S (as := [.inl (.inr (2147483648, 2147483655))]) (n := 40000) law_ck28 rfl rfl rfl (fun ad => ae_sr_c (⟨_, rfl, by constructor <;> (show _ ≤ _) <;> omega⟩) (rfl)) ae_h_unseen_1
  · skip
    exact law_brS S (as := [.inl (.inr (2147483656, 4294967295))]) (n := 40000) law_ck28 rfl rfl rfl (fun ad => ae_sr_c (⟨_, rfl, by constructor <;> (show _ ≤ _) <;> omega⟩) (rfl)) ae_t_unseen_2
theorem law_ck29 : ae_bk 1117 [1] 154 157 1124 1128 1134 = true := by decide +kernel
theorem law_op29 (S : ae_St p l e s m below meth c D kA b xs x0 m0 o0 ce sl ws H locs ls Q) : W p l e room_1 s m #[Value.ref b] below meth c H locs ce sl Q (F0 m 1117 ls []) := by
  have hz1 := ae_bi_lt (xs 1)
  rcases (show (0 ≤ ae_bi (xs 1) ∧ ae_bi (xs 1) ≤ 2147483647) ∨ (2147483648 ≤ ae_bi (xs 1) ∧ ae_bi (xs 1) ≤ 4294967295) by omega) with hq1 | hq1
  · skip
    exact law_brS S (as := [.inl (.inr (0, 2147483647))]) (n := 40000) law_ck29 rfl rfl rfl (fun ad => ae_sr_c (⟨_, rfl, by constructor <;> (show _ ≤ _) <;> omega⟩) (rfl)) ae_t_unseenAt_0
  · skip
    exact law_brS S (as := [.inl (.inr (2147483648, 4294967295))]) (n := 40000) law_ck29 rfl rfl rfl (fun ad => ae_sr_c (⟨_, rfl, by constructor <;> (show _ ≤ _) <;> omega⟩) (rfl)) ae_t_unseenAt_1
theorem law_ck30 : ae_bk 1142 [1] 158 161 1149 1153 1159 = true := by decide +kernel
theorem law_op30 (S : ae_St p l e s m below meth c D kA b xs x0 m0 o0 ce sl ws H locs ls Q) : W p l e room_1 s m #[Value.ref b] below meth c H locs ce sl Q (F0 m 1142 ls []) := by
  have hz1 := ae_bi_lt (xs 1)
  rcases (show (0 ≤ ae_bi (xs 1) ∧ ae_bi (xs 1) ≤ 2147483647) ∨ (2147483648 ≤ ae_bi (xs 1) ∧ ae_bi (xs 1) ≤ 2147483648) ∨ (2147483649 ≤ ae_bi (xs 1) ∧ ae_bi (xs 1) ≤ 2147483649) ∨ (2147483650 ≤ ae_bi (xs 1) ∧ ae_bi (xs 1) ≤ 2147483650) ∨ (2147483651 ≤ ae_bi (xs 1) ∧ ae_bi (xs 1) ≤ 2147483651) ∨ (2147483652 ≤ ae_bi (xs 1) ∧ ae_bi (xs 1) ≤ 2147483652) ∨ (2147483653 ≤ ae_bi (xs 1) ∧ ae_bi (xs 1) ≤ 2147483653) ∨ (2147483654 ≤ ae_bi (xs 1) ∧ ae_bi (xs 1) ≤ 2147483654) ∨ (2147483655 ≤ ae_bi (xs 1) ∧ ae_bi (xs 1) ≤ 2147483655) ∨ (2147483656 ≤ ae_bi (xs 1) ∧ ae_bi (xs 1) ≤ 4294967295) by omega) with hq1 | hq1 | hq1 | hq1 | hq1 | hq1 | hq1 | hq1 | hq1 | hq1
  · skip
    exact law_brS S (as := [.inl (.inr (0, 2147483647))]) (n := 40000) law_ck30 rfl rfl rfl (fun ad => ae_sr_c (⟨_, rfl, by constructor <;> (show _ ≤ _) <;> omega⟩) (rfl)) ae_t_moves_0
  · skip
    exact law_brS S (as := [ae_i 0]) (n := 40000) law_ck30 rfl rfl rfl (fun ad => ae_sr_c (⟨_, rfl, ae_kn 0 (by omega) (by omega)⟩) (rfl)) ae_t_moves_1
  · skip
    exact law_brS S (as := [ae_i 1]) (n := 40000) law_ck30 rfl rfl rfl (fun ad => ae_sr_c (⟨_, rfl, ae_kn 1 (by omega) (by omega)⟩) (rfl)) ae_t_moves_2
  · skip
    exact law_brS S (as := [ae_i 2]) (n := 40000) law_ck30 rfl rfl rfl (fun ad => ae_sr_c (⟨_, rfl, ae_kn 2 (by omega) (by omega)⟩) (rfl)) ae_t_moves_3
  · skip
    exact law_brS S (as := [ae_i 3]) (n := 40000) law_ck30 rfl rfl rfl (fun ad => ae_sr_c (⟨_, rfl, ae_kn 3 (by omega) (by omega)⟩) (rfl)) ae_t_moves_4
  · skip
    exact law_brS S (as := [ae_i 4]) (n := 40000) law_ck30 rfl rfl rfl (fun ad => ae_sr_c (⟨_, rfl, ae_kn 4 (by omega) (by omega)⟩) (rfl)) ae_t_moves_5
  · skip
    exact law_brS S (as := [ae_i 5]) (n := 40000) law_ck30 rfl rfl rfl (fun ad => ae_sr_c (⟨_, rfl, ae_kn 5 (by omega) (by omega)⟩) (rfl)) ae_t_moves_6
  · skip
    exact law_brS S (as := [ae_i 6]) (n := 40000) law_ck30 rfl rfl rfl (fun ad => ae_sr_c (⟨_, rfl, ae_kn 6 (by omega) (by omega)⟩) (rfl)) ae_t_moves_7
  · skip
    exact law_brS S (as := [ae_i 7]) (n := 40000) law_ck30 rfl rfl rfl (fun ad => ae_sr_c (⟨_, rfl, ae_kn 7 (by omega) (by omega)⟩) (rfl)) ae_t_moves_8
  · skip
    exact law_brS S (as := [.inl (.inr (2147483656, 4294967295))]) (n := 40000) law_ck30 rfl rfl rfl (fun ad => ae_sr_c (⟨_, rfl, by constructor <;> (show _ ≤ _) <;> omega⟩) (rfl)) ae_t_moves_9
theorem law_ck31 : ae_bk 1167 [1, 2] 162 165 1180 1184 1196 = true := by decide +kernel
theorem law_op31 (S : ae_St p l e s m below meth c D kA b xs x0 m0 o0 ce sl ws H locs ls Q) : W p l e room_1 s m #[Value.ref b] below meth c H locs ce sl Q (F0 m 1167 ls []) := by
  have hz1 := ae_bi_lt (xs 1)
  have hz2 := ae_bi_lt (xs 2)
  rcases (show (0 ≤ ae_bi (xs 1) ∧ ae_bi (xs 1) ≤ 2147483647) ∨ (2147483648 ≤ ae_bi (xs 1) ∧ ae_bi (xs 1) ≤ 4294967295) by omega) with hq1 | hq1
  · skip
    exact law_brS S (as := [.inl (.inr (0, 2147483647)), ae_top]) (n := 40000) law_ck31 rfl rfl rfl (fun ad => ae_sr_c (⟨_, rfl, by constructor <;> (show _ ≤ _) <;> omega⟩) (ae_sr_c (ae_vr_top _) (rfl))) ae_t_move_0
  · skip
    exact law_brS S (as := [.inl (.inr (2147483648, 4294967295)), ae_top]) (n := 40000) law_ck31 rfl rfl rfl (fun ad => ae_sr_c (⟨_, rfl, by constructor <;> (show _ ≤ _) <;> omega⟩) (ae_sr_c (ae_vr_top _) (rfl))) ae_t_move_1
theorem law_ck32 : ae_bk 1204 [1] 166 169 1211 1215 1221 = true := by decide +kernel
theorem law_op32 (S : ae_St p l e s m below meth c D kA b xs x0 m0 o0 ce sl ws H locs ls Q) : W p l e room_1 s m #[Value.ref b] below meth c H locs ce sl Q (F0 m 1204 ls []) := by
  have hz1 := ae_bi_lt (xs 1)
  rcases (show (0 ≤ ae_bi (xs 1) ∧ ae_bi (xs 1) ≤ 2147483647) ∨ (2147483648 ≤ ae_bi (xs 1) ∧ ae_bi (xs 1) ≤ 2147483648) ∨ (2147483649 ≤ ae_bi (xs 1) ∧ ae_bi (xs 1) ≤ 2147483649) ∨ (2147483650 ≤ ae_bi (xs 1) ∧ ae_bi (xs 1) ≤ 2147483650) ∨ (2147483651 ≤ ae_bi (xs 1) ∧ ae_bi (xs 1) ≤ 2147483651) ∨ (2147483652 ≤ ae_bi (xs 1) ∧ ae_bi (xs 1) ≤ 2147483652) ∨ (2147483653 ≤ ae_bi (xs 1) ∧ ae_bi (xs 1) ≤ 2147483653) ∨ (2147483654 ≤ ae_bi (xs 1) ∧ ae_bi (xs 1) ≤ 2147483654) ∨ (2147483655 ≤ ae_bi (xs 1) ∧ ae_bi (xs 1) ≤ 2147483655) ∨ (2147483656 ≤ ae_bi (xs 1) ∧ ae_bi (xs 1) ≤ 4294967295) by omega) with hq1 | hq1 | hq1 | hq1 | hq1 | hq1 | hq1 | hq1 | hq1 | hq1
  · skip
    exact law_brS S (as := [.inl (.inr (0, 2147483647))]) (n := 40000) law_ck32 rfl rfl rfl (fun ad => ae_sr_c (⟨_, rfl, by constructor <;> (show _ ≤ _) <;> omega⟩) (rfl)) ae_t_keep_0
  · skip
    exact law_brS S (as := [ae_i 0]) (n := 40000) law_ck32 rfl rfl rfl (fun ad => ae_sr_c (⟨_, rfl, ae_kn 0 (by omega) (by omega)⟩) (rfl)) ae_t_keep_1
  · skip
    exact law_brS S (as := [ae_i 1]) (n := 40000) law_ck32 rfl rfl rfl (fun ad => ae_sr_c (⟨_, rfl, ae_kn 1 (by omega) (by omega)⟩) (rfl)) ae_t_keep_2
  · skip
    exact law_brS S (as := [ae_i 2]) (n := 40000) law_ck32 rfl rfl rfl (fun ad => ae_sr_c (⟨_, rfl, ae_kn 2 (by omega) (by omega)⟩) (rfl)) ae_t_keep_3
  · skip
    exact law_brS S (as := [ae_i 3]) (n := 40000) law_ck32 rfl rfl rfl (fun ad => ae_sr_c (⟨_, rfl, ae_kn 3 (by omega) (by omega)⟩) (rfl)) ae_t_keep_4
  · skip
    exact law_brS S (as := [ae_i 4]) (n := 40000) law_ck32 rfl rfl rfl (fun ad => ae_sr_c (⟨_, rfl, ae_kn 4 (by omega) (by omega)⟩) (rfl)) ae_t_keep_5
  · skip
    exact law_brS S (as := [ae_i 5]) (n := 40000) law_ck32 rfl rfl rfl (fun ad => ae_sr_c (⟨_, rfl, ae_kn 5 (by omega) (by omega)⟩) (rfl)) ae_t_keep_6
  · skip
    exact law_brS S (as := [ae_i 6]) (n := 40000) law_ck32 rfl rfl rfl (fun ad => ae_sr_c (⟨_, rfl, ae_kn 6 (by omega) (by omega)⟩) (rfl)) ae_t_keep_7
  · skip
    exact law_brS S (as := [ae_i 7]) (n := 40000) law_ck32 rfl rfl rfl (fun ad => ae_sr_c (⟨_, rfl, ae_kn 7 (by omega) (by omega)⟩) (rfl)) ae_t_keep_8
  · skip
    exact law_brS S (as := [.inl (.inr (2147483656, 4294967295))]) (n := 40000) law_ck32 rfl rfl rfl (fun ad => ae_sr_c (⟨_, rfl, by constructor <;> (show _ ≤ _) <;> omega⟩) (rfl)) ae_t_keep_9
theorem law_ck33 : ae_bk 1229 [1] 170 173 1236 1240 1246 = true := by decide +kernel
theorem law_op33 (S : ae_St p l e s m below meth c D kA b xs x0 m0 o0 ce sl ws H locs ls Q) : W p l e room_1 s m #[Value.ref b] below meth c H locs ce sl Q (F0 m 1229 ls []) := by
  have hz1 := ae_bi_lt (xs 1)
  rcases (show (0 ≤ ae_bi (xs 1) ∧ ae_bi (xs 1) ≤ 2147483647) ∨ (2147483648 ≤ ae_bi (xs 1) ∧ ae_bi (xs 1) ≤ 2147483648) ∨ (2147483649 ≤ ae_bi (xs 1) ∧ ae_bi (xs 1) ≤ 2147483649) ∨ (2147483650 ≤ ae_bi (xs 1) ∧ ae_bi (xs 1) ≤ 2147483650) ∨ (2147483651 ≤ ae_bi (xs 1) ∧ ae_bi (xs 1) ≤ 2147483651) ∨ (2147483652 ≤ ae_bi (xs 1) ∧ ae_bi (xs 1) ≤ 2147483652) ∨ (2147483653 ≤ ae_bi (xs 1) ∧ ae_bi (xs 1) ≤ 2147483653) ∨ (2147483654 ≤ ae_bi (xs 1) ∧ ae_bi (xs 1) ≤ 2147483654) ∨ (2147483655 ≤ ae_bi (xs 1) ∧ ae_bi (xs 1) ≤ 2147483655) ∨ (2147483656 ≤ ae_bi (xs 1) ∧ ae_bi (xs 1) ≤ 4294967295) by omega) with hq1 | hq1 | hq1 | hq1 | hq1 | hq1 | hq1 | hq1 | hq1 | hq1
  · skip
    exact law_brS S (as := [.inl (.inr (0, 2147483647))]) (n := 40000) law_ck33 rfl rfl rfl (fun ad => ae_sr_c (⟨_, rfl, by constructor <;> (show _ ≤ _) <;> omega⟩) (rfl)) ae_t_use_0
  · skip
    exact law_brS S (as := [ae_i 0]) (n := 40000) law_ck33 rfl rfl rfl (fun ad => ae_sr_c (⟨_, rfl, ae_kn 0 (by omega) (by omega)⟩) (rfl)) ae_t_use_1
  · skip
    exact law_brS S (as := [ae_i 1]) (n := 40000) law_ck33 rfl rfl rfl (fun ad => ae_sr_c (⟨_, rfl, ae_kn 1 (by omega) (by omega)⟩) (rfl)) ae_t_use_2
  · skip
    exact law_brS S (as := [ae_i 2]) (n := 40000) law_ck33 rfl rfl rfl (fun ad => ae_sr_c (⟨_, rfl, ae_kn 2 (by omega) (by omega)⟩) (rfl)) ae_t_use_3
  · skip
    exact law_brS S (as := [ae_i 3]) (n := 40000) law_ck33 rfl rfl rfl (fun ad => ae_sr_c (⟨_, rfl, ae_kn 3 (by omega) (by omega)⟩) (rfl)) ae_t_use_4
  · skip
    exact law_brS S (as := [ae_i 4]) (n := 40000) law_ck33 rfl rfl rfl (fun ad => ae_sr_c (⟨_, rfl, ae_kn 4 (by omega) (by omega)⟩) (rfl)) ae_t_use_5
  · skip
    exact law_brS S (as := [ae_i 5]) (n := 40000) law_ck33 rfl rfl rfl (fun ad => ae_sr_c (⟨_, rfl, ae_kn 5 (by omega) (by omega)⟩) (rfl)) ae_t_use_6
  · skip
    exact law_brS S (as := [ae_i 6]) (n := 40000) law_ck33 rfl rfl rfl (fun ad => ae_sr_c (⟨_, rfl, ae_kn 6 (by omega) (by omega)⟩) (rfl)) ae_t_use_7
  · skip
    exact law_brS S (as := [ae_i 7]) (n := 40000) law_ck33 rfl rfl rfl (fun ad => ae_sr_c (⟨_, rfl, ae_kn 7 (by omega) (by omega)⟩) (rfl)) ae_t_use_8
  · skip
    exact law_brS S (as := [.inl (.inr (2147483656, 4294967295))]) (n := 40000) law_ck33 rfl rfl rfl (fun ad => ae_sr_c (⟨_, rfl, by constructor <;> (show _ ≤ _) <;> omega⟩) (rfl)) ae_t_use_9
theorem law_ck34 : ae_bk 1254 [1, 2] 174 177 1267 1271 1283 = true := by decide +kernel
theorem law_op34 (S : ae_St p l e s m below meth c D kA b xs x0 m0 o0 ce sl ws H locs ls Q) : W p l e room_1 s m #[Value.ref b] below meth c H locs ce sl Q (F0 m 1254 ls []) := by
  have hz1 := ae_bi_lt (xs 1)
  have hz2 := ae_bi_lt (xs 2)
  rcases (show (0 ≤ ae_bi (xs 1) ∧ ae_bi (xs 1) ≤ 2147483647) ∨ (2147483648 ≤ ae_bi (xs 1) ∧ ae_bi (xs 1) ≤ 2147483648) ∨ (2147483649 ≤ ae_bi (xs 1) ∧ ae_bi (xs 1) ≤ 2147483649) ∨ (2147483650 ≤ ae_bi (xs 1) ∧ ae_bi (xs 1) ≤ 2147483650) ∨ (2147483651 ≤ ae_bi (xs 1) ∧ ae_bi (xs 1) ≤ 2147483651) ∨ (2147483652 ≤ ae_bi (xs 1) ∧ ae_bi (xs 1) ≤ 2147483652) ∨ (2147483653 ≤ ae_bi (xs 1) ∧ ae_bi (xs 1) ≤ 2147483653) ∨ (2147483654 ≤ ae_bi (xs 1) ∧ ae_bi (xs 1) ≤ 2147483654) ∨ (2147483655 ≤ ae_bi (xs 1) ∧ ae_bi (xs 1) ≤ 2147483655) ∨ (2147483656 ≤ ae_bi (xs 1) ∧ ae_bi (xs 1) ≤ 4294967295) by omega) with hq1 | hq1 | hq1 | hq1 | hq1 | hq1 | hq1 | hq1 | hq1 | hq1
  · skip
    exact law_brS S (as := [.inl (.inr (0, 2147483647)), ae_top]) (n := 40000) law_ck34 rfl rfl rfl (fun ad => ae_sr_c (⟨_, rfl, by constructor <;> (show _ ≤ _) <;> omega⟩) (ae_sr_c (ae_vr_top _) (rfl))) ae_t_apart_0
  · skip
    exact law_brS S (as := [ae_i 0, ae_top]) (n := 40000) law_ck34 rfl rfl rfl (fun ad => ae_sr_c (⟨_, rfl, ae_kn 0 (by omega) (by omega)⟩) (ae_sr_c (ae_vr_top _) (rfl))) ae_t_apart_1
  · skip
    exact law_brS S (as := [ae_i 1, ae_top]) (n := 40000) law_ck34 rfl rfl rfl (fun ad => ae_sr_c (⟨_, rfl, ae_kn 1 (by omega) (by omega)⟩) (ae_sr_c (ae_vr_top _) (rfl))) ae_t_apart_2
  · skip
    exact law_brS S (as := [ae_i 2, ae_top]) (n := 40000) law_ck34 rfl rfl rfl (fun ad => ae_sr_c (⟨_, rfl, ae_kn 2 (by omega) (by omega)⟩) (ae_sr_c (ae_vr_top _) (rfl))) ae_t_apart_3
  · skip
    exact law_brS S (as := [ae_i 3, ae_top]) (n := 40000) law_ck34 rfl rfl rfl (fun ad => ae_sr_c (⟨_, rfl, ae_kn 3 (by omega) (by omega)⟩) (ae_sr_c (ae_vr_top _) (rfl))) ae_t_apart_4
  · skip
    exact law_brS S (as := [ae_i 4, ae_top]) (n := 40000) law_ck34 rfl rfl rfl (fun ad => ae_sr_c (⟨_, rfl, ae_kn 4 (by omega) (by omega)⟩) (ae_sr_c (ae_vr_top _) (rfl))) ae_t_apart_5
  · skip
    exact law_brS S (as := [ae_i 5, ae_top]) (n := 40000) law_ck34 rfl rfl rfl (fun ad => ae_sr_c (⟨_, rfl, ae_kn 5 (by omega) (by omega)⟩) (ae_sr_c (ae_vr_top _) (rfl))) ae_t_apart_6
  · skip
    exact law_brS S (as := [ae_i 6, ae_top]) (n := 40000) law_ck34 rfl rfl rfl (fun ad => ae_sr_c (⟨_, rfl, ae_kn 6 (by omega) (by omega)⟩) (ae_sr_c (ae_vr_top _) (rfl))) ae_t_apart_7
  · skip
    exact law_brS S (as := [ae_i 7, ae_top]) (n := 40000) law_ck34 rfl rfl rfl (fun ad => ae_sr_c (⟨_, rfl, ae_kn 7 (by omega) (by omega)⟩) (ae_sr_c (ae_vr_top _) (rfl))) ae_t_apart_8
  · skip
    exact law_brS S (as := [.inl (.inr (2147483656, 4294967295)), ae_top]) (n := 40000) law_ck34 rfl rfl rfl (fun ad => ae_sr_c (⟨_, rfl, by constructor <;> (show _ ≤ _) <;> omega⟩) (ae_sr_c (ae_vr_top _) (rfl))) ae_t_apart_9
theorem law_ck35 : ae_bk 1291 [] 178 181 1292 1296 1296 = true := by decide +kernel
theorem law_op35 (S : ae_St p l e s m below meth c D kA b xs x0 m0 o0 ce sl ws H locs ls Q) : W p l e room_1 s m #[Value.ref b] below meth c H locs ce sl Q (F0 m 1291 ls []) := by
  exact law_brS S (as := []) (n := 40000) law_ck35 rfl rfl rfl (fun ad => rfl) ae_t_friday_0
theorem law_ck36 : ae_bk 1304 [1] 182 185 1311 1315 1321 = true := by decide +kernel
theorem law_op36 (S : ae_St p l e s m below meth c D kA b xs x0 m0 o0 ce sl ws H locs ls Q) : W p l e room_1 s m #[Value.ref b] below meth c H locs ce sl Q (F0 m 1304 ls []) := by
  have hz1 := ae_bi_lt (xs 1)
  rcases (show (0 ≤ ae_bi (xs 1) ∧ ae_bi (xs 1) ≤ 2147483647) ∨ (2147483648 ≤ ae_bi (xs 1) ∧ ae_bi (xs 1) ≤ 4294967295) by omega) with hq1 | hq1
  · skip
    exact law_brS S (as := [.inl (.inr (0, 2147483647))]) (n := 40000) law_ck36 rfl rfl rfl (fun ad => ae_sr_c (⟨_, rfl, by constructor <;> (show _ ≤ _) <;> omega⟩) (rfl)) ae_t_fridayAt_0
  · skip
    exact law_brS S (as := [.inl (.inr (2147483648, 4294967295))]) (n := 40000) law_ck36 rfl rfl rfl (fun ad => ae_sr_c (⟨_, rfl, by constructor <;> (show _ ≤ _) <;> omega⟩) (rfl)) ae_t_fridayAt_1
theorem law_ck37 : ae_bk 1329 [1] 186 189 1336 1340 1346 = true := by decide +kernel
theorem law_op37 (S : ae_St p l e s m below meth c D kA b xs x0 m0 o0 ce sl ws H locs ls Q) : W p l e room_1 s m #[Value.ref b] below meth c H locs ce sl Q (F0 m 1329 ls []) := by
  have hz1 := ae_bi_lt (xs 1)
  rcases (show (0 ≤ ae_bi (xs 1) ∧ ae_bi (xs 1) ≤ 2147483647) ∨ (2147483648 ≤ ae_bi (xs 1) ∧ ae_bi (xs 1) ≤ 2147483648) ∨ (2147483649 ≤ ae_bi (xs 1) ∧ ae_bi (xs 1) ≤ 2147483649) ∨ (2147483650 ≤ ae_bi (xs 1) ∧ ae_bi (xs 1) ≤ 2147483650) ∨ (2147483651 ≤ ae_bi (xs 1) ∧ ae_bi (xs 1) ≤ 4294967295) by omega) with hq1 | hq1 | hq1 | hq1 | hq1
  · skip
    exact law_brS S (as := [.inl (.inr (0, 2147483647))]) (n := 40000) law_ck37 rfl rfl rfl (fun ad => ae_sr_c (⟨_, rfl, by constructor <;> (show _ ≤ _) <;> omega⟩) (rfl)) ae_t_count_0
  · skip
    exact law_brS S (as := [ae_i 0]) (n := 40000) law_ck37 rfl rfl rfl (fun ad => ae_sr_c (⟨_, rfl, ae_kn 0 (by omega) (by omega)⟩) (rfl)) ae_t_count_1
  · skip
    exact law_brS S (as := [ae_i 1]) (n := 40000) law_ck37 rfl rfl rfl (fun ad => ae_sr_c (⟨_, rfl, ae_kn 1 (by omega) (by omega)⟩) (rfl)) ae_t_count_2
  · skip
    exact law_brS S (as := [ae_i 2]) (n := 40000) law_ck37 rfl rfl rfl (fun ad => ae_sr_c (⟨_, rfl, ae_kn 2 (by omega) (by omega)⟩) (rfl)) ae_t_count_3
  · skip
    exact law_brS S (as := [.inl (.inr (2147483651, 4294967295))]) (n := 40000) law_ck37 rfl rfl rfl (fun ad => ae_sr_c (⟨_, rfl, by constructor <;> (show _ ≤ _) <;> omega⟩) (rfl)) ae_t_count_4
end
