theorem ae_t0_n : ∀ (n k : Nat), ae_tg n (ae_t0 n) k = none := by
  intro n
  induction n with
  | zero => intro k; rfl
  | succ n ih =>
    intro k
    show ae_tg (n + 1) ((ae_t0 n, ae_t0 n) : ae_T n × ae_T n) k = none
    rw [ae_tg_s, ih]
    cases Nat.ble (2 ^ n) (k % 2 ^ (n + 1)) <;> rfl
theorem ae_hr0 (kA : Nat → ClassId) : ae_hr kA [] (0, ae_t0 8) := by
  refine ⟨rfl, by decide, fun k c h => ?_⟩
  have h1 := ae_hg_lt h
  rw [ae_hg_in h1] at h
  have h : ae_tg 8 (ae_t0 8) k = some c := h
  rw [ae_t0_n] at h
  cases h
/-- a constructor of the table, as the law calls it -/
noncomputable def ae_nki (a own this mc ms : Nat) (h : ae_H) : Bool := match ae_m a with
  | some N => and (Nat.beq N.1 own) (and (Nat.beq N.2.2.2.2.2.1 2) (and (Nat.blt N.2.2.2.2.2.2.2.1 14) (and (Nat.ble (Nat.add (Nat.add 19 N.2.2.2.1) N.2.2.2.2.2.2.2.2.1) 520) (and (Nat.beq N.2.2.2.2.2.2.2.2.2.1 mc) (and (Nat.beq N.2.2.2.2.2.2.2.2.2.2 ms) (and (Nat.beq N.2.2.2.2.2.2.1 0) (and (Nat.ble 1 N.2.2.2.1) (ae_rcv 2 [.inr (.inr (some this))] h own))))))))
  | none => false
theorem ae_nki_ok {a own this mc ms : Nat} {h : ae_H} (q : ae_nki a own this mc ms h = true) : ∃ N, ae_m a = some N ∧ N.2.2.2.2.2.1 = 2 ∧ N.2.2.2.2.2.2.2.1 < 14 ∧ 19 + N.2.2.2.1 + N.2.2.2.2.2.2.2.2.1 ≤ 520 ∧ N.2.2.2.2.2.2.2.2.2.1 = mc ∧ N.2.2.2.2.2.2.2.2.2.2 = ms ∧ N.2.2.2.2.2.2.1 = 0 ∧ 1 ≤ N.2.2.2.1 ∧ ae_rcv 2 [.inr (.inr (some this))] h N.1 = true := by
  unfold ae_nki at q
  split at q
  · next N hN =>
    obtain ⟨q1, q⟩ := ae_band q
    obtain ⟨q2, q⟩ := ae_band q
    obtain ⟨q3, q⟩ := ae_band q
    obtain ⟨q4, q⟩ := ae_band q
    obtain ⟨q5, q⟩ := ae_band q
    obtain ⟨q6, q⟩ := ae_band q
    obtain ⟨q7, q⟩ := ae_band q
    obtain ⟨q8, q⟩ := ae_band q
    have q1 := ae_beq q1
    refine ⟨N, hN, ae_beq q2, ae_blt q3, ae_ble q4, ae_beq q5, ae_beq q6, ae_beq q7, ae_ble q8, ?_⟩
    rw [q1]; exact q
  · cases q
theorem ae_ni1 : ae_nki 143 11 0 113 18033 ae_x0 = true := by decide +kernel
theorem ae_ni2 : ae_nki 182 12 114 59 19726 ae_x2 = true := by decide +kernel
section
variable {p : Program} {l : Launch} {e : Env} {s : State} {m : MethodId} {below : List Frame} {meth : Method} {c : Code} {D : va_G} {kA : Nat → ClassId} {ce sl : Nat} {ws : va_W} {H : Heap} {locs : List Loc} {ls : Array Slot} {b x0 m0 o0 : Nat} {xs : Nat → Int32} {Q : State → Prop}
/-- the law at its loop's head, everything made -/
theorem law_head (htr : l.stackTraces = false) (hTT : ae_TT (ae_A s) s s.heap) (X : ae_Cx p s m #[Value.ref b] meth c D kA (ae_A s) ae_Ml) {L : Nat} (hL : L ≤ 6) (hX : va_X b L xs s s.heap) (hbl : b < s.heap.size) (hl : lv_has ls 7 [(0, .ref b), (1, .ref x0), (2, .ref m0), (3, .ref o0), (4, .int 0)]) (hx0 : (ae_ad ws)[0]? = some x0) (hm0 : (ae_ad ws)[114]? = some m0) (ho0 : (ae_ad ws)[174]? = some o0) (hhr : ae_hr kA ws ae_s0) (hP : va_P D ae_cl ws H) (hD : va_D (ae_A s) ws) (hS : va_S (ae_A s) s.heap H locs) (hce : ce ≤ 600000) (hsl : sl ≤ 7302000) : W p l e room_1 s m #[Value.ref b] below meth c H locs ce sl (lw_Z below #[Value.ref b] s) (F0 m 23 ls []) := by
  have hx : p.tables.exec = Jvm.exec := X.1
  have hb : c.code = code := X.2.1
  have h6 : ∀ k, k < 6 → Int32.ofNat k - 6 < 0 := by decide +kernel
  rcases Nat.lt_or_ge L 6 with q | q
  · exact law_exit X hX hbl hS (by omega) (by omega) (lv_at hl 0 rfl) (lv_at hl 4 rfl) (h6 L q)
  · have : L = 6 := by omega
    subst this
    have fin0 : ∀ (ce2 sl2 : Nat), ce2 ≤ 600002 → sl2 ≤ 7302231 → ∀ (ls2 : Array Slot) (H1 : Heap) (locs1 : List Loc), lv_has ls2 7 [(0, .ref b), (1, .ref x0), (2, .ref m0), (3, .ref o0), (4, .int 0)] → va_S (ae_A s) s.heap H1 locs1 → W p l e room_1 s m #[Value.ref b] below meth c H1 locs1 ce2 sl2 (lw_Z below #[Value.ref b] s) (F0 m 1354 ls2 []) := by
      intro ce2 sl2 hc2 hs2 ls9 H1 locs1 hl9 hS1
      refine lv_iinc (i := 4) (n := 6) (k := 4) (v := 6) (lv' := [(4, .int 6), (0, .ref b), (1, .ref x0), (2, .ref m0), (3, .ref o0)]) hx hb (by decide +kernel) hl9 rfl (by decide) (by decide) rfl (fun ls2 hl2 => ?_)
      refine lv_goto (off := -1334) (tgt := 23) hx hb (by decide +kernel) (by decide) ?_
      exact law_exit X hX hbl hS1 hc2 hs2 (lv_at hl2 1 rfl) (lv_at hl2 0 rfl) (by decide +kernel)
    have fin : ∀ (H1 : Heap) (locs1 : List Loc), va_S (ae_A s) s.heap H1 locs1 → W p l e room_1 s m #[Value.ref b] below meth c H1 locs1 ce sl (lw_Z below #[Value.ref b] s) (F0 m 1354 ls []) := fun H1 locs1 hS1 => fin0 ce sl (by omega) (by omega) ls H1 locs1 hl hS1
    have S2 : ae_St2 p l e s m below meth c b x0 m0 o0 ce sl (lw_Z below #[Value.ref b] s) := ⟨htr, hTT, fun ls2 H1 locs1 hl2 hS1 => fin0 (ce + 1) (sl + 6) (by omega) (by omega) ls2 H1 locs1 hl2 hS1⟩
    have S : ae_St p l e s m below meth c D kA b xs x0 m0 o0 ce sl ws H locs ls (lw_Z below #[Value.ref b] s) := ⟨X, hX, hbl, hl, hx0, hm0, ho0, hhr, hP, hD, hS, hce, hsl, fin⟩
    refine lv_iload (i := 4) hx hb (by decide +kernel) (lv_at hl 4 rfl) ?_
    refine lv_aload_n (k := 0) hx hb (by decide +kernel) rfl (lv_at hl 0 rfl) ?_
    refine va_slen hx hb hX hbl (Nat.not_le.mpr hbl) hS (by decide +kernel) ?_
    refine lv_bipush (n := 6) (v := 6) hx hb (by decide +kernel) (by decide) ?_
    refine lv_isub hx hb (by decide +kernel) ?_
    refine lv_icmp_gt (off := 1330) (tgt := 1360) hx hb (by decide +kernel) (by decide) (fun z => absurd z (by decide +kernel)) (fun _ => ?_)
    refine lv_aload_n (k := 0) hx hb (by decide +kernel) rfl (lv_at hl 0 rfl) ?_
    refine lv_iload (i := 4) hx hb (by decide +kernel) (lv_at hl 4 rfl) ?_
    refine va_sld hx hb hX hbl (Nat.not_le.mpr hbl) hS (by unfold vp_in; decide +kernel) (by decide +kernel) ?_
    refine lv_bipush (n := 63) (v := 63) hx hb (by decide +kernel) (by decide) ?_
    refine lv_iand hx hb (by decide +kernel) ?_
    obtain ⟨j, hj, ej⟩ := pk_andE (xs (0 : Int32).toNatClampNeg) (m := 63) 6 (by decide +kernel)
    rw [ej]
    have hjt : (nI j).toInt = (j : Int) := nI_toInt (by omega)
    have hd40 := (show decode code 40 = .ok (.tableswitch 1314 0 37 #[168, 241, 266, 291, 316, 396, 421, 434, 447, 484, 509, 577, 633, 670, 695, 720, 745, 770, 783, 796, 809, 822, 847, 872, 909, 977, 1014, 1039, 1052, 1077, 1102, 1127, 1164, 1189, 1214, 1251, 1264, 1289], 168) by decide +kernel)
    match j, hj, hjt with
    | 0, hj, hjt => exact lv_tableIn (off := 168) (tgt := 208) hx hb hd40 (by rw [hjt]; decide) (by rw [hjt]; decide) (by rw [hjt]; rfl) (by decide) (law_op0 S)
    | 1, hj, hjt => exact lv_tableIn (off := 241) (tgt := 281) hx hb hd40 (by rw [hjt]; decide) (by rw [hjt]; decide) (by rw [hjt]; rfl) (by decide) (law_op1 S)
    | 2, hj, hjt => exact lv_tableIn (off := 266) (tgt := 306) hx hb hd40 (by rw [hjt]; decide) (by rw [hjt]; decide) (by rw [hjt]; rfl) (by decide) (law_op2 S)
    | 3, hj, hjt => exact lv_tableIn (off := 291) (tgt := 331) hx hb hd40 (by rw [hjt]; decide) (by rw [hjt]; decide) (by rw [hjt]; rfl) (by decide) (law_op3 S)
    | 4, hj, hjt => exact lv_tableIn (off := 316) (tgt := 356) hx hb hd40 (by rw [hjt]; decide) (by rw [hjt]; decide) (by rw [hjt]; rfl) (by decide) (law_op4 S S2)
    | 5, hj, hjt => exact lv_tableIn (off := 396) (tgt := 436) hx hb hd40 (by rw [hjt]; decide) (by rw [hjt]; decide) (by rw [hjt]; rfl) (by decide) (law_op5 S)
    | 6, hj, hjt => exact lv_tableIn (off := 421) (tgt := 461) hx hb hd40 (by rw [hjt]; decide) (by rw [hjt]; decide) (by rw [hjt]; rfl) (by decide) (law_op6 S)
    | 7, hj, hjt => exact lv_tableIn (off := 434) (tgt := 474) hx hb hd40 (by rw [hjt]; decide) (by rw [hjt]; decide) (by rw [hjt]; rfl) (by decide) (law_op7 S)
    | 8, hj, hjt => exact lv_tableIn (off := 447) (tgt := 487) hx hb hd40 (by rw [hjt]; decide) (by rw [hjt]; decide) (by rw [hjt]; rfl) (by decide) (law_op8 S)
    | 9, hj, hjt => exact lv_tableIn (off := 484) (tgt := 524) hx hb hd40 (by rw [hjt]; decide) (by rw [hjt]; decide) (by rw [hjt]; rfl) (by decide) (law_op9 S)
    | 10, hj, hjt => exact lv_tableIn (off := 509) (tgt := 549) hx hb hd40 (by rw [hjt]; decide) (by rw [hjt]; decide) (by rw [hjt]; rfl) (by decide) (law_op10 S S2)
    | 11, hj, hjt => exact lv_tableIn (off := 577) (tgt := 617) hx hb hd40 (by rw [hjt]; decide) (by rw [hjt]; decide) (by rw [hjt]; rfl) (by decide) (law_op11 S S2)
    | 12, hj, hjt => exact lv_tableIn (off := 633) (tgt := 673) hx hb hd40 (by rw [hjt]; decide) (by rw [hjt]; decide) (by rw [hjt]; rfl) (by decide) (law_op12 S)
    | 13, hj, hjt => exact lv_tableIn (off := 670) (tgt := 710) hx hb hd40 (by rw [hjt]; decide) (by rw [hjt]; decide) (by rw [hjt]; rfl) (by decide) (law_op13 S)
    | 14, hj, hjt => exact lv_tableIn (off := 695) (tgt := 735) hx hb hd40 (by rw [hjt]; decide) (by rw [hjt]; decide) (by rw [hjt]; rfl) (by decide) (law_op14 S)
    | 15, hj, hjt => exact lv_tableIn (off := 720) (tgt := 760) hx hb hd40 (by rw [hjt]; decide) (by rw [hjt]; decide) (by rw [hjt]; rfl) (by decide) (law_op15 S)
    | 16, hj, hjt => exact lv_tableIn (off := 745) (tgt := 785) hx hb hd40 (by rw [hjt]; decide) (by rw [hjt]; decide) (by rw [hjt]; rfl) (by decide) (law_op16 S)
    | 17, hj, hjt => exact lv_tableIn (off := 770) (tgt := 810) hx hb hd40 (by rw [hjt]; decide) (by rw [hjt]; decide) (by rw [hjt]; rfl) (by decide) (law_op17 S)
    | 18, hj, hjt => exact lv_tableIn (off := 783) (tgt := 823) hx hb hd40 (by rw [hjt]; decide) (by rw [hjt]; decide) (by rw [hjt]; rfl) (by decide) (law_op18 S)
    | 19, hj, hjt => exact lv_tableIn (off := 796) (tgt := 836) hx hb hd40 (by rw [hjt]; decide) (by rw [hjt]; decide) (by rw [hjt]; rfl) (by decide) (law_op19 S)
    | 20, hj, hjt => exact lv_tableIn (off := 809) (tgt := 849) hx hb hd40 (by rw [hjt]; decide) (by rw [hjt]; decide) (by rw [hjt]; rfl) (by decide) (law_op20 S)
    | 21, hj, hjt => exact lv_tableIn (off := 822) (tgt := 862) hx hb hd40 (by rw [hjt]; decide) (by rw [hjt]; decide) (by rw [hjt]; rfl) (by decide) (law_op21 S)
    | 22, hj, hjt => exact lv_tableIn (off := 847) (tgt := 887) hx hb hd40 (by rw [hjt]; decide) (by rw [hjt]; decide) (by rw [hjt]; rfl) (by decide) (law_op22 S)
    | 23, hj, hjt => exact lv_tableIn (off := 872) (tgt := 912) hx hb hd40 (by rw [hjt]; decide) (by rw [hjt]; decide) (by rw [hjt]; rfl) (by decide) (law_op23 S)
    | 24, hj, hjt => exact lv_tableIn (off := 909) (tgt := 949) hx hb hd40 (by rw [hjt]; decide) (by rw [hjt]; decide) (by rw [hjt]; rfl) (by decide) (law_op24 S S2)
    | 25, hj, hjt => exact lv_tableIn (off := 977) (tgt := 1017) hx hb hd40 (by rw [hjt]; decide) (by rw [hjt]; decide) (by rw [hjt]; rfl) (by decide) (law_op25 S)
    | 26, hj, hjt => exact lv_tableIn (off := 1014) (tgt := 1054) hx hb hd40 (by rw [hjt]; decide) (by rw [hjt]; decide) (by rw [hjt]; rfl) (by decide) (law_op26 S)
    | 27, hj, hjt => exact lv_tableIn (off := 1039) (tgt := 1079) hx hb hd40 (by rw [hjt]; decide) (by rw [hjt]; decide) (by rw [hjt]; rfl) (by decide) (law_op27 S)
    | 28, hj, hjt => exact lv_tableIn (off := 1052) (tgt := 1092) hx hb hd40 (by rw [hjt]; decide) (by rw [hjt]; decide) (by rw [hjt]; rfl) (by decide) (law_op28 S)
    | 29, hj, hjt => exact lv_tableIn (off := 1077) (tgt := 1117) hx hb hd40 (by rw [hjt]; decide) (by rw [hjt]; decide) (by rw [hjt]; rfl) (by decide) (law_op29 S)
    | 30, hj, hjt => exact lv_tableIn (off := 1102) (tgt := 1142) hx hb hd40 (by rw [hjt]; decide) (by rw [hjt]; decide) (by rw [hjt]; rfl) (by decide) (law_op30 S)
    | 31, hj, hjt => exact lv_tableIn (off := 1127) (tgt := 1167) hx hb hd40 (by rw [hjt]; decide) (by rw [hjt]; decide) (by rw [hjt]; rfl) (by decide) (law_op31 S)
    | 32, hj, hjt => exact lv_tableIn (off := 1164) (tgt := 1204) hx hb hd40 (by rw [hjt]; decide) (by rw [hjt]; decide) (by rw [hjt]; rfl) (by decide) (law_op32 S)
    | 33, hj, hjt => exact lv_tableIn (off := 1189) (tgt := 1229) hx hb hd40 (by rw [hjt]; decide) (by rw [hjt]; decide) (by rw [hjt]; rfl) (by decide) (law_op33 S)
    | 34, hj, hjt => exact lv_tableIn (off := 1214) (tgt := 1254) hx hb hd40 (by rw [hjt]; decide) (by rw [hjt]; decide) (by rw [hjt]; rfl) (by decide) (law_op34 S)
    | 35, hj, hjt => exact lv_tableIn (off := 1251) (tgt := 1291) hx hb hd40 (by rw [hjt]; decide) (by rw [hjt]; decide) (by rw [hjt]; rfl) (by decide) (law_op35 S)
    | 36, hj, hjt => exact lv_tableIn (off := 1264) (tgt := 1304) hx hb hd40 (by rw [hjt]; decide) (by rw [hjt]; decide) (by rw [hjt]; rfl) (by decide) (law_op36 S)
    | 37, hj, hjt => exact lv_tableIn (off := 1289) (tgt := 1329) hx hb hd40 (by rw [hjt]; decide) (by rw [hjt]; decide) (by rw [hjt]; rfl) (by decide) (law_op37 S)
    | j + 38, hj, hjt =>
      refine lv_tableOut (tgt := 1354) hx hb hd40 (Or.inr (by rw [hjt]; omega)) (by decide) ?_
      exact fin H locs hS
end
theorem ae_ls1 : Jvm.Cond.laysStatic Bundle.tN "UNASSIGNED_STACK" Bundle.steD ∈ lw_tbl := by decide +kernel
theorem ae_ls2 : Jvm.Cond.laysStatic Bundle.tN "SUPPRESSED_SENTINEL" Bundle.listD ∈ lw_tbl := by decide +kernel
theorem ae_ini9 : Jvm.Cond.initialized Bundle.tN ∈ lw_tbl := by decide +kernel
theorem ae_nr1 : Jvm.Cond.isRef (.static Bundle.tN "UNASSIGNED_STACK" Bundle.steD) ∈ flatC (Jvm.Cond.and given_1 narrow_1) := by decide +kernel
theorem ae_nr2 : Jvm.Cond.isRef (.static Bundle.tN "SUPPRESSED_SENTINEL" Bundle.listD) ∈ flatC (Jvm.Cond.and given_1 narrow_1) := by decide +kernel
set_option maxHeartbeats 4000000 in
/-- from the entry, for every script of at most 6 ints, the law comes to its end with true -/
theorem whole_start {p : Program} {e : Env} {s : State} {m : MethodId} {below : List Frame} {meth : Method} {c : Code} (l : Launch) (htr : l.stackTraces = false) {b L : Nat} {xs : Nat → Int32} (hL : L ≤ 6) (C0 : lw_At p s m meth c b L xs) : W p l e room_1 s m #[Value.ref b] below meth c s.heap [] 0 0 (lw_Z below #[Value.ref b] s) (entryFrame m ([Value.ref b] : List Value).toArray 7) := by
  obtain ⟨hx, hb, hr, hml, hown, hts, hX, hbl, hlocks, hgv⟩ := id C0
  obtain ⟨D, kA, hKK⟩ := ae_KK_of hts
  have X : ae_Cx p s m #[Value.ref b] meth c D kA (ae_A s) ae_Ml := ⟨hx, hb, hml, hown, fun w hw => hts w (ae_gw_tbl hw), hKK, fun _ h => h, fun h => absurd h (by decide), hr, hlocks⟩
  have hS : va_S (ae_A s) s.heap s.heap [] := va_S.rf
  have hnar := flat_of_before _ hgv
  have hTT : ae_TT (ae_A s) s s.heap := ⟨vx_Zqof (hts _ ae_ls1) (hts _ ae_ini9) (hnar _ ae_nr1) (fun a h => Nat.not_le.mpr h), vx_Zqof (hts _ ae_ls2) (hts _ ae_ini9) (hnar _ ae_nr2) (fun a h => Nat.not_le.mpr h), fun w hw => va_Nw.of (by
    have h2 : ae_isc w = true := List.all_eq_true.mp ae_vn_c w hw
    cases w <;> first | rfl | cases h2) (hts w (ae_vn_t w hw))⟩
  have hP : va_P D ae_cl [] s.heap := fun k q h => by simp at h
  have hD : va_D (ae_A s) [] := ⟨fun i j p q h => by simp at h, fun k q h => by simp at h⟩
  have hhr := ae_hr0 kA
  have hl := lv_entry ([.ref b]) (n := 7) (Nat.le_of_ble_eq_true rfl)
  rw [lg_entry_eq]
  generalize (lg_sl ([.ref b]) ++ List.replicate (7 - (lg_sl ([.ref b])).length) Slot.unset).toArray = ls at hl ⊢
  have hl : lv_has ls 7 [(0, .ref b)] := hl
  refine ae_newoW (R := room_1) (idx := 8) (ci := 11) (k0 := 0) (fs := ae_nf11) X rfl (by decide +kernel) rfl rfl (by decide) (Nat.le_of_ble_eq_true rfl) (Nat.le_of_ble_eq_true rfl) hhr hP hD hS (fun ws1 H1 x0 hr1 hp1 hx1 hP1 hD1 hS1 => ?_)
  have hx1 : (ae_ad ws1)[0]? = some x0 := hx1
  refine lv_dup hx hb (by decide +kernel) rfl ?_
  obtain ⟨N1, hN1, a2, a3, a4, a5, a6, a7, a8, a9⟩ := ae_nki_ok ae_ni1
  have go1 := ae_callW (R := room_1) (ps := [.inr (.inr (some 0))]) (psC := [.ref x0]) (restC := [.ref x0]) (Q := lw_Z below #[Value.ref b] s) (l := l) (e := e) (below := below) (ce := 0 + 1) (sl := 0 + ae_nf11.length) (locs := []) (ls := ls) (pc := 4) (vir := 2) (idx := 26) (h := ae_x0) (z := 0) X rfl (by decide +kernel) (by omega) rfl (Or.inl rfl) hN1 a2 a3 a4 (by rw [a5]; exact Nat.le_of_ble_eq_true rfl) (by rw [a6]; exact Nat.le_of_ble_eq_true rfl) (by rw [a7]; rfl) (Nat.le_of_ble_eq_true rfl) a8 a9 (ae_met (ae_ends_ok ae_run1)) hl.1 ⟨_, [], rfl, ⟨x0, hx1, rfl⟩, rfl⟩ hr1 hP1 hD1 hS1
  refine go1 (fun rv ws2 H2 locs2 r1 r2 r3 r4 r5 r6 => ?_)
  rw [show rv = none from r1, a5, a6]
  refine lv_astore_n (k := 1) (lv' := [(1, .ref x0), (0, .ref b)]) hx hb (by decide +kernel) rfl hl (by decide) rfl (fun ls hl => ?_)
  refine ae_newoW (R := room_1) (idx := 27) (ci := 12) (k0 := 0) (fs := ae_nf12) X rfl (by decide +kernel) rfl rfl (by decide) (Nat.le_of_ble_eq_true rfl) (Nat.le_of_ble_eq_true rfl) r2 r4 r5 r6 (fun ws3 H3 m0 hr3 hp3 hx3 hP3 hD3 hS3 => ?_)
  have hx3 : (ae_ad ws3)[114]? = some m0 := hx3
  refine lv_dup hx hb (by decide +kernel) rfl ?_
  obtain ⟨N2, hN2, b2, b3, b4, b5, b6, b7, b8, b9⟩ := ae_nki_ok ae_ni2
  have go2 := ae_callW (R := room_1) (ps := [.inr (.inr (some 114))]) (psC := [.ref m0]) (restC := [.ref m0]) (Q := lw_Z below #[Value.ref b] s) (l := l) (e := e) (below := below) (ce := 0 + 1 + 113 + 1) (sl := 0 + ae_nf11.length + 18033 + ae_nf12.length) (locs := locs2) (ls := ls) (pc := 12) (vir := 2) (idx := 29) (h := ae_x2) (z := 0) X rfl (by decide +kernel) (by omega) rfl (Or.inl rfl) hN2 b2 b3 b4 (by rw [b5]; exact Nat.le_of_ble_eq_true rfl) (by rw [b6]; exact Nat.le_of_ble_eq_true rfl) (by rw [b7]; rfl) (Nat.le_of_ble_eq_true rfl) b8 b9 (ae_met (ae_ends_ok ae_run2)) hl.1 ⟨_, [], rfl, ⟨m0, hx3, rfl⟩, rfl⟩ hr3 hP3 hD3 hS3
  refine go2 (fun rv2 ws4 H4 locs4 t1 t2 t3 t4 t5 t6 => ?_)
  rw [show rv2 = none from t1, b5, b6]
  refine lv_astore_n (k := 2) (lv' := [(2, .ref m0), (1, .ref x0), (0, .ref b)]) hx hb (by decide +kernel) rfl hl (by decide) rfl (fun ls hl => ?_)
  refine lv_iconst (n := 1) (v := nI 1) hx hb (by decide +kernel) (by decide +kernel) ?_
  refine ae_newlW (R := room_1) (n := 1) X rfl (by decide +kernel) (by decide) (by decide) (Nat.le_of_ble_eq_true rfl) (Nat.le_of_ble_eq_true rfl) t2 t4 t5 t6 (fun ws5 H5 o0 hr5 hp5 hx5 hP5 hD5 hS5 => ?_)
  have hx5 : (ae_ad ws5)[174]? = some o0 := hx5
  rw [show ae_hp (Option.none, ae_x3).2 (.inl (3, 1, .inl 0)) = ae_s0 from ae_x3s] at hr5
  refine lv_astore_n (k := 3) (lv' := [(3, .ref o0), (2, .ref m0), (1, .ref x0), (0, .ref b)]) hx hb (by decide +kernel) rfl hl (by decide) rfl (fun ls hl => ?_)
  refine lv_iconst (n := 0) (v := 0) hx hb (by decide +kernel) (by decide) ?_
  refine lv_istore (i := 4) (lv' := [(4, .int 0), (3, .ref o0), (2, .ref m0), (1, .ref x0), (0, .ref b)]) hx hb (by decide +kernel) hl (by decide) rfl (fun ls hl => ?_)
  have hx0 : (ae_ad ws5)[0]? = some x0 := hp5 _ _ (t3 _ _ (hp3 _ _ (r3 _ _ hx1)))
  have hm0 : (ae_ad ws5)[114]? = some m0 := hp5 _ _ (t3 _ _ hx3)
  exact law_head htr hTT X hL hX hbl (lv_sub hl [4, 3, 2, 1, 0] rfl) hx0 hm0 hx5 hr5 hP5 hD5 hS5 (Nat.le_of_ble_eq_true rfl) (Nat.le_of_ble_eq_true rfl)
set_option maxHeartbeats 4000000 in
theorem lw_walk (l : Launch) (htr : l.stackTraces = false) (b : Addr) (xs : List Int32) : MetFree l x (headSpec (Jvm.Cond.code x code maxLocals ret :: tables_1) room_1) (lw_P b xs) (fun _ _ _ _ _ => True) lw_Q := by
  refine MetFree.of_bodyS (code := code) (maxLocals := maxLocals) (ret := ret) (by decide) ?_ ?_
  · intro args s m h hn
    obtain ⟨meth, c, h1, h2, h3, h4, h5, h6, -, -⟩ := Cond.code_spec hn (atoms_spec (ws := Jvm.Cond.code x code maxLocals ret :: tables_1) h _ List.mem_cons_self)
    exact ⟨meth, c, h1, h2, h3, h4, h5, h6⟩
  · intro p e s m args below meth c s₁ B hml0 hP _
    obtain ⟨rfl, hx, hbd, hgv⟩ := hP
    obtain ⟨scr, harrAt, hlist, hof, hsmall⟩ := hx
    obtain ⟨hcb, hkn, -, -⟩ := State.arrayAt?_spec harrAt
    have hown : s.vm.findClass R_law = some m.cls := findClass_of_methodNamed B.named
    have hts0 : ∀ c ∈ (Jvm.Cond.code x code maxLocals ret :: tables_1), c.before #[Value.ref b] s = true := atoms_spec (ws := Jvm.Cond.code x code maxLocals ret :: tables_1) B.pre
    have hts : ∀ w ∈ lw_tbl, w.before #[Value.ref b] s = true := k2_hts_sels lw_privs (fun w hw => hts0 w (List.mem_cons_of_mem _ hw)) lw_privs_ok
    have hml : c.maxLocals = 7 := B.maxLocals_eq (hts0 _ List.mem_cons_self)
    have X₀ : Stand p l e room_1 s m #[Value.ref b] below meth c s₁ [] 0 0 := Stand.of_body B
    have hh0 : s₁.heap = s.heap := by rw [B.state]; rfl
    have hsz : scr.slots.size = xs.length := by rw [← Array.length_toList, hlist, List.length_map]
    have hval : ∀ j : Nat, j < xs.length → scr.slots[j]? = some (.int (xs.getD j 0)) := fun j hj => by
      rw [← Array.getElem?_toList, hlist]
      simp [hj]
    have hbl : b < s.heap.size := (Array.getElem?_eq_some_iff.mp hcb).1
    have hX : va_X b xs.length (fun j => xs.getD j 0) s s.heap := ⟨scr, hcb, hof, hkn, hsz, hval⟩
    have K : W p l e room_1 s m #[Value.ref b] below meth c s₁.heap [] 0 0 (lw_Z below #[Value.ref b] s) (entryFrame m ([Value.ref b] : List Value).toArray 7) := by
      rw [hh0]
      exact whole_start l htr hbd ⟨B.exec, B.bytes, B.returns, hml, hown, hts, hX, hbl, B.notSynchronized, hgv⟩
    obtain ⟨t, a1, o, b1, b2, b3⟩ := K s₁ rfl X₀
    exact ⟨t, o, a1, b1, b2, b3⟩
theorem lw_pre_spec {args : Array Value} {s : State} (h : (Jvm.Cond.and given_1 narrow_1).before args s = true) (hr : rest_1_c.before args s = true) : ∃ (b : Addr) (xs : List Int32), lw_P b xs args s := by
  have hs := flat_of_before _ h
  have hq := flat_of_before _ hr
  have hc : (Cond.count 1).before args s = true := hs _ (by decide +kernel)
  have harr : (Cond.arrayOf (.arg 0) .int).before args s = true := hs _ (by decide +kernel)
  have hle : (Cond.le (.length (.arg 0)) (.int 6)).before args s = true := hs _ (by decide +kernel)
  have hlen : (Cond.isInt (.length (.arg 0))).before args s = true := hq _ (by decide +kernel)
  have hall : (Cond.all (.arg 0) (.isInt (.elem (.arg 0) (.index 0)))).before args s = true := hq _ (by decide +kernel)
  obtain ⟨b, xs, hb, hx⟩ := State.ints_of_pre rfl harr hlen hall
  have hsm : xs.length < 2 ^ 31 := hx.choose_spec.2.2.2
  have hev : (Term.length (.arg 0)).eval args s none [] s = some (.int xs.length.toInt32) := hx.length_eval hb
  have hv := Cond.le_ints hev (show (Term.int 6).eval args s none [] s = some (.int 6) from rfl)
  have hd : xs.length.toInt32 ≤ 6 := by
    simpa [Cond.before, Cond.holds, hv] using hle
  have hN : xs.length ≤ 6 := (Int32.ofNat_le_ofNat hsm (by decide)).mp (show Int32.ofNat xs.length ≤ Int32.ofNat 6 from hd)
  exact ⟨b, xs, Cond.one_arg hc (show args[0]? = some (.ref b) from hb), hx, hN, h⟩
theorem lw_comes (l : Launch) (htr : l.stackTraces = false) : Comes l x (Jvm.Cond.code x code maxLocals ret :: tables_1) room_1 (fun tb e args s => Calls_1 tb e args s ∧ rest_1 tb e args s ∧ Pre_1 tb e args s)
    (fun _ _ args s o t => lw_Q args s o t) := by
  intro p e ha hc hk s m args below hf hfit hheap happ hpre
  obtain ⟨b, xs, hP⟩ := lw_pre_spec hpre.2.2 hpre.2.1
  obtain ⟨k, o, h1, h2, h3, hQ⟩ := lw_walk l htr b xs p e ha hc hk s m args below hf ((Spec.applies_iff_loose hf).mp happ).1 hP trivial
  exact ⟨k, o, h1, h2, h3, hQ⟩
theorem lw_frame {s t : State} {o : Outcome} {args : Array Value} (h : Framed s o t [] 600002 7302231) :
    Framed s o t (fieldLocs frame_1_writes args s ++ arrayLocs frame_1_arrays args s ++ staticLocs frame_1_statics s) 600002 7302231 := h
theorem lw_limb (L : Cond) (hL : ∀ (args : Array Value) (s t : State), L.after args s (.returned (some (.int 1))) t = true) :
    ArmFor flags0 classFile x code maxLocals ret World_1 tables_1 room_1 Calls_1 rest_1 Pre_1
      (fun tb e a s o t => postC L tb e a s o t ∧ Framed s o t (fieldLocs frame_1_writes a s ++ arrayLocs frame_1_arrays a s ++ staticLocs frame_1_statics s) 600002 7302231) := by
  intro l hfl _ _ p e ha hc hk s m args below hf hfit hheap happ hpre
  have htr : l.stackTraces = false := by
    show (!l.flags.contains noTraceFlag) = false
    rw [hfl]
    decide +kernel
  obtain ⟨k, o, h1, h2, h3, rfl, hF⟩ := lw_comes l htr p e ha hc hk s m args below hf hfit hheap happ hpre
  exact ⟨k, _, h1, h2, h3, hL args s _, lw_frame hF⟩
theorem i_vc : Claimed_1_1 ∧ Claimed_1_2 := ⟨lw_limb limb_1_1 (fun args s t => by simp [limb_1_1, Cond.after, Cond.holds, Cond.value]), lw_limb limb_1_2 (fun args s t => Cond.after_iff.mpr (by
  first | (rw [show limb_1_2 = Cond.eq .result (.int 1) from rfl, Cond.eq_ints (x := 1) (y := 1) rfl rfl]; simp; done) | (simp [limb_1_2, Cond.value, Term.eval]; done)))⟩

