/-! CALLS WITH ONE MORE THING IN THE WORLD (printed by wip/p2/law/g88c.py) -/
theorem lo_Pl {D : va_G} {ws : va_W} {oE : Nat × va_E} {H : Heap} (h : va_P D ae_cl (ws ++ [oE]) H) : va_P D ae_cl ws H := fun k q hk => h k q (by rw [List.getElem?_append_left (List.getElem?_eq_some_iff.mp hk).1]; exact hk)
theorem lo_Dl {A : Nat → Prop} {ws : va_W} {oE : Nat × va_E} (h : va_D A (ws ++ [oE])) : va_D A ws := by
  have key : ∀ (k : Nat) (q : Nat × va_E), ws[k]? = some q → (ws ++ [oE])[k]? = some q := fun k q hk => by rw [List.getElem?_append_left (List.getElem?_eq_some_iff.mp hk).1]; exact hk
  exact ⟨fun i j p q h1 h2 h3 => h.1 i j p q (key i p h1) (key j q h2) h3, fun k q hk => h.2 k q (key k q hk)⟩
theorem lo_last {ws : va_W} {oE : Nat × va_E} : (ws ++ [oE])[ws.length]? = some oE := by simp
theorem lo_ne {A : Nat → Prop} {ws : va_W} {oE : Nat × va_E} (h : va_D A (ws ++ [oE])) {k : Nat} {q : Nat × va_E} (hk : ws[k]? = some q) : q.1 ≠ oE.1 := fun e => by
  have hl := (List.getElem?_eq_some_iff.mp hk).1
  have := h.1 k ws.length q oE (by rw [List.getElem?_append_left hl]; exact hk) lo_last e
  omega
theorem lo_app {D : va_G} {A : Nat → Prop} {ws1 : va_W} {oE : Nat × va_E} {H1 : Heap} (hP : va_P D ae_cl ws1 H1) (hD : va_D A ws1) (ho : va_at D ae_cl oE H1) (hA : A oE.1) (hne : ∀ (k : Nat) (q : Nat × va_E), ws1[k]? = some q → q.1 ≠ oE.1) : va_P D ae_cl (ws1 ++ [oE]) H1 ∧ va_D A (ws1 ++ [oE]) := by
  refine ⟨hP.app (fun k q hk => ?_), hD.app ⟨fun i j p q h1 h2 _ => ?_, fun k q hk => ?_⟩ (fun i j p q h1 h2 => ?_)⟩
  · have e : q = oE := by
      have := List.mem_of_getElem? hk
      exact List.mem_singleton.mp this
    rw [e]; exact ho
  · have a := (List.getElem?_eq_some_iff.mp h1).1
    have b := (List.getElem?_eq_some_iff.mp h2).1
    have a : i < 1 := a
    have b : j < 1 := b
    omega
  · have e : q = oE := List.mem_singleton.mp (List.mem_of_getElem? hk)
    rw [e]; exact hA
  · have e : q = oE := List.mem_singleton.mp (List.mem_of_getElem? h2)
    rw [e]; exact hne i p h1
theorem lo_kept {D : va_G} {A : Nat → Prop} {ws ws1 : va_W} {oE : Nat × va_E} {H H1 : Heap} (hPo : va_P D ae_cl (ws ++ [oE]) H) (hDo : va_D A (ws ++ [oE])) (hP1 : va_P D ae_cl ws1 H1) (hD1 : va_D (va_A ws H.size) ws1) (hk : ∀ q : Nat, q < H.size → ¬ va_A ws H.size q → H1[q]? = H[q]?) (hfree : ∀ q, va_A ws H.size q → A q) : va_P D ae_cl (ws1 ++ [oE]) H1 ∧ va_D A (ws1 ++ [oE]) := by
  have hat := hPo ws.length oE lo_last
  have hlt : oE.1 < H.size := hat.lt
  have hno : ¬ va_A ws H.size oE.1 := fun z => by
    rcases z with ⟨k, e0, z⟩ | z
    · exact lo_ne hDo z rfl
    · exact absurd hlt (Nat.not_lt.mpr z)
  refine lo_app hP1 (hD1.weaken (fun _ q _ hq => hfree q.1 hq)) (hat.kept (hk _ hlt hno)) (hDo.2 ws.length oE lo_last) (fun k q hq e => ?_)
  have := hD1.2 k q hq
  rw [e] at this
  exact hno this
section
variable {p : Program} {l : Launch} {e : Env} {s : State} {m : MethodId} {args : Array Value} {below : List Frame} {meth : Method} {c : Code} {Q : State → Prop} {D : va_G} {kA : Nat → ClassId} {A : Nat → Prop} {pre : Nat → Option Nat} {M : ae_M} {R : Room}
  {pc ce sl : Nat} {lv : ae_L} {st : List ae_V} {h : ae_H} {K : ae_K} {r : ae_R}
theorem ae_contO {mc ms : Nat} {st0 rest : List Value} {A1 : Nat → Prop} {pre1 : Nat → Option Nat} {r2 : ae_R} {a : Array Value} {free : Addr → Prop} {H : Heap} {locs : List Loc} {ls : Array Slot} (hr : va_Run p l e R s m args below meth c H locs ce sl mc ms (F0 m pc ls st0) rest (ae_Qc D kA A1 pre1 r2 a) free) (hS : va_S A s.heap H locs) (hA : ∀ q, A1 q → A q) (hf : ∀ q, free q → A q)
    (kk : ∀ (rv : Option Value) (ws : va_W) (H1 : Heap) (locs1 : List Loc), ae_ro (ae_ad kA ws) r2.1 rv → ae_hr kA ws r2.2 → ae_px pre1 (ae_ad kA ws) → va_P D ae_cl ws H1 → va_D A1 ws → va_S A s.heap H1 locs1 → (∀ q : Nat, q < H.size → ¬ A1 q → H1[q]? = H[q]?) → W p l e R s m args below meth c H1 locs1 (ce + mc) (sl + ms) Q (F0 m (pc + 3) ls (rv.toList ++ rest))) : W p l e R s m args below meth c H locs ce sl Q (F0 m pc ls st0) := by
  intro T hT X
  obtain ⟨v, st₀, t, T', L, h0, X', hL, e1, e2, ⟨rv, ws, hv, h1, h2, h3, h4, h5, hz, hk⟩, st⟩ := hr T hT X
  cases hv
  rw [h0] at hz hk
  obtain ⟨t2, a1, b1⟩ := kk v ws T'.heap (locs ++ L) h1 h2 h3 (by rw [e1]; exact h4) h5
    ⟨Nat.le_trans hS.1 (by rw [e1]; exact hz), fun q h1 h2 => by rw [e1, hk q (Nat.lt_of_lt_of_le h1 hS.1) (fun z => h2 (hA q z))]; exact hS.2.1 q h1 h2, fun q hq => by
      rcases List.mem_append.mp hq with h | h
      · exact hS.2.2 q h
      · exact hf _ (hL q h)⟩ (fun q h1 h2 => by rw [e1]; exact hk q h1 h2) T' rfl X'
  exact ⟨t2, st t2 a1, b1⟩
theorem ae_callO (X : ae_Cx p s m args meth c D kA A M) (hR : R = ae_room M) {vir idx mj kd z : Nat} {N : ae_M} {ps : List ae_V} {r2 : ae_R} {ws : va_W} {H : Heap} {locs : List Loc} {ls : Array Slot} {psC restC : List Value} {oE : Nat × va_E} (hd : decode M.2.2.1 pc = .ok (match vir with | 0 => .invokestatic idx | 1 => .invokevirtual idx | _ => .invokespecial idx, 3)) (hv : vir ≤ 2) (hc : ae_cp M.1 idx = some (kd, mj, z)) (hkd : kd = 1 ∨ kd = 2 ∧ vir = 2) (hN : ae_m mj = some N) (hvir : N.2.2.2.2.2.1 = vir)
    (hf1 : N.2.2.2.2.2.2.2.1 < M.2.2.2.2.2.2.2.1) (hf2 : 19 + N.2.2.2.1 + N.2.2.2.2.2.2.2.2.1 ≤ M.2.2.2.2.2.2.2.2.1) (hf3 : ce + N.2.2.2.2.2.2.2.2.2.1 ≤ M.2.2.2.2.2.2.2.2.2.1) (hf4 : sl + N.2.2.2.2.2.2.2.2.2.2 ≤ M.2.2.2.2.2.2.2.2.2.2)
    (e3 : ps.length = cond (Nat.beq vir 0) N.2.2.2.2.2.2.1 (Nat.succ N.2.2.2.2.2.2.1)) (hrest : (restC.map fun v => v.category).sum ≤ 8) (has : ae_catS ps.reverse ≤ N.2.2.2.1) (hrcv : ae_rcv vir ps.reverse h N.1 = true) (hM : ae_Mt l D kA mj ps.reverse h r2) (hls : ls.size = M.2.2.2.1) (hps : ae_sr (ae_ad kA ws) ps psC) (hhr : ae_hr kA ws h) (hPo : va_P D ae_cl (ws ++ [oE]) H) (hDo : va_D A (ws ++ [oE])) (hS : va_S A s.heap H locs)
    (kk : ∀ (rv : Option Value) (ws1 : va_W) (H1 : Heap) (locs1 : List Loc), ae_ro (ae_ad kA ws1) r2.1 rv → ae_hr kA ws1 r2.2 → ae_px (ae_ad kA ws) (ae_ad kA ws1) → va_P D ae_cl (ws1 ++ [oE]) H1 → va_D A (ws1 ++ [oE]) → va_S A s.heap H1 locs1 → W p l e R s m args below meth c H1 locs1 (ce + N.2.2.2.2.2.2.2.2.2.1) (sl + N.2.2.2.2.2.2.2.2.2.2) Q (F0 m (pc + 3) ls (rv.toList ++ restC))) : W p l e R s m args below meth c H locs ce sl Q (F0 m pc ls (psC ++ restC)) := by
  have hP := lo_Pl hPo
  have hD := lo_Dl hDo
  obtain ⟨hx, hb, hml, hown, hts, hKK, hA, -, -, -, hEX⟩ := X
  have hK := hKK.1
  generalize eas : ps.reverse = as at has hrcv hM
  have e1 : as = ps.reverse := eas.symm
  have hasr : ae_sr (ae_ad kA ws) as psC.reverse := by rw [e1]; exact ae_sr_rev hps
  obtain ⟨n1, n2, n3, n4, n5, n6, n7, n8⟩ := ae_mf hN
  have hMet := hM N hN ws psC.reverse H.size hasr hhr has
  have hlenC : psC.length = ps.length := ae_sr_len hps
  have hword := (ae_cp_ok hc).1
  have hfree : ∀ q, va_A ws H.size q → A q := by
    intro q hq
    rcases hq with ⟨k, e0, hq⟩ | hq
    · exact hD.2 k (q, e0) hq
    · exact hA q (Nat.le_trans hS.1 hq)
  subst hR
  have pre0 : ∀ U : State, U.heap = H → s.WarmedH U.vm → va_Pc psC.reverse (ae_B D kA ws H.size) psC.reverse.toArray U := fun U hU hW => ⟨rfl, by rw [hU], by rw [hU]; exact hP, hD.weaken (fun _ _ _ _ => trivial), hKK.moved hW, by rw [hU]; exact hEX.warm hW hS.2.1 hfree⟩
  have hRR : (ae_room N).frames + 1 ≤ (ae_room M).frames ∧ 8 + (N.2.2.2.1 + 11) + (ae_room N).locals ≤ (ae_room M).locals := ⟨hf1, by show 8 + (N.2.2.2.1 + 11) + N.2.2.2.2.2.2.2.2.1 ≤ M.2.2.2.2.2.2.2.2.1; omega⟩
  have hini := hts _ n1
  have hfix : CallFix p m c M.2.2.1 M.2.2.2.1 s args ae_gw (ae_on M.1) := ⟨hx, hb, hml, hown, hts⟩
  have hroom : 2 * (F0 m pc ls (psC ++ restC)).monitorRoom + (restC.map fun v => v.category).sum ≤ 8 := lv_room hrest
  have fin : ∀ a : Array Value, va_Run p l e (ae_room M) s m args below meth c H locs ce sl N.2.2.2.2.2.2.2.2.2.1 N.2.2.2.2.2.2.2.2.2.2 (F0 m pc ls (psC ++ restC)) restC (ae_Qc D kA (va_A ws H.size) (ae_ad kA ws) r2 a) (va_A ws H.size) → W p l e (ae_room M) s m args below meth c H locs ce sl Q (F0 m pc ls (psC ++ restC)) := by
    intro a hrun
    exact ae_contO hrun hS hfree hfree (fun rv ws1 H1 locs1 g1 g2 g3 g4 g5 g6 g7 => by
      obtain ⟨k1, k2⟩ := lo_kept hPo hDo g4 g5 g7 hfree
      exact kk rv ws1 H1 locs1 g1 g2 g3 k1 k2 g6)
  match vir, hv, hvir, hd, e3, hrcv, hkd with
  | 0, _, hvir, hd, e3, hrcv, hkd =>
    have hkd : kd = 1 := by rcases hkd with q | ⟨-, q⟩ <;> omega
    subst hkd
    have hw2 : (match ae_m mj with
      | some N => Jvm.Cond.methodLink (ae_on M.1) idx N.2.1
      | none => .initialized "") ∈ lw_tbl := hword
    rw [hN] at hw2
    have hlink := hts _ (ae_gw_in hw2 rfl)
    have hlen2 : psC.reverse.length = N.2.2.2.2.2.2.1 := by rw [List.length_reverse, hlenC, e3]; rfl
    exact fin _ (va_runS (As := psC.reverse) (rest := restC) (n := N.2.2.2.2.2.2.1) hfix hMet ⟨callB_of (ws' := ae_gw) N.2.2.2.2.2.2.1 hts (ae_good n8) rfl rfl rfl hini hlink n7 hRR, hts _ (n2 hvir)⟩ ⟨ae_blind, pre0⟩ rfl hlen2 hls (by rw [List.reverse_reverse]) hroom hd ⟨hf3, hf4⟩)
  | 1, _, hvir, hd, e3, hrcv, hkd =>
    have hkd : kd = 1 := by rcases hkd with q | ⟨-, q⟩ <;> omega
    subst hkd
    have hw2 : (match ae_m mj with
      | some N => Jvm.Cond.methodLink (ae_on M.1) idx N.2.1
      | none => .initialized "") ∈ lw_tbl := hword
    rw [hN] at hw2
    have hlink := hts _ (ae_gw_in hw2 rfl)
    obtain ⟨i1, i2⟩ := n3 hvir
    obtain ⟨k, ci, as', fs, eas, hgk, hci⟩ := ae_rcv_ok rfl hrcv
    rw [eas] at hasr
    · · obtain ⟨b, As, eA, hbk, hAs⟩ := ae_sr_r hasr
        obtain ⟨a', e', hw, fs', rfl, hfs⟩ := hhr.2.2 k _ hgk
        have : a' = b := Option.some.inj ((ae_ad_at hw).symm.trans hbk)
        subst this
        have hlen2 : As.length = N.2.2.2.2.2.2.1 := by
          have h1 : psC.reverse.length = ps.length := by rw [List.length_reverse, hlenC]
          rw [eA, e3] at h1
          have h1 : As.length + 1 = N.2.2.2.2.2.2.1 + 1 := h1
          omega
        have hstk : psC = As.reverse ++ [.ref a'] := by rw [← List.reverse_reverse psC, eA, List.reverse_cons]
        obtain ⟨q, hcl⟩ : ∃ q, ae_cl[ci]? = some q := by
          obtain ⟨q, hq, -⟩ := hP k _ hw
          exact ⟨q, hq⟩
        obtain ⟨ty, -, -, -, -, -, hCn, -⟩ := ae_cls ci q hcl
        have hrec := va_recv hK hP hcl hw
        rw [hCn, hci, ← n6] at hrec
        rw [eA] at hMet pre0
        exact fin _ (va_runV (As := As) (rest := restC) (n := N.2.2.2.2.2.2.1) (C := N.2.1.cls) hfix hMet ⟨callB_of (ws' := ae_gw) N.2.2.2.2.2.2.1 hts (ae_good n8) rfl rfl rfl hini hlink n7 hRR, hts _ i1, hts _ i2⟩ ⟨ae_blind, hrec, pre0⟩ rfl hlen2 hls (by rw [hstk]; simp) hroom hd ⟨hf3, hf4⟩)
  | 2, _, hvir, hd, e3, hrcv, hkd =>
    obtain ⟨i1, i2, i3⟩ := n4 hvir
    obtain ⟨k, ci, as', fs, eas, hgk, hci⟩ := ae_rcv_ok rfl hrcv
    rw [eas] at hasr
    · obtain ⟨b, As, eA, hbk, hAs⟩ := ae_sr_r hasr
      have hlen2 : As.length = N.2.2.2.2.2.2.1 := by
        have h1 : psC.reverse.length = ps.length := by rw [List.length_reverse, hlenC]
        rw [eA, e3] at h1
        have h1 : As.length + 1 = N.2.2.2.2.2.2.1 + 1 := h1
        omega
      have hstk : psC = As.reverse ++ [.ref b] := by rw [← List.reverse_reverse psC, eA, List.reverse_cons]
      rw [eA] at hMet pre0
      have hwn : ae_ws N = Jvm.Cond.code N.2.1 N.2.2.1 N.2.2.2.1 none :: ae_gw := by unfold ae_ws ae_cwd; rw [i3]
      rcases hkd with rfl | ⟨rfl, -⟩
      · have hw2 : (match ae_m mj with
          | some N => Jvm.Cond.methodLink (ae_on M.1) idx N.2.1
          | none => .initialized "") ∈ lw_tbl := hword
        rw [hN] at hw2
        have hlink := hts _ (ae_gw_in hw2 rfl)
        exact fin _ (va_runI (As := As) (rest := restC) (n := N.2.2.2.2.2.2.1) hfix hMet ⟨callB_of (ws' := ae_gw) N.2.2.2.2.2.2.1 hts (ae_good n8) hwn rfl rfl hini hlink n7 hRR, i2, hts _ i1⟩ ⟨ae_blind, pre0⟩ rfl hlen2 hls (by rw [hstk]; simp) hroom hd ⟨hf3, hf4⟩)
      · have hw2 : (match ae_m mj with
          | some N => Jvm.Cond.methodLinkNest (ae_on M.1) idx N.2.1 "PlugHall"
          | none => .initialized "") ∈ lw_tbl := hword
        rw [hN] at hw2
        have hlink := hKK.2.2 _ (List.mem_filter.mpr ⟨hw2, rfl⟩)
        exact fin _ (va_runIN (As := As) (rest := restC) (n := N.2.2.2.2.2.2.1) (host := "PlugHall") hfix hMet ⟨va_cnB (ws' := ae_gw) N.2.2.2.2.2.2.1 hts (ae_good n8) hwn rfl rfl hlink hini n7 hRR, i2, hts _ i1⟩ ⟨ae_blind, pre0⟩ rfl hlen2 hls (by rw [hstk]; simp) hroom hd ⟨hf3, hf4⟩)
end
