def ae_ro (ad : Nat → Option Nat) (r : Option ae_V) (x : Option Value) : Prop := match r with
  | none => x = none
  | some v => ∃ y, x = some y ∧ ae_vr ad v y
/-- what a run of a method leaves -/
def ae_Qc (D : va_G) (kA : Nat → ClassId) (A : Nat → Prop) (pre : Nat → Option Nat) (r : ae_R) : Array Value → State → Outcome → State → Prop := fun _ st oc t =>
  ∃ (rv : Option Value) (ws : va_W), oc = .returned rv ∧ ae_ro (ae_ad kA ws) r.1 rv ∧ ae_hr kA ws r.2 ∧ ae_px pre (ae_ad kA ws) ∧ va_P D ae_cl ws t.heap ∧ va_D A ws ∧ va_F A st t
def ae_B (D : va_G) (kA : Nat → ClassId) (ws : va_W) (sz : Nat) (U : State) : Prop := U.heap.size = sz ∧ va_P D ae_cl ws U.heap ∧ va_D (fun _ => True) ws ∧ ae_KK D kA U ∧ ae_EX kA (va_A ws sz) U U.heap
/-- a run of the runner is a contract -/
def ae_Mt (l : Launch) (D : va_G) (kA : Nat → ClassId) (mj : Nat) (as : List ae_V) (h : ae_H) (r : ae_R) : Prop := ∀ N, ae_m mj = some N → ∀ (ws : va_W) (asC : List Value) (sz : Nat), ae_sr (ae_ad kA ws) as asC → ae_hr kA ws h → ae_catS as ≤ N.2.2.2.1 →
  Met l N.2.1 (ae_ws N) (ae_room N) (va_Pc asC (ae_B D kA ws sz)) (ae_Qc D kA (va_A ws sz) (ae_ad kA ws) r) N.2.2.2.2.2.2.2.2.2.1 N.2.2.2.2.2.2.2.2.2.2 (va_A ws sz)
theorem ae_sr_split {ad : Nat → Option Nat} : ∀ {ps rest : List ae_V} {xs : List Value}, ae_sr ad (ps ++ rest) xs → ∃ ys zs, xs = ys ++ zs ∧ ae_sr ad ps ys ∧ ae_sr ad rest zs
  | [], rest, xs, h => ⟨[], xs, rfl, rfl, h⟩
  | v :: ps, rest, _, ⟨x, xs', e, h1, h2⟩ => by
    subst e
    obtain ⟨ys, zs, rfl, g1, g2⟩ := ae_sr_split h2
    exact ⟨x :: ys, zs, rfl, ⟨x, ys, rfl, h1, g1⟩, g2⟩
theorem ae_sr_rev {ad : Nat → Option Nat} : ∀ {vs : List ae_V} {xs : List Value}, ae_sr ad vs xs → ae_sr ad vs.reverse xs.reverse
  | [], xs, h => by rw [show xs = [] from h]; rfl
  | v :: vs, _, ⟨x, xs', e, h1, h2⟩ => by
    subst e
    rw [List.reverse_cons, List.reverse_cons]
    exact ae_sr_app (ae_sr_rev h2) ⟨x, [], rfl, h1, rfl⟩
theorem ae_pop_ok : ∀ (n : Nat) {acc st as rest : List ae_V}, ae_pop n acc st = some (as, rest) → ∃ ps, as = ps.reverse ++ acc ∧ st = ps ++ rest ∧ ps.length = n := by
  intro n
  induction n with
  | zero => intro acc st as rest h; cases h; exact ⟨[], rfl, rfl, rfl⟩
  | succ n ih =>
    intro acc st as rest h
    cases st with
    | cons v st' =>
      have h : ae_pop n (v :: acc) st' = some (as, rest) := h
      obtain ⟨ps, e1, e2, e3⟩ := ih h
      exact ⟨v :: ps, by rw [e1]; simp, by rw [e2]; rfl, by simp [e3]⟩
    | nil => cases h
theorem ae_rcv_ok {vir own : Nat} {as : List ae_V} {hp : ae_H} (hv : Nat.beq vir 0 = false) (h : ae_rcv vir as hp own = true) : ∃ (k ci : Nat) (as' fs : List ae_V), as = .inr (.inr (some k)) :: as' ∧ ae_hg hp k = some (.inr (ci, fs)) ∧ ci = own := by
  unfold ae_rcv at h
  rw [hv, cond_false] at h
  split at h
  · next k as' =>
    split at h
    · next ci fs hg => exact ⟨k, ci, as', fs, rfl, hg, ae_beq h⟩
    · cases h
  · cases h
theorem ae_mf {mi : Nat} {N : ae_M} (h : ae_m mi = some N) : Jvm.Cond.initialized N.2.1.cls ∈ ae_gw ∧ (N.2.2.2.2.2.1 = 0 → Jvm.Cond.static N.2.1 ∈ ae_gw) ∧ (N.2.2.2.2.2.1 = 1 → Jvm.Cond.instanceMethod N.2.1 ∈ ae_gw ∧ Jvm.Cond.selects N.2.1.cls N.2.1 N.2.1 ∈ ae_gw) ∧ (N.2.2.2.2.2.1 = 2 → Jvm.Cond.instanceMethod N.2.1 ∈ ae_gw ∧ N.2.1.name = "<init>" ∧ N.2.2.2.2.1 = none) ∧
    plainFor N.2.1 = true ∧ N.2.1.cls = ae_on N.1 ∧ (N.2.1.cls ≠ "java/lang/invoke/MethodHandle" ∧ N.2.1.cls ≠ "java/lang/invoke/VarHandle" ∧ (parseMethodDescriptor N.2.1.desc).map (fun d => d.parameters.length) = some N.2.2.2.2.2.2.1) ∧ ae_cwd N ∈ ae_gw := by
  obtain ⟨q, hq⟩ := ae_m_ok h
  have hcw := ae_gw_in (ae_m_cw h) rfl
  unfold ae_mc at hq
  simp only [Bool.and_eq_true] at hq
  obtain ⟨g1, g2, g3, g4, g5, g6, g7⟩ := hq
  have hm : ∀ {p : Nat} {w : Jvm.Cond}, decide (ae_wtb p = some w) = true → goodWord w = true → w ∈ ae_gw := fun h0 h9 => ae_gw_in (ae_wtb_ok (of_decide_eq_true h0)) h9
  refine ⟨hm g1 rfl, fun e => ?_, fun e => ?_, fun e => ?_, g3, of_decide_eq_true g4, ⟨of_decide_eq_true g6, of_decide_eq_true g7, of_decide_eq_true g5⟩, hcw⟩
  · rw [e] at g2; exact hm g2 rfl
  · rw [e] at g2; obtain ⟨a, b⟩ := ae_band g2; exact ⟨hm a rfl, hm b rfl⟩
  · rw [e] at g2; obtain ⟨a, b⟩ := ae_band g2; obtain ⟨b, c⟩ := ae_band b; exact ⟨hm a rfl, of_decide_eq_true b, of_decide_eq_true c⟩
theorem ae_good {N : ae_M} (h : ae_cwd N ∈ ae_gw) : GoodIn ae_gw (ae_ws N) := by
  intro w hw
  have hg : w ∈ ae_gw := by
    rcases List.mem_cons.mp hw with e | e
    · rw [e]; exact h
    · exact e
  exact ⟨hg, good_of_word (ae_gw_good hg)⟩
theorem ae_KK.moved {D : va_G} {kA : Nat → ClassId} {s U : State} (hW : s.WarmedH U.vm) (h : ae_KK D kA s) : ae_KK D kA U := by
  refine ⟨va_K.moved hW.alike h.1, va_AO.moved hW.alike h.2.1, fun w hw => ?_⟩
  have h1 := h.2.2 w hw
  have h2 : ae_nest w = true := (List.mem_filter.mp hw).2
  cases w <;> first | exact va_Nw.warmM hW h1 | cases h2
theorem ae_KK.call {D : va_G} {kA : Nat → ClassId} {U : State} {g : JFrame} {mk : MethodId} {a : Array Value} (h : ae_KK D kA U) : ae_KK D kA (U.calling g mk a) := by
  refine ⟨va_K.moved (u := U) (U := U.calling g mk a) (Vm.Alike.refl U.vm) h.1, va_AO.moved (u := U) (U := U.calling g mk a) (Vm.Alike.refl U.vm) h.2.1, fun w hw => ?_⟩
  have h1 := h.2.2 w hw
  have h2 : ae_nest w = true := (List.mem_filter.mp hw).2
  cases w <;> first | exact va_Nw.same rfl (u := U) (U := U.calling g mk a) rfl h1 | cases h2
theorem ae_blind {D : va_G} {kA : Nat → ClassId} {ws : va_W} {sz : Nat} {asC : List Value} : FrameBlind (va_Pc asC (ae_B D kA ws sz)) := fun a U g mk q => ⟨q.1, q.2.1, q.2.2.1, q.2.2.2.1, q.2.2.2.2.1.call, q.2.2.2.2.2.call⟩
section
variable {p : Program} {l : Launch} {e : Env} {s : State} {m : MethodId} {args : Array Value} {below : List Frame} {meth : Method} {c : Code} {Q : State → Prop} {D : va_G} {kA : Nat → ClassId} {A : Nat → Prop} {pre : Nat → Option Nat} {M : ae_M} {R : Room}
  {pc ce sl : Nat} {lv : ae_L} {st : List ae_V} {h : ae_H} {K : ae_K} {r : ae_R}
theorem ae_cont {mc ms : Nat} {st0 rest : List Value} {A1 : Nat → Prop} {pre1 : Nat → Option Nat} {r2 : ae_R} {a : Array Value} {free : Addr → Prop} {H : Heap} {locs : List Loc} {ls : Array Slot} (hr : va_Run p l e R s m args below meth c H locs ce sl mc ms (F0 m pc ls st0) rest (ae_Qc D kA A1 pre1 r2 a) free) (hS : va_S A s.heap H locs) (hA : ∀ q, A1 q → A q) (hf : ∀ q, free q → A q)
    (kk : ∀ (rv : Option Value) (ws : va_W) (H1 : Heap) (locs1 : List Loc), ae_ro (ae_ad kA ws) r2.1 rv → ae_hr kA ws r2.2 → ae_px pre1 (ae_ad kA ws) → va_P D ae_cl ws H1 → va_D A1 ws → va_S A s.heap H1 locs1 → W p l e R s m args below meth c H1 locs1 (ce + mc) (sl + ms) Q (F0 m (pc + 3) ls (rv.toList ++ rest))) : W p l e R s m args below meth c H locs ce sl Q (F0 m pc ls st0) := by
  intro T hT X
  obtain ⟨v, st₀, t, T', L, h0, X', hL, e1, e2, ⟨rv, ws, hv, h1, h2, h3, h4, h5, hz, hk⟩, st⟩ := hr T hT X
  cases hv
  rw [h0] at hz hk
  obtain ⟨t2, a1, b1⟩ := kk v ws T'.heap (locs ++ L) h1 h2 h3 (by rw [e1]; exact h4) h5
    ⟨Nat.le_trans hS.1 (by rw [e1]; exact hz), fun q h1 h2 => by rw [e1, hk q (Nat.lt_of_lt_of_le h1 hS.1) (fun z => h2 (hA q z))]; exact hS.2.1 q h1 h2, fun q hq => by
      rcases List.mem_append.mp hq with h | h
      · exact hS.2.2 q h
      · exact hf _ (hL q h)⟩ T' rfl X'
  exact ⟨t2, st t2 a1, b1⟩
/-- a call of a method of the table, at a state of the machine -/
theorem ae_callW (X : ae_Cx p s m args meth c D kA A M) (hR : R = ae_room M) {vir idx mj kd z : Nat} {N : ae_M} {ps : List ae_V} {r2 : ae_R} {ws : va_W} {H : Heap} {locs : List Loc} {ls : Array Slot} {psC restC : List Value} (hd : decode M.2.2.1 pc = .ok (match vir with | 0 => .invokestatic idx | 1 => .invokevirtual idx | _ => .invokespecial idx, 3)) (hv : vir ≤ 2) (hc : ae_cp M.1 idx = some (kd, mj, z)) (hkd : kd = 1 ∨ kd = 2 ∧ vir = 2) (hN : ae_m mj = some N) (hvir : N.2.2.2.2.2.1 = vir)
    (hf1 : N.2.2.2.2.2.2.2.1 < M.2.2.2.2.2.2.2.1) (hf2 : 19 + N.2.2.2.1 + N.2.2.2.2.2.2.2.2.1 ≤ M.2.2.2.2.2.2.2.2.1) (hf3 : ce + N.2.2.2.2.2.2.2.2.2.1 ≤ M.2.2.2.2.2.2.2.2.2.1) (hf4 : sl + N.2.2.2.2.2.2.2.2.2.2 ≤ M.2.2.2.2.2.2.2.2.2.2)
    (e3 : ps.length = cond (Nat.beq vir 0) N.2.2.2.2.2.2.1 (Nat.succ N.2.2.2.2.2.2.1)) (hrest : (restC.map fun v => v.category).sum ≤ 8) (has : ae_catS ps.reverse ≤ N.2.2.2.1) (hrcv : ae_rcv vir ps.reverse h N.1 = true) (hM : ae_Mt l D kA mj ps.reverse h r2) (hls : ls.size = M.2.2.2.1) (hps : ae_sr (ae_ad kA ws) ps psC) (hhr : ae_hr kA ws h) (hP : va_P D ae_cl ws H) (hD : va_D A ws) (hS : va_S A s.heap H locs)
    (kk : ∀ (rv : Option Value) (ws1 : va_W) (H1 : Heap) (locs1 : List Loc), ae_ro (ae_ad kA ws1) r2.1 rv → ae_hr kA ws1 r2.2 → ae_px (ae_ad kA ws) (ae_ad kA ws1) → va_P D ae_cl ws1 H1 → va_D A ws1 → va_S A s.heap H1 locs1 → W p l e R s m args below meth c H1 locs1 (ce + N.2.2.2.2.2.2.2.2.2.1) (sl + N.2.2.2.2.2.2.2.2.2.2) Q (F0 m (pc + 3) ls (rv.toList ++ restC))) : W p l e R s m args below meth c H locs ce sl Q (F0 m pc ls (psC ++ restC)) := by
  obtain ⟨hx, hb, hml, hown, hts, hKK, hA, -, -, -, hEX⟩ := X
  have hK := hKK.1
  generalize eas : ps.reverse = as at has hrcv hM
  have e1 : as = ps.reverse := eas.symm
  have hasr : ae_sr (ae_ad kA ws) as psC.reverse := by rw [e1]; exact ae_sr_rev hps
  obtain ⟨n1, n2, n3, n4, n5, n6, n7, n8⟩ := ae_mf hN
  have hMet := hM N hN ws psC.reverse H.size hasr hhr has
  have hlenC : psC.length = ps.length := ae_sr_len hps
  have hword := (ae_cp_ok hc).1
  have hfree : ∀ q, va_A ws H.size q → A q := by
    intro q hq
    rcases hq with ⟨k, e0, hq⟩ | hq
    · exact hD.2 k (q, e0) hq
    · exact hA q (Nat.le_trans hS.1 hq)
  subst hR
  have pre0 : ∀ U : State, U.heap = H → s.WarmedH U.vm → va_Pc psC.reverse (ae_B D kA ws H.size) psC.reverse.toArray U := fun U hU hW => ⟨rfl, by rw [hU], by rw [hU]; exact hP, hD.weaken (fun _ _ _ _ => trivial), hKK.moved hW, by rw [hU]; exact hEX.warm hW hS.2.1 hfree⟩
  have hRR : (ae_room N).frames + 1 ≤ (ae_room M).frames ∧ 8 + (N.2.2.2.1 + 11) + (ae_room N).locals ≤ (ae_room M).locals := ⟨hf1, by show 8 + (N.2.2.2.1 + 11) + N.2.2.2.2.2.2.2.2.1 ≤ M.2.2.2.2.2.2.2.2.1; omega⟩
  have hini := hts _ n1
  have hfix : CallFix p m c M.2.2.1 M.2.2.2.1 s args ae_gw (ae_on M.1) := ⟨hx, hb, hml, hown, hts⟩
  have hroom : 2 * (F0 m pc ls (psC ++ restC)).monitorRoom + (restC.map fun v => v.category).sum ≤ 8 := lv_room hrest
  have fin : ∀ a : Array Value, va_Run p l e (ae_room M) s m args below meth c H locs ce sl N.2.2.2.2.2.2.2.2.2.1 N.2.2.2.2.2.2.2.2.2.2 (F0 m pc ls (psC ++ restC)) restC (ae_Qc D kA (va_A ws H.size) (ae_ad kA ws) r2 a) (va_A ws H.size) → W p l e (ae_room M) s m args below meth c H locs ce sl Q (F0 m pc ls (psC ++ restC)) := by
    intro a hrun
    exact ae_cont hrun hS hfree hfree (fun rv ws1 H1 locs1 g1 g2 g3 g4 g5 g6 => kk rv ws1 H1 locs1 g1 g2 g3 g4 (g5.weaken (fun _ q _ hq => hfree q.1 hq)) g6)
  match vir, hv, hvir, hd, e3, hrcv, hkd with
  | 0, _, hvir, hd, e3, hrcv, hkd =>
    have hkd : kd = 1 := by rcases hkd with q | ⟨-, q⟩ <;> omega
    subst hkd
    have hw2 : (match ae_m mj with
      | some N => Jvm.Cond.methodLink (ae_on M.1) idx N.2.1
      | none => .initialized "") ∈ lw_tbl := hword
    rw [hN] at hw2
    have hlink := hts _ (ae_gw_in hw2 rfl)
    have hlen2 : psC.reverse.length = N.2.2.2.2.2.2.1 := by rw [List.length_reverse, hlenC, e3]; rfl
    exact fin _ (va_runS (As := psC.reverse) (rest := restC) (n := N.2.2.2.2.2.2.1) hfix hMet ⟨callB_of (ws' := ae_gw) N.2.2.2.2.2.2.1 hts (ae_good n8) rfl rfl rfl hini hlink n7 hRR, hts _ (n2 hvir)⟩ ⟨ae_blind, pre0⟩ rfl hlen2 hls (by rw [List.reverse_reverse]) hroom hd ⟨hf3, hf4⟩)
  | 1, _, hvir, hd, e3, hrcv, hkd =>
    have hkd : kd = 1 := by rcases hkd with q | ⟨-, q⟩ <;> omega
    subst hkd
    have hw2 : (match ae_m mj with
      | some N => Jvm.Cond.methodLink (ae_on M.1) idx N.2.1
      | none => .initialized "") ∈ lw_tbl := hword
    rw [hN] at hw2
    have hlink := hts _ (ae_gw_in hw2 rfl)
    obtain ⟨i1, i2⟩ := n3 hvir
    obtain ⟨k, ci, as', fs, eas, hgk, hci⟩ := ae_rcv_ok rfl hrcv
    rw [eas] at hasr
    · · obtain ⟨b, As, eA, hbk, hAs⟩ := ae_sr_r hasr
        obtain ⟨a', e', hw, fs', rfl, hfs⟩ := hhr.2.2 k _ hgk
        have : a' = b := Option.some.inj ((ae_ad_at hw).symm.trans hbk)
        subst this
        have hlen2 : As.length = N.2.2.2.2.2.2.1 := by
          have h1 : psC.reverse.length = ps.length := by rw [List.length_reverse, hlenC]
          rw [eA, e3] at h1
          have h1 : As.length + 1 = N.2.2.2.2.2.2.1 + 1 := h1
          omega
        have hstk : psC = As.reverse ++ [.ref a'] := by rw [← List.reverse_reverse psC, eA, List.reverse_cons]
        obtain ⟨q, hcl⟩ : ∃ q, ae_cl[ci]? = some q := by
          obtain ⟨q, hq, -⟩ := hP k _ hw
          exact ⟨q, hq⟩
        obtain ⟨ty, -, -, -, -, -, hCn, -⟩ := ae_cls ci q hcl
        have hrec := va_recv hK hP hcl hw
        rw [hCn, hci, ← n6] at hrec
        rw [eA] at hMet pre0
        exact fin _ (va_runV (As := As) (rest := restC) (n := N.2.2.2.2.2.2.1) (C := N.2.1.cls) hfix hMet ⟨callB_of (ws' := ae_gw) N.2.2.2.2.2.2.1 hts (ae_good n8) rfl rfl rfl hini hlink n7 hRR, hts _ i1, hts _ i2⟩ ⟨ae_blind, hrec, pre0⟩ rfl hlen2 hls (by rw [hstk]; simp) hroom hd ⟨hf3, hf4⟩)
  | 2, _, hvir, hd, e3, hrcv, hkd =>
    obtain ⟨i1, i2, i3⟩ := n4 hvir
    obtain ⟨k, ci, as', fs, eas, hgk, hci⟩ := ae_rcv_ok rfl hrcv
    rw [eas] at hasr
    · obtain ⟨b, As, eA, hbk, hAs⟩ := ae_sr_r hasr
      have hlen2 : As.length = N.2.2.2.2.2.2.1 := by
        have h1 : psC.reverse.length = ps.length := by rw [List.length_reverse, hlenC]
        rw [eA, e3] at h1
        have h1 : As.length + 1 = N.2.2.2.2.2.2.1 + 1 := h1
        omega
      have hstk : psC = As.reverse ++ [.ref b] := by rw [← List.reverse_reverse psC, eA, List.reverse_cons]
      rw [eA] at hMet pre0
      have hwn : ae_ws N = Jvm.Cond.code N.2.1 N.2.2.1 N.2.2.2.1 none :: ae_gw := by unfold ae_ws ae_cwd; rw [i3]
      rcases hkd with rfl | ⟨rfl, -⟩
      · have hw2 : (match ae_m mj with
          | some N => Jvm.Cond.methodLink (ae_on M.1) idx N.2.1
          | none => .initialized "") ∈ lw_tbl := hword
        rw [hN] at hw2
        have hlink := hts _ (ae_gw_in hw2 rfl)
        exact fin _ (va_runI (As := As) (rest := restC) (n := N.2.2.2.2.2.2.1) hfix hMet ⟨callB_of (ws' := ae_gw) N.2.2.2.2.2.2.1 hts (ae_good n8) hwn rfl rfl hini hlink n7 hRR, i2, hts _ i1⟩ ⟨ae_blind, pre0⟩ rfl hlen2 hls (by rw [hstk]; simp) hroom hd ⟨hf3, hf4⟩)
      · have hw2 : (match ae_m mj with
          | some N => Jvm.Cond.methodLinkNest (ae_on M.1) idx N.2.1 "PlugHall"
          | none => .initialized "") ∈ lw_tbl := hword
        rw [hN] at hw2
        have hlink := hKK.2.2 _ (List.mem_filter.mpr ⟨hw2, rfl⟩)
        exact fin _ (va_runIN (As := As) (rest := restC) (n := N.2.2.2.2.2.2.1) (host := "PlugHall") hfix hMet ⟨va_cnB (ws' := ae_gw) N.2.2.2.2.2.2.1 hts (ae_good n8) hwn rfl rfl hlink hini n7 hRR, i2, hts _ i1⟩ ⟨ae_blind, pre0⟩ rfl hlen2 hls (by rw [hstk]; simp) hroom hd ⟨hf3, hf4⟩)
/-- a call of a method of the table -/
theorem ae_callM (X : ae_Cx p s m args meth c D kA A M) (hR : R = ae_room M) {vir idx mj kd z : Nat} {N : ae_M} {as rest : List ae_V} {r2 : ae_R} (hd : decode M.2.2.1 pc = .ok (match vir with | 0 => .invokestatic idx | 1 => .invokevirtual idx | _ => .invokespecial idx, 3)) (hv : vir ≤ 2) (hc : ae_cp M.1 idx = some (kd, mj, z)) (hkd : kd = 1 ∨ kd = 2 ∧ vir = 2) (hN : ae_m mj = some N) (hvir : N.2.2.2.2.2.1 = vir)
    (hf1 : N.2.2.2.2.2.2.2.1 < M.2.2.2.2.2.2.2.1) (hf2 : 19 + N.2.2.2.1 + N.2.2.2.2.2.2.2.2.1 ≤ M.2.2.2.2.2.2.2.2.1) (hf3 : ce + N.2.2.2.2.2.2.2.2.2.1 ≤ M.2.2.2.2.2.2.2.2.2.1) (hf4 : sl + N.2.2.2.2.2.2.2.2.2.2 ≤ M.2.2.2.2.2.2.2.2.2.2)
    (hp : ae_pop (cond (Nat.beq vir 0) N.2.2.2.2.2.2.1 (Nat.succ N.2.2.2.2.2.2.1)) [] st = some (as, rest)) (hrest : ae_catS rest ≤ 8) (has : ae_catS as ≤ N.2.2.2.1) (hrcv : ae_rcv vir as h N.1 = true) (hM : ae_Mt l D kA mj as h r2)
    (kk : ae_At p l e R s m args below meth c Q D kA A pre M.2.2.2.1 (pc + 3) (ce + N.2.2.2.2.2.2.2.2.2.1) (sl + N.2.2.2.2.2.2.2.2.2.2) lv (r2.1.toList ++ rest) r2.2) : ae_At p l e R s m args below meth c Q D kA A pre M.2.2.2.1 pc ce sl lv st h := by
  intro ws H locs ls lvC stC hl hlr hsr hhr hpx hP hD hS
  obtain ⟨ps, e1, e2, e3⟩ := ae_pop_ok _ hp
  rw [List.append_nil] at e1
  subst e2
  subst e1
  obtain ⟨psC, restC, rfl, hps, hrs⟩ := ae_sr_split hsr
  refine ae_callW X hR hd hv hc hkd hN hvir hf1 hf2 hf3 hf4 e3 (by rw [ae_sr_cat hrs]; exact hrest) has hrcv hM hl.1 hps hhr hP hD hS (fun rv ws1 H1 locs1 g1 g2 g3 g4 g5 g6 => ?_)
  refine kk ws1 H1 locs1 ls lvC _ hl (hlr.up g3) ?_ g2 (hpx.tr g3) g4 g5 g6
  cases hr1 : r2.1 with
  | none =>
    rw [hr1] at g1
    rw [show rv = none from g1]
    exact hrs.up g3
  | some v =>
    rw [hr1] at g1
    obtain ⟨y, rfl, hy⟩ := g1
    exact ae_sr_c hy (hrs.up g3)
end
