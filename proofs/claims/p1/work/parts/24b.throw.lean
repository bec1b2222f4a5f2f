def ae_nse : String := "java/util/NoSuchElementException"
def ae_nms : List String := ["java/lang/RuntimeException", "java/lang/Exception"]
/-- the words of a throw that a callee doesn't have by itself -/
def ae_vn : List Jvm.Cond := (vx_at0 RX11 124 ae_nse ae_nms).filter (fun w => !goodWord w)
def ae_isc : Jvm.Cond → Bool
  | .castable _ _ => true
  | .declares _ => true
  | _ => false
theorem ae_vn_c : ae_vn.all ae_isc = true := by decide +kernel
theorem ae_vn_t : ∀ w ∈ ae_vn, w ∈ lw_tbl := by decide +kernel
theorem ae_vn_s : Jvm.Cond.castable ae_nse ae_nse ∈ ae_vn := by decide +kernel
theorem ae_vg_t : ∀ w ∈ (vx_at0 RX11 124 ae_nse ae_nms).filter goodWord, w ∈ lw_tbl := by decide +kernel
theorem ae_vg_o : (Jvm.Cond.classLink RX11 122 ae_nse :: Jvm.Cond.initialized ae_nse :: vx_at0 RX11 124 ae_nse ae_nms).all vx_ot = true := by decide +kernel
theorem ae_wcl : Jvm.Cond.classLink RX11 122 ae_nse ∈ lw_tbl := by decide +kernel
theorem ae_wini : Jvm.Cond.initialized ae_nse ∈ lw_tbl := by decide +kernel
/-- what a thrower needs of the state -/
def ae_TT (A : Nat → Prop) (U : State) (H : Heap) : Prop := vx_Zq Bundle.tN "UNASSIGNED_STACK" Bundle.steD A U H ∧ vx_Zq Bundle.tN "SUPPRESSED_SENTINEL" Bundle.listD A U H ∧ ∀ w ∈ ae_vn, va_Nw w U
theorem ae_TT.moved {A : Nat → Prop} {s U : State} {H : Heap} (hW : s.WarmedH U.vm) (h : ae_TT A s H) : ae_TT A U H := by
  refine ⟨vx_Zq.moved hW.alike h.1, vx_Zq.moved hW.alike h.2.1, fun w hw => ?_⟩
  have h1 := h.2.2 w hw
  have h2 : ae_isc w = true := List.all_eq_true.mp ae_vn_c w hw
  cases w <;> first | exact va_Nw.warmC hW h1 | exact va_Nw.warmD hW h1 | cases h2
theorem ae_TT.call {A : Nat → Prop} {U : State} {H : Heap} {g : JFrame} {mk : MethodId} {a : Array Value} (h : ae_TT A U H) : ae_TT A (U.calling g mk a) H := by
  refine ⟨vx_Zq.moved (u := U) (U := U.calling g mk a) (Vm.Alike.refl U.vm) h.1, vx_Zq.moved (u := U) (U := U.calling g mk a) (Vm.Alike.refl U.vm) h.2.1, fun w hw => ?_⟩
  have h1 := h.2.2 w hw
  have h2 : ae_isc w = true := List.all_eq_true.mp ae_vn_c w hw
  cases w <;> first | exact va_Nw.same rfl (u := U) (U := U.calling g mk a) rfl h1 | cases h2
theorem ae_TT.kept {A B : Nat → Prop} {U : State} {H H1 : Heap} (h : ae_TT A U H) (hq : ∀ a : Nat, a < H.size → ¬ A a → H1[a]? = H[a]?) (hAB : ∀ q, B q → A q) : ae_TT B U H1 := ⟨(h.1.kept hq).narrow hAB, (h.2.1.kept hq).narrow hAB, h.2.2⟩
def ae_BX (D : va_G) (kA : Nat → ClassId) (ws : va_W) (sz : Nat) (U : State) : Prop := ae_B D kA ws sz U ∧ ae_TT (va_A ws sz) U U.heap
theorem ae_blindX {D : va_G} {kA : Nat → ClassId} {ws : va_W} {sz : Nat} {asC : List Value} : FrameBlind (va_Pc asC (ae_BX D kA ws sz)) := fun a U g mk q => ⟨q.1, ⟨q.2.1.1, q.2.1.2.1, q.2.1.2.2.1, q.2.1.2.2.2.call⟩, q.2.2.call⟩
/-- what a thrower leaves -/
def ae_XC (D : va_G) (kA : Nat → ClassId) (A : Nat → Prop) (pre : List Nat) (h : ae_H) : String → State → State → Prop := vx_X (S := va_W) (fun ws => ae_hr kA ws h ∧ ae_px pre (ae_ad ws)) (fun E ws t => E = ae_nse ∧ va_P D ae_cl ws t.heap ∧ va_D A ws) A
/-- the runner up to a place -/
noncomputable def ae_pfx (stop : Nat) (M : ae_M) : Nat → Nat → Nat → Nat → ae_L → List ae_V → ae_H → Option ae_R := fun n => Nat.rec (motive := fun _ => Nat → Nat → Nat → ae_L → List ae_V → ae_H → Option ae_R) (fun _ _ _ _ _ _ => none) (fun n ih pc ce sl lv st h => cond (Nat.beq pc stop) (cond (and (Nat.beq ce 0) (and (Nat.beq sl 0) st.isEmpty)) (some (none, h)) none) (match decode M.2.2.1 pc with
  | .error _ => none
  | .ok (i, len) => cond (Nat.beq len (ae_ln i len)) (ae_step i M pc ce sl lv st h (fun pc ce sl lv st h => ae_f pc fun pc => ih pc ce sl lv st h) (fun mj as h => ae_exe n mj 0 0 0 (ae_args as 0) [] h)) none)) n
section
variable {p : Program} {l : Launch} {e : Env} {s : State} {m : MethodId} {args : Array Value} {below : List Frame} {meth : Method} {c : Code} {Q : State → Prop} {D : va_G} {kA : Nat → ClassId} {A : Nat → Prop} {pre : List Nat} {M : ae_M} {r : ae_R}
theorem ae_pfx_ok (X : ae_Cx p s m args meth c D kA A M) {stop : Nat} (hr : r.1 = none) (hret : M.2.2.2.2.1 ≠ none) (kk : ∀ lv, ae_At p l e (ae_room M) s m args below meth c Q D kA A pre M.2.2.2.1 stop 0 0 lv [] r.2) : ∀ (n pc ce sl : Nat) (lv : ae_L) (st : List ae_V) (h : ae_H), ae_pfx stop M n pc ce sl lv st h = some r → ae_At p l e (ae_room M) s m args below meth c Q D kA A pre M.2.2.2.1 pc ce sl lv st h := by
  intro n
  induction n with
  | zero => intro pc ce sl lv st h hs; cases hs
  | succ n ih =>
    intro pc ce sl lv st h hs
    have hs : cond (Nat.beq pc stop) (cond (and (Nat.beq ce 0) (and (Nat.beq sl 0) st.isEmpty)) (some (none, h)) none) (match decode M.2.2.1 pc with
      | .error _ => none
      | .ok (i, len) => cond (Nat.beq len (ae_ln i len)) (ae_step i M pc ce sl lv st h (fun pc ce sl lv st h => ae_f pc fun pc => ae_pfx stop M n pc ce sl lv st h) (fun mj as h => ae_exe n mj 0 0 0 (ae_args as 0) [] h)) none) = some r := hs
    cases hq : Nat.beq pc stop with
    | true =>
      rw [hq, cond_true] at hs
      replace hs := ae_cond hs; obtain ⟨q0, hs⟩ := hs
      obtain ⟨q1, q2⟩ := ae_band q0
      obtain ⟨q2, q3⟩ := ae_band q2
      have e1 := ae_beq hq
      have e2 := ae_beq q1
      have e3 := ae_beq q2
      have e4 : st = [] := List.isEmpty_iff.mp q3
      cases hs
      rw [e1, e2, e3, e4]
      exact kk lv
    | false =>
      rw [hq, cond_false] at hs
      cases hdec : decode M.2.2.1 pc with
      | error x => rw [hdec] at hs; cases hs
      | ok q =>
        obtain ⟨i, len⟩ := q
        rw [hdec] at hs
        have hs : cond (Nat.beq len (ae_ln i len)) (ae_step i M pc ce sl lv st h (fun pc ce sl lv st h => ae_f pc fun pc => ae_pfx stop M n pc ce sl lv st h) (fun mj as h => ae_exe n mj 0 0 0 (ae_args as 0) [] h)) none = some r := hs
        obtain ⟨q1, q2⟩ := ae_cond hs
        have hd : decode M.2.2.1 pc = .ok (i, ae_ln i len) := by rw [hdec, ← ae_beq q1]
        exact ae_step_ok X rfl (Or.inl ⟨hr, hret⟩) hd (fun pc ce sl lv st h hk => by rw [ae_f_eq] at hk; exact ih pc ce sl lv st h hk) (fun mj as h r2 hk => ae_met hk) q2
/-- 'throw new NoSuchElementException()' -/
theorem ae_throwAt {Qc : Array Value → State → Outcome → State → Prop} (X : ae_Cx p s m args meth c D kA A M) (hown : ae_on M.1 = RX11) (htr : l.stackTraces = false) (hT : ae_TT A s s.heap) (hout : ∀ x ∈ c.exceptionTable.toList, False) {stop : Nat} {h : ae_H} (d0 : decode M.2.2.1 stop = .ok (.new 122, 3)) (d3 : decode M.2.2.1 (stop + 3) = .ok (.dup, 1)) (d4 : decode M.2.2.1 (stop + 4) = .ok (.invokespecial 124, 3)) (d7 : decode M.2.2.1 (stop + 7) = .ok (.athrow, 1)) (hf : 5 < M.2.2.2.2.2.2.2.1) (hlo : 81 ≤ M.2.2.2.2.2.2.2.2.1) (hmc : M.2.2.2.2.2.2.2.2.2.1 = 1) (hms : M.2.2.2.2.2.2.2.2.2.2 = 6) (lv : ae_L) :
    ae_At p l e (ae_room M) s m args below meth c (vx_MQ below Qc (ae_XC D kA A pre h) args s 1 6 A) D kA A pre M.2.2.2.1 stop 0 0 lv [] h := by
  obtain ⟨hx, hb, hml, hown2, hts, hKK, hA, hin, hrt, hlocks⟩ := X
  intro ws H locs ls lvC stC hl hlr hsr hhr hpx hP hD hS
  rw [show stC = [] from hsr]
  rw [hown] at hown2
  have gt : ∀ {w : Jvm.Cond}, w ∈ lw_tbl → goodWord w = true → w.before args s = true := fun q g => hts _ (ae_gw_in q g)
  have hat : ∀ w ∈ vx_at0 RX11 124 ae_nse ae_nms, w.before args s = true := vx_hat (fun w hw => gt (ae_vg_t w hw) (List.mem_filter.mp hw).2) (fun w hw => hw) (fun w hw => va_Nw.use (by
    have h2 : ae_isc w = true := List.all_eq_true.mp ae_vn_c w hw
    cases w <;> first | rfl | cases h2) (hT.2.2 w hw))
  exact vx_throw0 (own := RX11) (cls := ae_nse) (names := ae_nms) (ik := 122) (ic := 124) (A := A) hx hb htr hown2 (by decide +kernel) (by decide +kernel) (gt ae_wcl rfl) (gt ae_wini rfl) hat (fun w hw => List.all_eq_true.mp ae_vg_o w hw) hT.1 hT.2.1 hS (hl.1.trans hml.symm) d0 d3 d4 d7 (fun x hx => (hout x hx).elim) hf (by show 0 + 81 ≤ M.2.2.2.2.2.2.2.2.1; omega) (by show 0 + 1 ≤ M.2.2.2.2.2.2.2.2.2.1; omega) (by show 0 + 6 ≤ M.2.2.2.2.2.2.2.2.2.2; omega) hlocks (fun t hvm hsz hk => ⟨ws, ⟨hhr, hpx⟩, ⟨rfl, hP.kept (fun k q hq => hk q.1 (hP k q hq).lt), hD⟩, ⟨Nat.le_trans hS.1 hsz, fun q h1 h2 => (hk q (Nat.lt_of_lt_of_le h1 hS.1)).trans (hS.2.1 q h1 h2)⟩⟩) hS.2.2 (by omega) (by omega)
end
/-- a thrower's contract -/
theorem ae_thr {l : Launch} (htr : l.stackTraces = false) {D : va_G} {kA : Nat → ClassId} {M : ae_M} (hown : M.1 = 11) (hcls : M.2.1.cls = RX11) (hpl : plainName M.2.1.cls = true) (hkd : M.2.2.2.2.2.1 = 1) (hret : M.2.2.2.2.1 ≠ none) {stop n : Nat} {as : List ae_V} {h : ae_H} (hrun : ae_pfx stop M n 0 0 0 (ae_args as 0) [] h = some (none, h)) (d0 : decode M.2.2.1 stop = .ok (.new 122, 3)) (d3 : decode M.2.2.1 (stop + 3) = .ok (.dup, 1)) (d4 : decode M.2.2.1 (stop + 4) = .ok (.invokespecial 124, 3)) (d7 : decode M.2.2.1 (stop + 7) = .ok (.athrow, 1)) (hf : 5 < M.2.2.2.2.2.2.2.1) (hlo : 81 ≤ M.2.2.2.2.2.2.2.2.1) (hmc : M.2.2.2.2.2.2.2.2.2.1 = 1) (hms : M.2.2.2.2.2.2.2.2.2.2 = 6)
    {ws : va_W} {asC : List Value} {sz : Nat} (hsr : ae_sr (ae_ad ws) as asC) (hhr : ae_hr kA ws h) (hcat : ae_catS as ≤ M.2.2.2.1) :
    vx_Met l M.2.1 (ae_ws M) (ae_room M) (va_Pc asC (ae_BX D kA ws sz)) (va_Qi (fun (_ : Int32) (_ : Unit) => False) (fun _ _ => True) (va_A ws sz)) (ae_XC D kA (va_A ws sz) (ae_ad ws) h) 1 6 (va_A ws sz) := by
  refine vx_ofW (cc := M.2.2.1) (maxL := M.2.2.2.1) (ret := M.2.2.2.2.1) (ws' := ae_gw) hpl rfl ?_
  intro p e s m args below meth c s₁ B hml hout hv
  obtain ⟨rfl, ⟨hsz, hP, hD0, hKK⟩, hT⟩ := hv
  have hts := atoms_spec (ws := ae_ws M) B.pre
  have hown9 : s.vm.findClass M.2.1.cls = some m.cls := findClass_of_methodNamed B.named
  have eon : ae_on M.1 = RX11 := by rw [hown]; rfl
  rw [hcls] at hown9
  subst hsz
  have hD := hD0.self (sz := s.heap.size)
  have X : ae_Cx p s m asC.toArray meth c D kA (va_A ws s.heap.size) M := ⟨B.exec, B.bytes, hml, by rw [eon]; exact hown9, fun w hw => hts w (List.mem_cons_of_mem _ hw), hKK, fun q hq => Or.inr hq, fun hk => absurd (hkd.symm.trans hk) (by decide), B.returns, B.notSynchronized⟩
  have hl := lv_entry asC (n := M.2.2.2.1) (by rw [ae_sl_len hsr]; exact hcat)
  rw [lg_entry_eq]
  exact ae_pfx_ok (r := (none, h)) X rfl hret (fun lv => ae_throwAt X eon htr hT hout d0 d3 d4 d7 hf hlo hmc hms lv) n 0 0 0 (ae_args as 0) [] h hrun ws s.heap [] _ _ _ hl (ae_lr_args hsr 0) rfl hhr ae_px.rf hP hD va_S.rf
