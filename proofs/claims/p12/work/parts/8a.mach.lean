/-! A THROWER ON THE MACHINE -/
def ae_nse : String := "java/util/NoSuchElementException"
def ae_nms : List String := ["java/lang/RuntimeException", "java/lang/Exception"]
/-- the words of a throw that a callee doesn't have by itself -/
def ae_vn : List Jvm.Cond := (vx_at0 RX11 124 ae_nse ae_nms).filter (fun w => !goodWord w)
def ae_isc : Jvm.Cond → Bool
  | .castable _ _ => true
  | .declares _ => true
  | _ => false
theorem ae_vn_c : ae_vn.all ae_isc = true := by decide +kernel
/-- the runs of the tables where a throw's words stand -/
def ae_sS : List Jvm.Cond := (tables_1_6.drop 157).take 71 ++ ((tables_1_1.drop 14).take 4 ++ ((tables_1_10.drop 7).take 1 ++ ((tables_1_10.drop 21).take 2 ++ (lw_tbl))))
theorem ae_sS_t : ∀ w ∈ ae_sS, w ∈ lw_tbl := by
  intro w h
  unfold ae_sS at h
  rcases List.mem_append.mp h with h | h
  · exact ae_tu6 (List.mem_of_mem_drop (List.mem_of_mem_take h))
  rcases List.mem_append.mp h with h | h
  · exact ae_tu1 (List.mem_of_mem_drop (List.mem_of_mem_take h))
  rcases List.mem_append.mp h with h | h
  · exact ae_tu10 (List.mem_of_mem_drop (List.mem_of_mem_take h))
  rcases List.mem_append.mp h with h | h
  · exact ae_tu10 (List.mem_of_mem_drop (List.mem_of_mem_take h))
  exact h
theorem ae_vn_t : ∀ w ∈ ae_vn, w ∈ lw_tbl := by
  have h : ∀ w ∈ ae_vn, w ∈ ae_sS := by decide +kernel
  exact fun w hw => ae_sS_t w (h w hw)
theorem ae_vn_s : Jvm.Cond.castable ae_nse ae_nse ∈ ae_vn := by decide +kernel
theorem ae_vg_t : ∀ w ∈ (vx_at0 RX11 124 ae_nse ae_nms).filter goodWord, w ∈ lw_tbl := by
  have h : ∀ w ∈ (vx_at0 RX11 124 ae_nse ae_nms).filter goodWord, w ∈ ae_sS := by decide +kernel
  exact fun w hw => ae_sS_t w (h w hw)
theorem ae_vg_o : (Jvm.Cond.classLink RX11 122 ae_nse :: Jvm.Cond.initialized ae_nse :: vx_at0 RX11 124 ae_nse ae_nms).all vx_ot = true := by decide +kernel
theorem ae_wcl : Jvm.Cond.classLink RX11 122 ae_nse ∈ lw_tbl := by decide +kernel
theorem ae_wini : Jvm.Cond.initialized ae_nse ∈ lw_tbl := by decide +kernel
/-- what a thrower needs of the state -/
def ae_TT (A : Nat → Prop) (U : State) (H : Heap) : Prop := vx_Zq Bundle.tN "UNASSIGNED_STACK" Bundle.steD A U H ∧ vx_Zq Bundle.tN "SUPPRESSED_SENTINEL" Bundle.listD A U H ∧ ∀ w ∈ ae_vn, va_Nw w U
theorem ae_TT.moved {A : Nat → Prop} {s U : State} {H : Heap} (hW : s.WarmedH U.vm) (h : ae_TT A s H) : ae_TT A U H := by
  refine ⟨vx_Zq.moved hW.alike h.1, vx_Zq.moved hW.alike h.2.1, fun w hw => ?_⟩
  have h1 := h.2.2 w hw
  have h2 : ae_isc w = true := List.all_eq_true.mp ae_vn_c w hw
  cases w <;> first | exact va_Nw.warmC hW h1 | exact va_Nw.warmD hW h1 | cases h2
theorem ae_TT.call {A : Nat → Prop} {U : State} {H : Heap} {g : JFrame} {mk : MethodId} {a : Array Value} (h : ae_TT A U H) : ae_TT A (U.calling g mk a) H := by
  refine ⟨vx_Zq.moved (u := U) (U := U.calling g mk a) (Vm.Alike.refl U.vm) h.1, vx_Zq.moved (u := U) (U := U.calling g mk a) (Vm.Alike.refl U.vm) h.2.1, fun w hw => ?_⟩
  have h1 := h.2.2 w hw
  have h2 : ae_isc w = true := List.all_eq_true.mp ae_vn_c w hw
  cases w <;> first | exact va_Nw.same rfl (u := U) (U := U.calling g mk a) rfl h1 | cases h2
theorem ae_TT.kept {A B : Nat → Prop} {U : State} {H H1 : Heap} (h : ae_TT A U H) (hq : ∀ a : Nat, a < H.size → ¬ A a → H1[a]? = H[a]?) (hAB : ∀ q, B q → A q) : ae_TT B U H1 := ⟨(h.1.kept hq).narrow hAB, (h.2.1.kept hq).narrow hAB, h.2.2⟩
def ae_BX (D : va_G) (kA : Nat → ClassId) (ws : va_W) (sz : Nat) (U : State) : Prop := ae_B D kA ws sz U ∧ ae_TT (va_A ws sz) U U.heap
theorem ae_blindX {D : va_G} {kA : Nat → ClassId} {ws : va_W} {sz : Nat} {asC : List Value} : FrameBlind (va_Pc asC (ae_BX D kA ws sz)) := fun a U g mk q => ⟨q.1, ⟨q.2.1.1, q.2.1.2.1, q.2.1.2.2.1, q.2.1.2.2.2.1.call, q.2.1.2.2.2.2.call⟩, q.2.2.call⟩
section
variable {tq : Int} {p : Program} {l : Launch} {e : Env} {s : State} {m : MethodId} {args : Array Value} {below : List Frame} {meth : Method} {c : Code} {Q : State → Prop} {D : va_G} {kA : Nat → ClassId} {A : Nat → Prop} {pre : Nat → Option Nat} {M : ae_M}
/-- the machine is closed under the runner's steps -/
theorem wt_at (X : ae_Cx p s m args meth c D kA A M) (hret : M.2.2.2.2.1 ≠ none) : wt_cl M (fun pc lv st h => ae_At p l e (ae_room M) s m args below meth c Q D kA A pre M.2.2.2.1 pc 0 0 lv st h) := by
  classical
  refine ⟨fun pc pc' i len lv lv' st st' h h' hd hl hs g => ?_, fun pc pc' i len mj lv st as rest h hd hl hs g => ?_⟩
  · have hd2 : decode M.2.2.1 pc = .ok (i, ae_ln i len) := by rw [hd, ← Nat.eq_of_beq_eq_true hl]
    refine ae_step_ok (r := (none, h')) (K := fun a b c d e f => if a = pc' ∧ b = 0 ∧ c = 0 ∧ d = lv' ∧ e = st' ∧ f = h' then some (none, h') else none) (C := fun _ _ _ => none) (ae_str_ok l D kA) X rfl (Or.inl ⟨rfl, hret⟩) hd2 (fun a b c d e f hk => ?_) (fun _ _ _ _ hk => by cases hk) (by rw [hs]; exact if_pos ⟨rfl, rfl, rfl, rfl, rfl, rfl⟩)
    by_cases q : a = pc' ∧ b = 0 ∧ c = 0 ∧ d = lv' ∧ e = st' ∧ f = h'
    · obtain ⟨q1, q2, q3, q4, q5, q6⟩ := q
      subst q1 q2 q3 q4 q5 q6
      exact g
    · have hk : (if a = pc' ∧ b = 0 ∧ c = 0 ∧ d = lv' ∧ e = st' ∧ f = h' then some ((none, h') : ae_R) else none) = some (none, h') := hk
      rw [if_neg q] at hk; cases hk
  · have hd2 : decode M.2.2.1 pc = .ok (i, ae_ln i len) := by rw [hd, ← Nat.eq_of_beq_eq_true hl]
    obtain ⟨r, hr, N, hN⟩ := g
    have hmt : ae_Mt l D kA mj as h r := ae_run (hN N (Nat.le_refl N))
    refine ae_step_ok (r := (none, r.2)) (K := fun a b c d e f => if a = pc' ∧ b = 0 ∧ c = 0 ∧ d = lv ∧ e = sv_push r.1 rest ∧ f = r.2 then some (none, r.2) else none) (C := fun a b c => if a = mj ∧ b = as ∧ c = h then some r else none) (ae_str_ok l D kA) X rfl (Or.inl ⟨rfl, hret⟩) hd2 (fun a b c d e f hk => ?_) (fun a b c r2 hk => ?_) (by rw [hs _ _ r (if_pos ⟨rfl, rfl, rfl⟩)]; exact if_pos ⟨rfl, rfl, rfl, rfl, rfl, rfl⟩)
    · by_cases q : a = pc' ∧ b = 0 ∧ c = 0 ∧ d = lv ∧ e = sv_push r.1 rest ∧ f = r.2
      · obtain ⟨q1, q2, q3, q4, q5, q6⟩ := q
        rw [q1, q2, q3, q4, q5, q6]
        exact hr
      · have hk : (if a = pc' ∧ b = 0 ∧ c = 0 ∧ d = lv ∧ e = sv_push r.1 rest ∧ f = r.2 then some ((none, r.2) : ae_R) else none) = some (none, r.2) := hk
        rw [if_neg q] at hk; cases hk
    · by_cases q : a = mj ∧ b = as ∧ c = h
      · obtain ⟨q1, q2, q3⟩ := q
        have hk : (if a = mj ∧ b = as ∧ c = h then some r else none) = some r2 := hk
        rw [if_pos ⟨q1, q2, q3⟩] at hk
        cases hk
        rw [q1, q2, q3]
        exact hmt
      · have hk : (if a = mj ∧ b = as ∧ c = h then some r else none) = some r2 := hk
        rw [if_neg q] at hk; cases hk
end
/-- what a thrower leaves -/
def lt_px (tq n m : Int) (kA : Nat → ClassId) (pre : Nat → Option Nat) (u : va_W × ae_H) : Prop := lw_I tq u.2 n m ∧ ae_hr kA u.1 u.2 ∧ ae_px pre (ae_ad kA u.1)
def lt_Q (D : va_G) (kA : Nat → ClassId) (A : Nat → Prop) (pre : Nat → Option Nat) (tq n m : Int) : Array Value → State → Outcome → State → Prop := va_Qi (S := va_W × ae_H) (fun _ u => lt_px tq n m kA pre u) (fun u t => va_P D ae_cl u.1 t.heap ∧ va_D A u.1) A
def lt_X (D : va_G) (kA : Nat → ClassId) (A : Nat → Prop) (pre : Nat → Option Nat) (tq n m : Int) : String → State → State → Prop := vx_X (S := va_W × ae_H) (lt_px tq n m kA pre) (fun E u t => E = ae_nse ∧ va_P D ae_cl u.1 t.heap ∧ va_D A u.1) A
section
variable {tq : Int} {p : Program} {l : Launch} {e : Env} {s : State} {m : MethodId} {args : Array Value} {below : List Frame} {meth : Method} {c : Code} {D : va_G} {kA : Nat → ClassId} {A : Nat → Prop} {pre : Nat → Option Nat} {M : ae_M} {n n2 : Int} {h : ae_H}
/-- 'throw new NoSuchElementException()' -/
theorem lt_throwAt {tq : Int} {Qc : Array Value → State → Outcome → State → Prop} (X : ae_Cx p s m args meth c D kA A M) (I : lw_I tq h n n2) (hown : ae_on M.1 = RX11) (htr : l.stackTraces = false) (hT : ae_TT A s s.heap) (hout : ∀ x ∈ c.exceptionTable.toList, False) {stop : Nat} (d0 : decode M.2.2.1 stop = .ok (.new 122, 3)) (d3 : decode M.2.2.1 (stop + 3) = .ok (.dup, 1)) (d4 : decode M.2.2.1 (stop + 4) = .ok (.invokespecial 124, 3)) (d7 : decode M.2.2.1 (stop + 7) = .ok (.athrow, 1)) (hf : 5 < M.2.2.2.2.2.2.2.1) (hlo : 81 ≤ M.2.2.2.2.2.2.2.2.1) (hmc : M.2.2.2.2.2.2.2.2.2.1 = 1) (hms : M.2.2.2.2.2.2.2.2.2.2 = 6) (lv : ae_L) :
    ae_At p l e (ae_room M) s m args below meth c (vx_MQ below Qc (lt_X D kA A pre tq n n2) args s 1 6 A) D kA A pre M.2.2.2.1 stop 0 0 lv [] h := by
  obtain ⟨hx, hb, hml, hown2, hts, hKK, hA, hin, hrt, hlocks, hEX⟩ := X
  intro ws H locs ls lvC stC hl hlr hsr hhr hpx hP hD hS
  rw [show stC = [] from hsr]
  rw [hown] at hown2
  have gt : ∀ {w : Jvm.Cond}, w ∈ lw_tbl → goodWord w = true → w.before args s = true := fun q g => hts _ (ae_gw_in q g)
  have hat : ∀ w ∈ vx_at0 RX11 124 ae_nse ae_nms, w.before args s = true := vx_hat (fun w hw => gt (ae_vg_t w hw) (List.mem_filter.mp hw).2) (fun w hw => hw) (fun w hw => va_Nw.use (by
    have h2 : ae_isc w = true := List.all_eq_true.mp ae_vn_c w hw
    cases w <;> first | rfl | cases h2) (hT.2.2 w hw))
  exact vx_throw0 (own := RX11) (cls := ae_nse) (names := ae_nms) (ik := 122) (ic := 124) (A := A) hx hb htr hown2 (by decide +kernel) (by decide +kernel) (gt ae_wcl rfl) (gt ae_wini rfl) hat (fun w hw => List.all_eq_true.mp ae_vg_o w hw) hT.1 hT.2.1 hS (hl.1.trans hml.symm) d0 d3 d4 d7 (fun x hx => (hout x hx).elim) hf (by show 0 + 81 ≤ M.2.2.2.2.2.2.2.2.1; omega) (by show 0 + 1 ≤ M.2.2.2.2.2.2.2.2.2.1; omega) (by show 0 + 6 ≤ M.2.2.2.2.2.2.2.2.2.2; omega) hlocks (fun t hvm hsz hk => ⟨(ws, h), ⟨I, hhr, hpx⟩, ⟨rfl, hP.kept (fun k q hq => hk q.1 (hP k q hq).lt), hD⟩, ⟨Nat.le_trans hS.1 hsz, fun q h1 h2 => (hk q (Nat.lt_of_lt_of_le h1 hS.1)).trans (hS.2.1 q h1 h2)⟩⟩) hS.2.2 (by omega) (by omega)
theorem lt_retAt {tq : Int} {XC : String → State → State → Prop} (X : ae_Cx p s m args meth c D kA A M) (I : lw_I tq h n n2) (hret : M.2.2.2.2.1 = some .int) {pc : Nat} {x : Int} (hd : decode M.2.2.1 pc = .ok (.ireturn, 1)) (lv : ae_L) :
    ae_At p l e (ae_room M) s m args below meth c (vx_MQ below (lt_Q D kA A pre tq n n2) XC args s 1 6 A) D kA A pre M.2.2.2.1 pc 0 0 lv [wk_i x] h := by
  obtain ⟨hx, hb, hml, hown2, hts, hKK, hA, hin, hrt, hlocks, hEX⟩ := X
  intro ws H locs ls lvC stC hl hlr hsr hhr hpx hP hD hS
  obtain ⟨y, ys, rfl, ⟨z, rfl, hz⟩, hys⟩ := hsr
  rw [show ys = [] from hys]
  refine W.widen (k := 1) (n := 6) (by omega) (by omega) (vx_ret ?_)
  exact W.iret hx hb (hrt.trans hret) (fun t ht hW => ⟨⟨z, (ws, h), rfl, ⟨I, hhr, hpx⟩, by rw [ht]; exact hP, hD⟩, hS.F ht⟩) hS.2.2 hd hlocks
end
/-- a thrower's contract -/
theorem lt_thr {tq : Int} {l : Launch} (htr : l.stackTraces = false) {D : va_G} {kA : Nat → ClassId} {M : ae_M} (hown : M.1 = 11) (hcls : M.2.1.cls = RX11) (hpl : plainName M.2.1.cls = true) (hkd : M.2.2.2.2.2.1 = 1) (hret : M.2.2.2.2.1 = some .int) {stop : Nat} {as : List ae_V} {h : ae_H} {n m2 : Int} (walk : ∀ (G : Nat → ae_L → List ae_V → ae_H → Prop), wt_cl M G → (∀ lv h2, lw_I tq h2 n m2 → G stop lv [] h2) → (∀ pc lv h2 x, decode M.2.2.1 pc = .ok (.ireturn, 1) → lw_I tq h2 n m2 → G pc lv [wk_i x] h2) → G 0 (ae_args as 0) [] h) (d0 : decode M.2.2.1 stop = .ok (.new 122, 3)) (d3 : decode M.2.2.1 (stop + 3) = .ok (.dup, 1)) (d4 : decode M.2.2.1 (stop + 4) = .ok (.invokespecial 124, 3)) (d7 : decode M.2.2.1 (stop + 7) = .ok (.athrow, 1)) (hf : 5 < M.2.2.2.2.2.2.2.1) (hlo : 81 ≤ M.2.2.2.2.2.2.2.2.1) (hmc : M.2.2.2.2.2.2.2.2.2.1 = 1) (hms : M.2.2.2.2.2.2.2.2.2.2 = 6)
    {ws : va_W} {asC : List Value} {sz : Nat} (hsr : ae_sr (ae_ad kA ws) as asC) (hhr : ae_hr kA ws h) (hcat : ae_catS as ≤ M.2.2.2.1) :
    vx_Met l M.2.1 (ae_ws M) (ae_room M) (va_Pc asC (ae_BX D kA ws sz)) (lt_Q D kA (va_A ws sz) (ae_ad kA ws) tq n m2) (lt_X D kA (va_A ws sz) (ae_ad kA ws) tq n m2) 1 6 (va_A ws sz) := by
  refine vx_ofW (cc := M.2.2.1) (maxL := M.2.2.2.1) (ret := M.2.2.2.2.1) (ws' := ae_gw) hpl rfl ?_
  intro p e s m args below meth c s₁ B hml hout hv
  obtain ⟨rfl, ⟨hsz, hP, hD0, hKK, hEX⟩, hT⟩ := hv
  have hts := atoms_spec (ws := ae_ws M) B.pre
  have hown9 : s.vm.findClass M.2.1.cls = some m.cls := findClass_of_methodNamed B.named
  have eon : ae_on M.1 = RX11 := by rw [hown]; rfl
  rw [hcls] at hown9
  subst hsz
  have hD := hD0.self (sz := s.heap.size)
  have X : ae_Cx p s m asC.toArray meth c D kA (va_A ws s.heap.size) M := ⟨B.exec, B.bytes, hml, by rw [eon]; exact hown9, fun w hw => hts w (List.mem_cons_of_mem _ hw), hKK, fun q hq => Or.inr hq, fun hk => absurd (hkd.symm.trans hk) (by decide), B.returns, B.notSynchronized, hEX⟩
  have hl := lv_entry asC (n := M.2.2.2.1) (by rw [ae_sl_len hsr]; exact hcat)
  rw [lg_entry_eq]
  exact walk _ (wt_at X (by rw [hret]; exact fun z => by cases z)) (fun lv h2 I2 => lt_throwAt X I2 eon htr hT hout d0 d3 d4 d7 hf hlo hmc hms lv) (fun pc lv h2 x hd I2 => lt_retAt X I2 hret hd lv) ws s.heap [] _ _ _ hl (ae_lr_args hsr 0) rfl hhr ae_px.rf hP hD va_S.rf
