/-- what the runner's every run of a given fuel is worth -/
def ae_IH (l : Launch) (D : va_G) (kA : Nat → ClassId) (n : Nat) : Prop := ∀ (mi : Nat) (M : ae_M) (pc ce sl : Nat) (lv : ae_L) (st : List ae_V) (h : ae_H) (r : ae_R), ae_m mi = some M → ae_exe n mi pc ce sl lv st h = some r →
  ∀ (p : Program) (e : Env) (s : State) (m : MethodId) (args : Array Value) (below : List Frame) (meth : Method) (c : Code) (A : Nat → Prop) (pre : Nat → Option Nat), ae_Cx p s m args meth c D kA A M →
    ae_At p l e (ae_room M) s m args below meth c (MQ below (ae_Qc D kA A pre r) args s M.2.2.2.2.2.2.2.2.2.1 M.2.2.2.2.2.2.2.2.2.2 A) D kA A pre M.2.2.2.1 pc ce sl lv st h
theorem ae_met_of {l : Launch} {D : va_G} {kA : Nat → ClassId} {n : Nat} (IH : ae_IH l D kA n) {mj : Nat} {as : List ae_V} {h : ae_H} {r : ae_R} (hrun : ae_exe n mj 0 0 0 (ae_args as 0) [] h = some r) : ae_Mt l D kA mj as h r := by
  intro N hN ws asC sz hsr hhr hcat
  obtain ⟨n1, n2, n3, n4, n5, n6, n7, n8⟩ := ae_mf hN
  refine va_MetF (cc := N.2.2.1) (maxL := N.2.2.2.1) (ret := N.2.2.2.2.1) (ws' := ae_gw) n5 rfl ?_
  intro p e s m args below meth c s₁ B hml hv
  obtain ⟨rfl, hsz, hP, hD0, hKK, hEX⟩ := hv
  have hts := atoms_spec (ws := ae_ws N) B.pre
  have hown : s.vm.findClass N.2.1.cls = some m.cls := findClass_of_methodNamed B.named
  have hnm : meth.name = N.2.1.name := (name_of_methodNamed B.named B.method).1
  rw [n6] at hown
  subst hsz
  have hD := hD0.self (sz := s.heap.size)
  have X : ae_Cx p s m asC.toArray meth c D kA (va_A ws s.heap.size) N := ⟨B.exec, B.bytes, hml, hown, fun w hw => hts w (List.mem_cons_of_mem _ hw), hKK, fun q hq => Or.inr hq, fun hk => hnm.trans (n4 hk).2.1, B.returns, B.notSynchronized, hEX⟩
  have hl := lv_entry asC (n := N.2.2.2.1) (by rw [ae_sl_len hsr]; exact hcat)
  rw [lg_entry_eq]
  exact IH mj N 0 0 0 (ae_args as 0) [] h r hN hrun p e s m asC.toArray below meth c (va_A ws s.heap.size) (ae_ad kA ws) X ws s.heap [] _ _ _ hl (ae_lr_args hsr 0) rfl hhr ae_px.rf hP hD va_S.rf
theorem ae_all (l : Launch) (D : va_G) (kA : Nat → ClassId) (hStr : ae_Str l D kA) : ∀ n, ae_IH l D kA n := by
  intro n
  induction n with
  | zero => intro mi M pc ce sl lv st h r hM hs; cases hs
  | succ n ih =>
    intro mi M pc ce sl lv st h r hM hs p e s m args below meth c A pre X
    have hs : (match ae_m mi with
      | none => none
      | some M => match decode M.2.2.1 pc with
        | .error _ => none
        | .ok (i, len) => cond (Nat.beq len (ae_ln i len)) (ae_step i M pc ce sl lv st h (fun pc ce sl lv st h => ae_f pc fun pc => ae_exe n mi pc ce sl lv st h) (fun mj as h => ae_exe n mj 0 0 0 (ae_args as 0) [] h)) none) = some r := hs
    rw [hM] at hs
    have hs : (match decode M.2.2.1 pc with
        | .error _ => none
        | .ok (i, len) => cond (Nat.beq len (ae_ln i len)) (ae_step i M pc ce sl lv st h (fun pc ce sl lv st h => ae_f pc fun pc => ae_exe n mi pc ce sl lv st h) (fun mj as h => ae_exe n mj 0 0 0 (ae_args as 0) [] h)) none) = some r := hs
    cases hdec : decode M.2.2.1 pc with
    | error x => rw [hdec] at hs; cases hs
    | ok q =>
      obtain ⟨i, len⟩ := q
      rw [hdec] at hs
      have hs : cond (Nat.beq len (ae_ln i len)) (ae_step i M pc ce sl lv st h (fun pc ce sl lv st h => ae_f pc fun pc => ae_exe n mi pc ce sl lv st h) (fun mj as h => ae_exe n mj 0 0 0 (ae_args as 0) [] h)) none = some r := hs
      obtain ⟨q1, q2⟩ := ae_cond hs
      have hd : decode M.2.2.1 pc = .ok (i, ae_ln i len) := by rw [hdec, ← ae_beq q1]
      exact ae_step_ok hStr X rfl (Or.inr rfl) hd (fun pc ce sl lv st h hk => by rw [ae_f_eq] at hk; exact ih mi M pc ce sl lv st h r hM hk p e s m args below meth c A pre X) (fun mj as h r2 hk => ae_met_of ih hk) q2
/-- a run of the runner is a contract of the machine -/
theorem ae_met {l : Launch} {D : va_G} {kA : Nat → ClassId} (hStr : ae_Str l D kA) {n mj : Nat} {as : List ae_V} {h : ae_H} {r : ae_R} (hrun : ae_exe n mj 0 0 0 (ae_args as 0) [] h = some r) : ae_Mt l D kA mj as h r := ae_met_of (ae_all l D kA hStr n) hrun
