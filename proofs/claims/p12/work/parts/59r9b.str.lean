/-! STRING: methods of the JDK that leave the heap alone -/
def ae_JP (kA : Nat → ClassId) (E : State → Prop) (asC : List Value) : Array Value → State → Prop := fun v U => v = asC.toArray ∧ ae_EX kA (fun _ => False) U U.heap ∧ E U
def ae_JQ (rv : Option Value) : Array Value → State → Outcome → State → Prop := fun _ st oc t => oc = .returned rv ∧ t.heap = st.heap
def ae_rj (f lo : Nat) : Room := { frames := f, cells := 0, slots := 0, locals := lo }
def ae_JM (l : Launch) (kA : Nat → ClassId) (E : State → Prop) (y : MethodName) (cc : ByteArray) (maxL : Nat) (ret : Option FieldType) (f lo : Nat) (asC : List Value) (rv : Option Value) : Prop := Met l y (Jvm.Cond.code y cc maxL ret :: ae_gw) (ae_rj f lo) (ae_JP kA E asC) (ae_JQ rv) 0 0 (fun _ => False)
theorem ae_jblind {kA : Nat → ClassId} {E : State → Prop} {asC : List Value} (hE : ∀ (U : State) (g : JFrame) (mk : MethodId) (a : Array Value), E U → E (U.calling g mk a)) : FrameBlind (ae_JP kA E asC) := fun a U g mk q => ⟨q.1, q.2.1.call, hE U g mk a q.2.2⟩
theorem ae_wp {w : Jvm.Cond} (p0 : Nat) (h : lw_tbl[p0]? = some w) (g : goodWord w = true) : w ∈ ae_gw := ae_gw_in (List.mem_of_getElem? h) g
theorem ae_jgood {w0 : Jvm.Cond} (h : w0 ∈ ae_gw) : GoodIn ae_gw (w0 :: ae_gw) := by
  intro w hw
  have hg : w ∈ ae_gw := by
    rcases List.mem_cons.mp hw with e | e
    · rw [e]; exact h
    · exact e
  exact ⟨hg, good_of_word (ae_gw_good hg)⟩
section
variable {p : Program} {l : Launch} {e : Env} {R : Room} {s : State} {m : MethodId} {args : Array Value} {below : List Frame} {meth : Method} {c : Code} {H : Heap} {locs : List Loc} {ce sl : Nat} {Q : State → Prop} {kA : Nat → ClassId} {pc : Nat} {ls : Array Slot} {cc0 : ByteArray} {E : State → Prop}
theorem ae_jV {y : MethodName} {cc : ByteArray} {maxL f lo idx : Nat} {ret : Option FieldType} {As rest : List Value} {b : Nat} {rv : Value} {own C : String} (hM : ae_JM l kA E y cc maxL ret f lo (.ref b :: As) (some rv)) (hEb : ∀ (U : State) (g : JFrame) (mk : MethodId) (a : Array Value), E U → E (U.calling g mk a)) (hEw : ∀ U : State, U.heap = H → s.WarmedH U.vm → E U) (hx : p.tables.exec = Jvm.exec) (hb : c.code = cc0) (hml : c.maxLocals = ls.size) (hown : s.vm.findClass own = some m.cls) (hts : ∀ w ∈ ae_gw, w.before args s = true) (hw : Jvm.Cond.methodLink own idx y ∈ ae_gw) (hin : Jvm.Cond.instanceMethod y ∈ ae_gw) (hse : Jvm.Cond.selects C y y ∈ ae_gw) (hcw : Jvm.Cond.code y cc maxL ret ∈ ae_gw) (hini : Jvm.Cond.initialized y.cls ∈ ae_gw) (hy : y.cls ≠ "java/lang/invoke/MethodHandle" ∧ y.cls ≠ "java/lang/invoke/VarHandle") (hn : (parseMethodDescriptor y.desc).map (fun d => d.parameters.length) = some As.length)
    (hcell : ∃ cell : Cell, H[b]? = some cell ∧ cell.vm.isStatics = false ∧ s.vm.findClass C = some cell.cls) (hEX : ae_EX kA (fun _ => False) s H) (hf : f + 1 ≤ R.frames) (hlo : (rest.map fun v => v.category).sum + (maxL + 11) + lo ≤ R.locals) (hce : ce ≤ R.cells) (hsl : sl ≤ R.slots) (hd : decode cc0 pc = .ok (.invokevirtual idx, 3))
    (kk : W p l e R s m args below meth c H locs ce sl Q (F0 m (pc + 3) ls (rv :: rest))) : W p l e R s m args below meth c H locs ce sl Q (F0 m pc ls (As.reverse ++ .ref b :: rest)) := by
  have hpay := pay_in hts (ae_jgood hcw)
  have hK : Back l R p e below s args y 3 ((rest.map fun v => v.category).sum) (PreOf R 0 0 (ae_JP kA E (.ref b :: As))) (PostOf (ae_JQ (some rv)) 0 0 (fun _ => False)) := back_of (bytes := cc) (maxL := maxL) (ret := ret) hM (ae_jblind hEb) rfl rfl hf hlo hpay List.mem_cons_self (hpay _ (List.mem_cons_of_mem _ hini))
  obtain ⟨cellB, hcB, hoB, hclB⟩ := hcell
  intro T hT X
  have hE : ∀ vm₁, s.WarmedH vm₁ → ae_EX kA (fun _ => False) (T.setVm vm₁) (T.setVm vm₁).heap := fun vm₁ hW => by
    show ae_EX kA (fun _ => False) (T.setVm vm₁) T.heap
    rw [hT]; exact hEX.warm (U := T.setVm vm₁) hW (fun _ _ _ => rfl) (fun _ q => q)
  obtain ⟨v, vm₁, ⟨U', l2, c2, s2⟩, hW₁, X', ⟨g', mk, t, L, e1, e2, hq, h1, hL, h2, h3⟩, st⟩ := callV X hx (C := C) (bytes := cc) (maxL := maxL) (ret := ret) hown (hts _ hw) (hts _ hin) (hts _ hse) (hts _ hcw) hy hK (by rw [hT]; exact hcB) hoB hclB (g := F0 m pc ls (As.reverse ++ .ref b :: rest)) rfl (by show ls.size = _; exact hml.symm) (argsL := As) (rest := rest) (fun sig h => by rw [h] at hn; exact (Option.some.inj hn).symm) rfl (by show 2 * 0 + _ ≤ _; omega) (by rw [hb]; exact hd) (fun vm₁ hW₁ => ⟨hce, hsl, rfl, hE vm₁ hW₁, hEw (T.setVm vm₁) hT hW₁⟩)
  dsimp only [Pt.U, Pt.locs, Pt.cells, Pt.slots] at X' e1 e2 h1 h2 h3 st
  subst h1; subst h2; subst h3
  obtain ⟨hv, hh⟩ := hq
  cases hv
  have hLn : L = [] := by
    cases L with
    | nil => rfl
    | cons q L => exact (hL q List.mem_cons_self).elim
  subst hLn
  rw [List.append_nil] at X'
  obtain ⟨t2, a1, b1⟩ := kk U' (by rw [e1, hh]; exact hT) X'
  exact ⟨t2, st t2 a1, b1⟩
theorem ae_jS {y : MethodName} {cc : ByteArray} {maxL f lo idx : Nat} {ret : Option FieldType} {As rest : List Value} {rv : Option Value} {own : String} (hM : ae_JM l kA E y cc maxL ret f lo As rv) (hEb : ∀ (U : State) (g : JFrame) (mk : MethodId) (a : Array Value), E U → E (U.calling g mk a)) (hEw : ∀ U : State, U.heap = H → s.WarmedH U.vm → E U) (hx : p.tables.exec = Jvm.exec) (hb : c.code = cc0) (hml : c.maxLocals = ls.size) (hown : s.vm.findClass own = some m.cls) (hts : ∀ w ∈ ae_gw, w.before args s = true) (hw : Jvm.Cond.methodLink own idx y ∈ ae_gw) (hst : Jvm.Cond.static y ∈ ae_gw) (hcw : Jvm.Cond.code y cc maxL ret ∈ ae_gw) (hini : Jvm.Cond.initialized y.cls ∈ ae_gw) (hy : y.cls ≠ "java/lang/invoke/MethodHandle" ∧ y.cls ≠ "java/lang/invoke/VarHandle") (hn : (parseMethodDescriptor y.desc).map (fun d => d.parameters.length) = some As.length)
    (hEX : ae_EX kA (fun _ => False) s H) (hf : f + 1 ≤ R.frames) (hlo : (rest.map fun v => v.category).sum + (maxL + 11) + lo ≤ R.locals) (hce : ce ≤ R.cells) (hsl : sl ≤ R.slots) {st0 : List Value} (hst0 : st0 = As.reverse ++ rest) (hd : decode cc0 pc = .ok (.invokestatic idx, 3))
    (kk : W p l e R s m args below meth c H locs ce sl Q (F0 m (pc + 3) ls (rv.toList ++ rest))) : W p l e R s m args below meth c H locs ce sl Q (F0 m pc ls st0) := by
  subst hst0
  have hpay := pay_in hts (ae_jgood hcw)
  have hK : Back l R p e below s args y 3 ((rest.map fun v => v.category).sum) (PreOf R 0 0 (ae_JP kA E As)) (PostOf (ae_JQ rv) 0 0 (fun _ => False)) := back_of (bytes := cc) (maxL := maxL) (ret := ret) hM (ae_jblind hEb) rfl rfl hf hlo hpay List.mem_cons_self (hpay _ (List.mem_cons_of_mem _ hini))
  intro T hT X
  have hE : ∀ vm₁, s.WarmedH vm₁ → ae_EX kA (fun _ => False) (T.setVm vm₁) (T.setVm vm₁).heap := fun vm₁ hW => by
    show ae_EX kA (fun _ => False) (T.setVm vm₁) T.heap
    rw [hT]; exact hEX.warm (U := T.setVm vm₁) hW (fun _ _ _ => rfl) (fun _ q => q)
  obtain ⟨v, vm₁, ⟨U', l2, c2, s2⟩, hW₁, X', ⟨g', mk, t, L, e1, e2, hq, h1, hL, h2, h3⟩, st⟩ := callS X hx (bytes := cc) (maxL := maxL) (ret := ret) hown (hts _ hw) (hts _ hst) (hts _ hini) (hts _ hcw) hy hK (g := F0 m pc ls (As.reverse ++ rest)) rfl (by show ls.size = _; exact hml.symm) (argsL := As) (rest := rest) (fun sig h => by rw [h] at hn; exact (Option.some.inj hn).symm) rfl (by show 2 * 0 + _ ≤ _; omega) (by rw [hb]; exact hd) (fun vm₁ hW₁ => ⟨hce, hsl, rfl, hE vm₁ hW₁, hEw (T.setVm vm₁) hT hW₁⟩)
  dsimp only [Pt.U, Pt.locs, Pt.cells, Pt.slots] at X' e1 e2 h1 h2 h3 st
  subst h1; subst h2; subst h3
  obtain ⟨hv, hh⟩ := hq
  cases hv
  have hLn : L = [] := by
    cases L with
    | nil => rfl
    | cons q L => exact (hL q List.mem_cons_self).elim
  subst hLn
  rw [List.append_nil] at X'
  obtain ⟨t2, a1, b1⟩ := kk U' (by rw [e1, hh]; exact hT) X'
  exact ⟨t2, st t2 a1, b1⟩
end
def ae_E0 : State → Prop := fun _ => True
section
variable {l : Launch} {kA : Nat → ClassId}
theorem ae_j_coder {i : Nat} (hi : i < 6) : ae_JM l kA ae_E0 yJ0_coder_7d493 cJ0_coder_7d493 1 (some .byte) 0 0 [.ref (kA (259 + i))] (some (.int 0)) := by
  refine va_MetF (cc := cJ0_coder_7d493) (maxL := 1) (ret := some .byte) (ws' := ae_gw) (by decide +kernel) rfl ?_
  intro p e s m args below meth c s₁ B hml hv
  obtain ⟨rfl, ⟨-, -, ⟨adV, hS⟩, hC, -⟩, -⟩ := hv
  have hts := atoms_spec (ws := Jvm.Cond.code yJ0_coder_7d493 cJ0_coder_7d493 1 (some .byte) :: ae_gw) B.pre
  have hown : s.vm.findClass RJ0 = some m.cls := findClass_of_methodNamed B.named
  have hco : va_OF "java/lang/String" "coder" "B" (.int 0) (kA (259 + i)) (fun _ => False) s s.heap := (hS.1 i hi).2.1
  have hx := B.exec
  have hb := B.bytes
  have hl := lv_entry [Value.ref (kA (259 + i))] (n := 1) (Nat.le_refl 1)
  rw [lg_entry_eq]
  have S0 : va_S (fun _ => False) s.heap s.heap [] := va_S.rf
  refine va_gets (C := "java/lang/String") (index := 38) hx hb hC S0 hown (hts _ (List.mem_cons_of_mem _ (ae_wp 788 (by decide +kernel) rfl))) (fun _ h9 => h9) (by decide +kernel) ?_
  refine lv_if_eq (off := 10) (tgt := 13) hx hb (by decide +kernel) (by decide) (fun z => absurd z (by decide)) (fun _ => ?_)
  refine lv_aload_n (k := 0) hx hb (by decide +kernel) rfl (lv_at hl 0 rfl) ?_
  refine vk_getf (index := 15) hx hb hco S0 hown (hts _ (List.mem_cons_of_mem _ (ae_wp 2297 (by decide +kernel) rfl))) (fun _ h9 => h9) (by decide +kernel) ?_
  refine lv_goto (off := 4) (tgt := 14) hx hb (by decide +kernel) (by decide) ?_
  exact W.zret hx hb B.returns (by decide) (fun t ht hW => ⟨rfl, ht⟩) (fun q hq => by cases hq) (by decide +kernel)
theorem ae_j_isL {i : Nat} (hi : i < 6) : ae_JM l kA ae_E0 yJ0_isLatin1_aae02 cJ0_isLatin1_aae02 1 (some .boolean) 0 0 [.ref (kA (259 + i))] (some (.int 1)) := by
  refine va_MetF (cc := cJ0_isLatin1_aae02) (maxL := 1) (ret := some .boolean) (ws' := ae_gw) (by decide +kernel) rfl ?_
  intro p e s m args below meth c s₁ B hml hv
  obtain ⟨rfl, ⟨-, -, ⟨adV, hS⟩, hC, -⟩, -⟩ := hv
  have hts := atoms_spec (ws := Jvm.Cond.code yJ0_isLatin1_aae02 cJ0_isLatin1_aae02 1 (some .boolean) :: ae_gw) B.pre
  have hown : s.vm.findClass RJ0 = some m.cls := findClass_of_methodNamed B.named
  have hco : va_OF "java/lang/String" "coder" "B" (.int 0) (kA (259 + i)) (fun _ => False) s s.heap := (hS.1 i hi).2.1
  have hx := B.exec
  have hb := B.bytes
  have hl := lv_entry [Value.ref (kA (259 + i))] (n := 1) (Nat.le_refl 1)
  rw [lg_entry_eq]
  have S0 : va_S (fun _ => False) s.heap s.heap [] := va_S.rf
  refine va_gets (C := "java/lang/String") (index := 38) hx hb hC S0 hown (hts _ (List.mem_cons_of_mem _ (ae_wp 788 (by decide +kernel) rfl))) (fun _ h9 => h9) (by decide +kernel) ?_
  refine lv_if_eq (off := 14) (tgt := 17) hx hb (by decide +kernel) (by decide) (fun z => absurd z (by decide)) (fun _ => ?_)
  refine lv_aload_n (k := 0) hx hb (by decide +kernel) rfl (lv_at hl 0 rfl) ?_
  refine vk_getf (index := 15) hx hb hco S0 hown (hts _ (List.mem_cons_of_mem _ (ae_wp 2297 (by decide +kernel) rfl))) (fun _ h9 => h9) (by decide +kernel) ?_
  refine lv_if_ne (off := 7) (tgt := 17) hx hb (by decide +kernel) (by decide) (fun z => absurd rfl z) (fun _ => ?_)
  refine lv_iconst (v := 1) hx hb (n := 1) (by decide +kernel) (by decide) ?_
  refine lv_goto (off := 4) (tgt := 18) hx hb (by decide +kernel) (by decide) ?_
  exact W.zret hx hb B.returns (by decide) (fun t ht hW => ⟨rfl, ht⟩) (fun q hq => by cases hq) (by decide +kernel)
theorem ae_j_ci3 {a n : Nat} (ha : a < n) (hn : n < 2147483648) {v : Value} (hv : v = .null ∨ ∃ t, v = .ref t) : ae_JM l kA ae_E0 yJ3_checkIndex_8e157 cJ3_checkIndex_8e157 3 (some .int) 0 0 [.int (nI a), .int (nI n), v] (some (.int (nI a))) := by
  refine va_MetF (cc := cJ3_checkIndex_8e157) (maxL := 3) (ret := some .int) (ws' := ae_gw) (by decide +kernel) rfl ?_
  intro p e s m args below meth c s₁ B hml hv9
  obtain ⟨rfl, -, -⟩ := hv9
  have hx := B.exec
  have hb := B.bytes
  have hl := lv_entry [Value.int (nI a), .int (nI n), v] (n := 3) (by rcases hv with rfl | ⟨t, rfl⟩ <;> exact Nat.le_refl 3)
  rw [lg_entry_eq]
  refine lv_iload_n (k := 0) hx hb (by decide +kernel) rfl (lv_at hl 0 rfl) ?_
  refine lv_if_lt (off := 8) (tgt := 9) hx hb (by decide +kernel) (by decide) (fun z => absurd z (nI_pos (by omega))) (fun _ => ?_)
  refine lv_iload_n (k := 0) hx hb (by decide +kernel) rfl (lv_at hl 0 rfl) ?_
  refine lv_iload_n (k := 1) hx hb (by decide +kernel) rfl (lv_at hl 1 rfl) ?_
  refine lv_icmp_lt (off := 10) (tgt := 16) hx hb (by decide +kernel) (by decide) (fun _ => ?_) (fun z => absurd (nI_lt ha (by omega)) z)
  refine lv_iload_n (k := 0) hx hb (by decide +kernel) rfl (lv_at hl 0 rfl) ?_
  exact W.iret hx hb B.returns (fun t ht hW => ⟨rfl, ht⟩) (fun q hq => by cases hq) (by decide +kernel)
theorem ae_j_ci2 {a n : Nat} (ha : a < n) (hn : n < 2147483648) : ae_JM l kA ae_E0 yJ0_checkIndex_df160 cJ0_checkIndex_df160 2 none 1 14 [.int (nI a), .int (nI n)] none := by
  refine va_MetF (cc := cJ0_checkIndex_df160) (maxL := 2) (ret := none) (ws' := ae_gw) (by decide +kernel) rfl ?_
  intro p e s m args below meth c s₁ B hml hv9
  obtain ⟨rfl, hEX, -⟩ := hv9
  have hEX2 := hEX
  obtain ⟨-, -, -, -, v, hv, hZ⟩ := hEX2
  have hts := atoms_spec (ws := Jvm.Cond.code yJ0_checkIndex_df160 cJ0_checkIndex_df160 2 none :: ae_gw) B.pre
  have gw : ∀ w ∈ ae_gw, w.before _ s = true := fun w hw => hts w (List.mem_cons_of_mem _ hw)
  have hown : s.vm.findClass RJ0 = some m.cls := findClass_of_methodNamed B.named
  have hx := B.exec
  have hb := B.bytes
  have hl := lv_entry [Value.int (nI a), .int (nI n)] (n := 2) (Nat.le_refl 2)
  rw [lg_entry_eq]
  have S0 : va_S (fun _ => False) s.heap s.heap [] := va_S.rf
  refine lv_iload_n (k := 0) hx hb (by decide +kernel) rfl (lv_at hl 0 rfl) ?_
  refine lv_iload_n (k := 1) hx hb (by decide +kernel) rfl (lv_at hl 1 rfl) ?_
  refine va_gets (C := "jdk/internal/util/Preconditions") (index := 1053) hx hb hZ S0 hown (gw _ (ae_wp 796 (by decide +kernel) rfl)) (fun _ h9 => h9) (by decide +kernel) ?_
  refine ae_jS (idx := 1059) (rest := []) (ae_j_ci3 ha hn hv) (fun _ _ _ _ _ => trivial) (fun _ _ _ => trivial) hx hb (by rw [hml]; exact hl.1.symm) hown gw (ae_wp 798 (by decide +kernel) rfl) (ae_wp 799 (by decide +kernel) rfl) (ae_wp 800 (by decide +kernel) rfl) (ae_wp 134 (by decide +kernel) rfl) (by decide +kernel) (show (parseMethodDescriptor yJ3_checkIndex_8e157.desc).map (fun d => d.parameters.length) = some 3 by decide +kernel) hEX (Nat.le_refl 1) (by decide) (Nat.le_refl 0) (Nat.le_refl 0) rfl (by decide +kernel) ?_
  refine lv_pop hx hb (by decide +kernel) rfl ?_
  exact W.vret hx hb B.returns (fun t ht hW => ⟨rfl, ht⟩) (fun q hq => by cases hq) (by decide +kernel)
/-- the bytes of a text stand at t -/
def ae_ET (t : Nat) (L : List Nat) : State → Prop := fun U => va_T .byte t L.length (fun j => .int (nI (L.getD j 0))) (fun _ => False) U U.heap
theorem ae_ET_call {t : Nat} {L : List Nat} (U : State) (g : JFrame) (mk : MethodId) (a : Array Value) (h : ae_ET t L U) : ae_ET t L (U.calling g mk a) := va_T.moved (u := U) (U := U.calling g mk a) (Vm.Alike.refl U.vm) h
theorem ae_chr {z : Nat} (hz : z < 128) : ((nI z &&& 255).toUInt32 % 65536).toInt32 = nI z ∧ narrow .char (.int (nI z)) = .int (nI z) := by
  have h : ∀ k, k < 128 → ((nI k &&& 255).toUInt32 % 65536).toInt32 = nI k ∧ narrow .char (.int (nI k)) = .int (nI k) := by decide +kernel
  exact h z hz
theorem ae_j_lat {t k z : Nat} {L : List Nat} (hz : L[k]? = some z) (hz1 : z < 128) (hL : L.length < 1000) : ae_JM l kA (ae_ET t L) yJ1_charAt_3b067 cJ1_charAt_3b067 2 (some .char) 2 27 [.ref t, .int (nI k)] (some (.int (nI z))) := by
  have hk : k < L.length := (List.getElem?_eq_some_iff.mp hz).1
  refine va_MetF (cc := cJ1_charAt_3b067) (maxL := 2) (ret := some .char) (ws' := ae_gw) (by decide +kernel) rfl ?_
  intro p e s m args below meth c s₁ B hml hv9
  obtain ⟨rfl, hEX, hT⟩ := hv9
  have hT : va_T .byte t L.length (fun j => .int (nI (L.getD j 0))) (fun _ => False) s s.heap := hT
  have hts := atoms_spec (ws := Jvm.Cond.code yJ1_charAt_3b067 cJ1_charAt_3b067 2 (some .char) :: ae_gw) B.pre
  have gw : ∀ w ∈ ae_gw, w.before _ s = true := fun w hw => hts w (List.mem_cons_of_mem _ hw)
  have hown : s.vm.findClass RJ1 = some m.cls := findClass_of_methodNamed B.named
  have hx := B.exec
  have hb := B.bytes
  have hl := lv_entry [Value.ref t, .int (nI k)] (n := 2) (Nat.le_refl 2)
  rw [lg_entry_eq]
  have S0 : va_S (fun _ => False) s.heap s.heap [] := va_S.rf
  refine lv_iload_n (k := 1) hx hb (by decide +kernel) rfl (lv_at hl 1 rfl) ?_
  refine lv_aload_n (k := 0) hx hb (by decide +kernel) rfl (lv_at hl 0 rfl) ?_
  refine va_tlen hx hb hT S0 (v := nI L.length) rfl (by decide +kernel) ?_
  refine ae_jS (idx := 9) (rest := []) (ae_j_ci2 hk (by omega)) (fun _ _ _ _ _ => trivial) (fun _ _ _ => trivial) hx hb (by rw [hml]; exact hl.1.symm) hown gw (ae_wp 793 (by decide +kernel) rfl) (ae_wp 794 (by decide +kernel) rfl) (ae_wp 795 (by decide +kernel) rfl) (ae_wp 132 (by decide +kernel) rfl) (by decide +kernel) (show (parseMethodDescriptor yJ0_checkIndex_df160.desc).map (fun d => d.parameters.length) = some 2 by decide +kernel) hEX (Nat.le_refl 2) (by decide) (Nat.le_refl 0) (Nat.le_refl 0) rfl (by decide +kernel) ?_
  refine lv_aload_n (k := 0) hx hb (by decide +kernel) rfl (lv_at hl 0 rfl) ?_
  refine lv_iload_n (k := 1) hx hb (by decide +kernel) rfl (lv_at hl 1 rfl) ?_
  refine va_tb hx hb hT S0 (vp_in_nI hk (by omega)) (v := .int (nI z)) (by
    rw [nI_clamp (by omega), List.getD_eq_getElem?_getD, hz]; rfl) (by decide +kernel) ?_
  refine lv_sipush (v := 255) hx hb (n := 255) (by decide +kernel) (by decide) ?_
  refine lv_iand hx hb (by decide +kernel) ?_
  refine lv_i2c hx hb (by decide +kernel) (ae_chr hz1).1 ?_
  exact W.zret hx hb B.returns (ae_chr hz1).2 (fun t ht hW => ⟨rfl, ht⟩) (fun q hq => by cases hq) (by decide +kernel)
theorem ae_ls {i : Nat} (hi : i < 6) : ((ae_exs.drop 3).map List.length).getD i 0 = (ae_xr9 (3 + i)).length ∧ ((ae_exs.drop 3).map (List.map nI)).getD i [] = (ae_xr9 (3 + i)).map nI := by
  match i, hi with
  | 0, _ => exact ⟨rfl, rfl⟩
  | 1, _ => exact ⟨rfl, rfl⟩
  | 2, _ => exact ⟨rfl, rfl⟩
  | 3, _ => exact ⟨rfl, rfl⟩
  | 4, _ => exact ⟨rfl, rfl⟩
  | 5, _ => exact ⟨rfl, rfl⟩
  | n + 6, h => omega
theorem ae_lc {i : Nat} (hi : i < 6) : (ae_xr9 (3 + i)).length < 1000 ∧ ∀ z ∈ ae_xr9 (3 + i), z < 128 := by
  have h : ∀ i, i < 6 → ((ae_xr9 (3 + i)).length < 1000 ∧ ∀ z ∈ ae_xr9 (3 + i), z < 128) := by decide +kernel
  exact h i hi
theorem ae_tb_of {i : Nat} {adV : Nat → Nat} {A : Nat → Prop} {U : State} {H : Heap} (hi : i < 6) (hS : vk_S 6 ((ae_exs.drop 3).map List.length) ((ae_exs.drop 3).map (List.map nI)) (fun i => kA (259 + i)) adV A U H) : va_T .byte (adV i) (ae_xr9 (3 + i)).length (fun j => .int (nI ((ae_xr9 (3 + i)).getD j 0))) A U H := by
  have h := (hS.1 i hi).2.2.2
  obtain ⟨e1, e2⟩ := ae_ls hi
  rw [e1, e2] at h
  have e3 : (fun j => Value.int (((ae_xr9 (3 + i)).map nI).getD j 0)) = fun j => Value.int (nI ((ae_xr9 (3 + i)).getD j 0)) := by
    funext j
    rw [List.getD_eq_getElem?_getD, List.getD_eq_getElem?_getD, List.getElem?_map]
    cases (ae_xr9 (3 + i))[j]? <;> rfl
  rw [e3] at h
  exact h
theorem ae_j_charAt {i k z : Nat} (hi : i < 6) (hz : (ae_xr9 (3 + i))[k]? = some z) : ae_JM l kA ae_E0 yJ0_charAt_5068e cJ0_charAt_5068e 2 (some .char) 3 40 [.ref (kA (259 + i)), .int (nI k)] (some (.int (nI z))) := by
  obtain ⟨hL, hL2⟩ := ae_lc hi
  have hz1 := hL2 z (List.mem_of_getElem? hz)
  refine va_MetF (cc := cJ0_charAt_5068e) (maxL := 2) (ret := some .char) (ws' := ae_gw) (by decide +kernel) rfl ?_
  intro p e s m args below meth c s₁ B hml hv9
  obtain ⟨rfl, hEX, -⟩ := hv9
  have hEX2 := hEX
  obtain ⟨-, -, ⟨adV, hS⟩, hC, -⟩ := hEX2
  have hts := atoms_spec (ws := Jvm.Cond.code yJ0_charAt_5068e cJ0_charAt_5068e 2 (some .char) :: ae_gw) B.pre
  have gw : ∀ w ∈ ae_gw, w.before _ s = true := fun w hw => hts w (List.mem_cons_of_mem _ hw)
  have hown : s.vm.findClass RJ0 = some m.cls := findClass_of_methodNamed B.named
  have hva : va_OF "java/lang/String" "value" "[B" (.ref (adV i)) (kA (259 + i)) (fun _ => False) s s.heap := (hS.1 i hi).2.2.1
  have hx := B.exec
  have hb := B.bytes
  have hl := lv_entry [Value.ref (kA (259 + i)), .int (nI k)] (n := 2) (Nat.le_refl 2)
  rw [lg_entry_eq]
  have S0 : va_S (fun _ => False) s.heap s.heap [] := va_S.rf
  have hcell := vk_recv hS hi S0
  refine lv_aload_n (k := 0) hx hb (by decide +kernel) rfl (lv_at hl 0 rfl) ?_
  refine ae_jV (idx := 492) (As := []) (rest := []) (own := RJ0) (C := "java/lang/String") (ae_j_isL hi) (fun _ _ _ _ _ => trivial) (fun _ _ _ => trivial) hx hb (by rw [hml]; exact hl.1.symm) hown gw (ae_wp 784 (by decide +kernel) rfl) (ae_wp 785 (by decide +kernel) rfl) (ae_wp 786 (by decide +kernel) rfl) (ae_wp 787 (by decide +kernel) rfl) (ae_wp 132 (by decide +kernel) rfl) (by decide +kernel) (by decide +kernel) hcell hEX (by decide) (by decide) (Nat.le_refl 0) (Nat.le_refl 0) (by decide +kernel) ?_
  refine lv_if_eq (off := 12) (tgt := 16) hx hb (by decide +kernel) (by decide) (fun z => absurd z (by decide)) (fun _ => ?_)
  refine lv_aload_n (k := 0) hx hb (by decide +kernel) rfl (lv_at hl 0 rfl) ?_
  refine vk_getf (index := 9) hx hb hva S0 hown (gw _ (ae_wp 2298 (by decide +kernel) rfl)) (fun _ h9 => h9) (by decide +kernel) ?_
  refine lv_iload_n (k := 1) hx hb (by decide +kernel) rfl (lv_at hl 1 rfl) ?_
  refine ae_jS (idx := 495) (rest := []) (ae_j_lat (t := adV i) hz hz1 hL) ae_ET_call (fun U hU hW => by show va_T _ _ _ _ _ U U.heap; rw [hU]; exact (ae_tb_of hi hS).moved hW.alike) hx hb (by rw [hml]; exact hl.1.symm) hown gw (ae_wp 790 (by decide +kernel) rfl) (ae_wp 791 (by decide +kernel) rfl) (ae_wp 792 (by decide +kernel) rfl) (ae_wp 133 (by decide +kernel) rfl) (by decide +kernel) (show (parseMethodDescriptor yJ1_charAt_3b067.desc).map (fun d => d.parameters.length) = some 2 by decide +kernel) hEX (Nat.le_refl 3) (by decide) (Nat.le_refl 0) (Nat.le_refl 0) rfl (by decide +kernel) ?_
  exact W.zret hx hb B.returns (ae_chr hz1).2 (fun t ht hW => ⟨rfl, ht⟩) (fun q hq => by cases hq) (by decide +kernel)
theorem ae_j_len {i : Nat} (hi : i < 6) : ae_JM l kA ae_E0 yJ0_length_8abf5 cJ0_length_8abf5 1 (some .int) 1 13 [.ref (kA (259 + i))] (some (.int (nI (ae_xr9 (3 + i)).length))) := by
  obtain ⟨hL, hL2⟩ := ae_lc hi
  refine va_MetF (cc := cJ0_length_8abf5) (maxL := 1) (ret := some .int) (ws' := ae_gw) (by decide +kernel) rfl ?_
  intro p e s m args below meth c s₁ B hml hv9
  obtain ⟨rfl, hEX, -⟩ := hv9
  have hEX2 := hEX
  obtain ⟨-, -, ⟨adV, hS⟩, hC, -⟩ := hEX2
  have hts := atoms_spec (ws := Jvm.Cond.code yJ0_length_8abf5 cJ0_length_8abf5 1 (some .int) :: ae_gw) B.pre
  have gw : ∀ w ∈ ae_gw, w.before _ s = true := fun w hw => hts w (List.mem_cons_of_mem _ hw)
  have hown : s.vm.findClass RJ0 = some m.cls := findClass_of_methodNamed B.named
  have hva : va_OF "java/lang/String" "value" "[B" (.ref (adV i)) (kA (259 + i)) (fun _ => False) s s.heap := (hS.1 i hi).2.2.1
  have hx := B.exec
  have hb := B.bytes
  have hl := lv_entry [Value.ref (kA (259 + i))] (n := 1) (Nat.le_refl 1)
  rw [lg_entry_eq]
  have S0 : va_S (fun _ => False) s.heap s.heap [] := va_S.rf
  have hcell := vk_recv hS hi S0
  refine lv_aload_n (k := 0) hx hb (by decide +kernel) rfl (lv_at hl 0 rfl) ?_
  refine vk_getf (index := 9) hx hb hva S0 hown (gw _ (ae_wp 2298 (by decide +kernel) rfl)) (fun _ h9 => h9) (by decide +kernel) ?_
  refine va_tlen hx hb (ae_tb_of hi hS) S0 (v := nI (ae_xr9 (3 + i)).length) rfl (by decide +kernel) ?_
  refine lv_aload_n (k := 0) hx hb (by decide +kernel) rfl (lv_at hl 0 rfl) ?_
  refine ae_jV (idx := 335) (As := []) (rest := [.int (nI (ae_xr9 (3 + i)).length)]) (own := RJ0) (C := "java/lang/String") (ae_j_coder hi) (fun _ _ _ _ _ => trivial) (fun _ _ _ => trivial) hx hb (by rw [hml]; exact hl.1.symm) hown gw (ae_wp 828 (by decide +kernel) rfl) (ae_wp 829 (by decide +kernel) rfl) (ae_wp 830 (by decide +kernel) rfl) (ae_wp 831 (by decide +kernel) rfl) (ae_wp 132 (by decide +kernel) rfl) (by decide +kernel) (by decide +kernel) hcell hEX (Nat.le_refl 1) (Nat.le_refl 13) (Nat.le_refl 0) (Nat.le_refl 0) (by decide +kernel) ?_
  refine lv_ishr hx hb (by decide +kernel) ?_
  have e0 : nI (ae_xr9 (3 + i)).length >>> ((0 : Int32) &&& 31) = nI (ae_xr9 (3 + i)).length := by
    have h := ae_shr_ok (a := (ae_xr9 (3 + i)).length) (b := 0) (by omega) (by omega)
    have e1 : ae_shr (ae_xr9 (3 + i)).length 0 = (ae_xr9 (3 + i)).length := by
      generalize (ae_xr9 (3 + i)).length = n at hL
      unfold ae_shr
      cases hq : Nat.ble 2147483648 n with
      | true => have := ae_ble hq; omega
      | false => rfl
    rw [e1] at h
    exact h
  rw [e0]
  exact W.iret hx hb B.returns (fun t ht hW => ⟨rfl, ht⟩) (fun q hq => by cases hq) (by decide +kernel)
end
theorem ae_ari {a : Nat} (h : 259 ≤ a) (h2 : a - 256 < 9) : a - 259 < 6 ∧ a = 259 + (a - 259) ∧ 3 + (a - 259) = a - 256 := by omega
theorem ae_exl : ae_exs.length = 9 := by decide +kernel
/-- String.length and String.charAt do to the texts what the runner says -/
theorem ae_str_ok (l : Launch) (D : va_G) (kA : Nat → ClassId) : ae_Str l D kA := by
  intro p e s m args below meth c Q A M pc ce sl idx u v a L H locs ls restC X hf hce hsl ha hL hlo hls hS hd
  obtain ⟨hx, hb, hml, hown, hts, hKK, hA, -, -, -, hEX⟩ := X
  obtain ⟨i, hi, rfl, rfl⟩ : ∃ i, i < 6 ∧ a = 259 + i ∧ L = ae_xr9 (3 + i) := by
    unfold ae_xt at hL
    obtain ⟨-, hL⟩ := ae_cond hL
    rw [ae_nth_eq] at hL
    have hlt : a - 256 < 9 := ae_exl ▸ (List.getElem?_eq_some_iff.mp hL).1
    obtain ⟨g1, g2, e9⟩ := ae_ari ha hlt
    refine ⟨a - 259, g1, g2, ?_⟩
    unfold ae_xr9
    rw [e9, List.getD_eq_getElem?_getD]
    have hL : ae_exs[a - 256]? = some L := hL
    rw [hL]; rfl
  have hE2 : ae_EX kA (fun _ => False) s H := hEX.to (Vm.Alike.refl _) (fun _ _ _ _ q => q) hS.2.1 (fun _ q => q.elim)
  obtain ⟨-, -, ⟨adV, hSt⟩, -⟩ := hEX
  have hcell := vk_recv hSt hi hS
  refine ⟨fun hc k => ?_, fun i2 z hz hc k => ?_⟩
  · have hw : Jvm.Cond.methodLink (ae_on M.1) idx yJ0_length_8abf5 ∈ lw_tbl := (ae_cp_ok hc).1
    exact ae_jV (As := []) (C := "java/lang/String") (ae_j_len hi) (fun _ _ _ _ _ => trivial) (fun _ _ _ => trivial) hx hb (by rw [hml]; exact hls.symm) hown hts (ae_gw_in hw rfl) (ae_wp 825 (by decide +kernel) rfl) (ae_wp 826 (by decide +kernel) rfl) (ae_wp 827 (by decide +kernel) rfl) (ae_wp 132 (by decide +kernel) rfl) (by decide +kernel) (by decide +kernel) hcell hE2 (by show 1 + 1 ≤ M.2.2.2.2.2.2.2.1; omega) (by show _ + (1 + 11) + 13 ≤ M.2.2.2.2.2.2.2.2.1; omega) hce hsl hd k
  · have hw : Jvm.Cond.methodLink (ae_on M.1) idx yJ0_charAt_5068e ∈ lw_tbl := (ae_cp_ok hc).1
    rw [ae_nth_eq] at hz
    exact ae_jV (As := [.int (nI i2)]) (C := "java/lang/String") (ae_j_charAt hi hz) (fun _ _ _ _ _ => trivial) (fun _ _ _ => trivial) hx hb (by rw [hml]; exact hls.symm) hown hts (ae_gw_in hw rfl) (ae_wp 781 (by decide +kernel) rfl) (ae_wp 782 (by decide +kernel) rfl) (ae_wp 783 (by decide +kernel) rfl) (ae_wp 132 (by decide +kernel) rfl) (by decide +kernel) (show (parseMethodDescriptor yJ0_charAt_5068e.desc).map (fun d => d.parameters.length) = some 1 by decide +kernel) hcell hE2 (by show 3 + 1 ≤ M.2.2.2.2.2.2.2.1; omega) (by show _ + (2 + 11) + 40 ≤ M.2.2.2.2.2.2.2.2.1; omega) hce hsl hd k
/-- a run of the runner is a contract of the machine, with nothing left to show -/
theorem ae_run {l : Launch} {D : va_G} {kA : Nat → ClassId} {n mj : Nat} {as : List ae_V} {h : ae_H} {r : ae_R} (hrun : ae_exe n mj 0 0 0 (ae_args as 0) [] h = some r) : ae_Mt l D kA mj as h r := ae_met (ae_str_ok l D kA) hrun
