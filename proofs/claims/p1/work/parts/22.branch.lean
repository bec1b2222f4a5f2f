/-! THE CLAIM OUT OF ONE WALK OF THE LAW'S BODY. Your part is whole_start (and what it stands on); all else here is the same for every law, but numbers. -/
def R_law : String := "PlugHallLaw"
def lw_P (b : Addr) (xs : List Int32) (args : Array Value) (s : State) : Prop := args = #[.ref b] ∧ s.IntsAt b xs ∧ xs.length ≤ 6 ∧ (Jvm.Cond.and given_1 narrow_1).before args s = true
def lw_Q (_ : Array Value) (s : State) (o : Outcome) (t : State) : Prop := o = .returned (some (.int 1)) ∧ Framed s o t [] 600002 7302231
def lw_Z (below : List Frame) (a : Array Value) (s : State) : State → Prop := fun t => ∃ o, t.status = .running ∧ Ended t below o ∧ lw_Q a s o t
/-- the law's own end, with 1 on the stack, nothing written that was there before, its room as the claim has it -/
theorem lw_ret {p : Program} {l : Launch} {e : Env} {s : State} {m : MethodId} {below : List Frame} {meth : Method} {c : Code} {b : Nat} (hx : p.tables.exec = Jvm.exec) (hb : c.code = code) (hr : meth.sig.returnType = ret) (hlocks : meth.locks = false) {pc : Nat} {H : Heap} {ls : Array Slot} (hdg : decode code pc = .ok (.ireturn, 1)) : W p l e room_1 s m #[Value.ref b] below meth c H [] 600002 7302231 (lw_Z below #[Value.ref b] s) (F0 m pc ls [.int 1]) := by
  intro T hT X
  obtain ⟨fs, hret, hrun, hended, hW, hframe⟩ := X.leave (v := some (.int 1)) (hlocks := hlocks) (fun h => by rw [hr] at h; cases h)
  have hmeth' : T.vm.method? m = some meth := X.method'
  refine ⟨T.setFrames fs, ?_, .returned (some (.int 1)), hrun, hended, rfl, ⟨_, rfl⟩, hW, hframe⟩
  jvm_step X.here [X.here.top, hx, hb, hdg, hmeth', hr, ret, narrow_b1]
  (try refine ⟨rfl, ?_⟩); (try refine ⟨rfl, ?_⟩)
  first | (intro acts; rw [hret _ acts rfl rfl rfl]) | rw [hret _ _ rfl rfl rfl]
  exact Steps.refl _
/-- what holds at the law's entry: the machine, the code, the tables' words (any of lw_tbl by 'hts w (by decide +kernel)'), the script of L ints xs at the cell b, what the Statement gives of the start (any of its parts by flat_of_before) -/
def lw_At (p : Program) (s : State) (m : MethodId) (meth : Method) (c : Code) (b L : Nat) (xs : Nat → Int32) : Prop :=
  p.tables.exec = Jvm.exec ∧ c.code = code ∧ meth.sig.returnType = ret ∧ c.maxLocals = 7 ∧ s.vm.findClass R_law = some m.cls ∧ (∀ w ∈ lw_tbl, w.before #[Value.ref b] s = true) ∧ va_X b L xs s s.heap ∧ b < s.heap.size ∧ meth.locks = false ∧ (Jvm.Cond.and given_1 narrow_1).before #[Value.ref b] s = true
theorem ae_nk_ok {a own this : Nat} {xs : List ae_V} {h : ae_H} (q : ae_nk a own this xs h = true) : ∃ N, ae_m a = some N ∧ N.1 = own ∧ N.2.2.2.2.2.1 = 1 ∧ N.2.2.2.2.2.2.2.1 < 14 ∧ 19 + N.2.2.2.1 + N.2.2.2.2.2.2.2.2.1 ≤ 520 ∧ N.2.2.2.2.2.2.2.2.2.1 = 0 ∧ N.2.2.2.2.2.2.2.2.2.2 = 0 ∧ N.2.2.2.2.2.2.1 = xs.length ∧ ae_catS (.inr (.inr (some this)) :: xs) ≤ N.2.2.2.1 ∧ ae_rcv 1 (.inr (.inr (some this)) :: xs) h N.1 = true := by
  unfold ae_nk at q
  split at q
  · next N hN =>
    obtain ⟨q1, q⟩ := ae_band q
    obtain ⟨q2, q⟩ := ae_band q
    obtain ⟨q3, q⟩ := ae_band q
    obtain ⟨q4, q⟩ := ae_band q
    obtain ⟨q5, q⟩ := ae_band q
    obtain ⟨q6, q⟩ := ae_band q
    obtain ⟨q7, q⟩ := ae_band q
    obtain ⟨q8, q⟩ := ae_band q
    have q1 := ae_beq q1
    refine ⟨N, hN, q1, ae_beq q2, ae_blt q3, ae_ble q4, ae_beq q5, ae_beq q6, ae_beq q7, ae_ble q8, ?_⟩
    rw [q1]; exact q
  · cases q
def ae_je (pc : Nat) : Bool := match decode code pc with
  | .ok (.if_icmp .eq off, 3) => decide ((pc : Int) + off = 1354)
  | _ => false
theorem ae_je_ok {pc : Nat} (h : ae_je pc = true) : ∃ off, decode code pc = .ok (.if_icmp .eq off, 3) ∧ (pc : Int) + off = ((1354 : Nat) : Int) := by
  unfold ae_je at h
  split at h
  · next off hd => exact ⟨off, hd, of_decide_eq_true h⟩
  · cases h
/-- a branch of the law: a call of the class, the same of the model, a comparison -/
def ae_bk (pc : Nat) (ks : List Nat) (iA iB P1 P2 P3 : Nat) : Bool := and (decide (decode code pc = .ok (.aload_n 1, 1))) (and (ae_aks (pc + 1) ks) (and (Nat.beq P1 (pc + 1 + 6 * ks.length)) (and (decide (decode code P1 = .ok (.invokevirtual iA, 3))) (and (decide (decode code (P1 + 3) = .ok (.aload_n 2, 1))) (and (Nat.beq P2 (P1 + 3 + 1)) (and (ae_aks P2 ks) (and (Nat.beq P3 (P2 + 6 * ks.length)) (and (decide (decode code P3 = .ok (.invokevirtual iB, 3))) (ae_je (P3 + 3))))))))))
section
variable {p : Program} {l : Launch} {e : Env} {s : State} {m : MethodId} {below : List Frame} {meth : Method} {c : Code} {D : va_G} {kA : Nat → ClassId} {ce sl : Nat} {ws : va_W} {H : Heap} {locs : List Loc} {ls : Array Slot} {b : Nat} {xs : Nat → Int32} {Q : State → Prop}
theorem law_br (X : ae_Cx p s m #[Value.ref b] meth c D kA (ae_A s) ae_Ml) (hX : va_X b 6 xs s s.heap) (hbl : b < s.heap.size) {x0 m0 : Nat} (hl : ls.size = 7) (h0 : ls[0]? = some (.val (.ref b))) (h1 : ls[1]? = some (.val (.ref x0))) (h2 : ls[2]? = some (.val (.ref m0))) (h4 : ls[4]? = some (.val (.int 0)))
    (hx0 : (ae_ad ws)[0]? = some x0) (hm0 : (ae_ad ws)[114]? = some m0) (hhr : ae_hr kA ws ae_s0) (hP : va_P D ae_cl ws H) (hD : va_D (ae_A s) ws) (hS : va_S (ae_A s) s.heap H locs) (hce : ce ≤ 600002) (hsl : sl ≤ 7302231)
    {pc n a b9 iA iB P1 P2 P3 : Nat} {ks : List Nat} {as : List ae_V} (hck : ae_bk pc ks iA iB P1 P2 P3 = true) (hcA : ae_cp 17 iA = some (1, a, 0)) (hcB : ae_cp 17 iB = some (1, b9, 0)) (hlen : as.length = ks.length) (has : ∀ ad, ae_sr ad as (ks.map (fun k => Value.int (xs k)))) (htwo : ae_two n a b9 as = true)
    (fin : ∀ (H1 : Heap) (locs1 : List Loc), va_S (ae_A s) s.heap H1 locs1 → W p l e room_1 s m #[Value.ref b] below meth c H1 locs1 ce sl Q (F0 m 1354 ls [])) : W p l e room_1 s m #[Value.ref b] below meth c H locs ce sl Q (F0 m pc ls []) := by
  have hx : p.tables.exec = Jvm.exec := X.1
  have hb : c.code = code := X.2.1
  obtain ⟨k1, hck⟩ := ae_band hck
  obtain ⟨k2, hck⟩ := ae_band hck
  obtain ⟨k3, hck⟩ := ae_band hck
  obtain ⟨k4, hck⟩ := ae_band hck
  obtain ⟨k5, hck⟩ := ae_band hck
  obtain ⟨k6, hck⟩ := ae_band hck
  obtain ⟨k7, hck⟩ := ae_band hck
  obtain ⟨k8, hck⟩ := ae_band hck
  obtain ⟨k9, k10⟩ := ae_band hck
  have k3 := ae_beq k3
  have k6 := ae_beq k6
  have k8 := ae_beq k8
  obtain ⟨n1, v, g1, g2, e1, n2, e2⟩ := ae_two_ok htwo
  obtain ⟨N1, hN1, a1, a2, a3, a4, a5, a6, a7, a8, a9⟩ := ae_nk_ok n1
  obtain ⟨N2, hN2, b1, b2, b3, b4, b5, b6, b7, b8, b10⟩ := ae_nk_ok n2
  refine lv_aload_n hx hb (of_decide_eq_true k1) rfl h1 ?_
  refine law_args hx hb hX hbl hS h0 h4 ks (pc + 1) _ k2 ?_
  rw [← k3]
  have hrev1 : (as.reverse ++ [Sum.inr (Sum.inr (some 0))] : List ae_V).reverse = .inr (.inr (some 0)) :: as := by simp
  have hps1 : ae_sr (ae_ad ws) (as.reverse ++ [.inr (.inr (some 0))]) ((ks.map (fun k => Value.int (xs k))).reverse ++ [.ref x0]) := ae_sr_app (ae_sr_rev (has _)) ⟨_, [], rfl, ⟨x0, hx0, rfl⟩, rfl⟩
  have go1 := ae_callW (R := room_1) (ps := as.reverse ++ [.inr (.inr (some 0))]) (restC := []) (Q := Q) (l := l) (e := e) (below := below) (ce := ce) (sl := sl) (locs := locs) (ls := ls) (pc := P1) (vir := 1) (idx := iA) X rfl (of_decide_eq_true k4) (by omega) hcA (Or.inl rfl) hN1 a2 a3 a4 (by rw [a5]; exact hce) (by rw [a6]; exact hsl) (by simp [a7, hlen]; rfl) (by decide) (by rw [hrev1]; exact a8) (by rw [hrev1]; exact a9) (by rw [hrev1]; exact ae_met e1) hl hps1 hhr hP hD hS
  rw [List.append_nil] at go1
  refine go1 (fun rv ws1 H1 locs1 r1 r2 r3 r4 r5 r6 => ?_)
  obtain ⟨y1, rfl, z1, rfl, rfl, hz1⟩ := r1
  rw [a5, a6]
  refine lv_aload_n hx hb (of_decide_eq_true k5) rfl h2 ?_
  show W p l e room_1 s m #[Value.ref b] below meth c H1 locs1 ce sl Q (F0 m (P1 + 3 + 1) ls (.ref m0 :: [.int (nI v)]))
  rw [← k6]
  refine law_args hx hb hX hbl r6 h0 h4 ks P2 _ k7 ?_
  rw [← k8]
  have hrev2 : (as.reverse ++ [Sum.inr (Sum.inr (some 114))] : List ae_V).reverse = .inr (.inr (some 114)) :: as := by simp
  have hps2 : ae_sr (ae_ad ws1) (as.reverse ++ [.inr (.inr (some 114))]) ((ks.map (fun k => Value.int (xs k))).reverse ++ [.ref m0]) := ae_sr_app (ae_sr_rev (has _)) ⟨_, [], rfl, ⟨m0, r3 _ _ hm0, rfl⟩, rfl⟩
  have go2 := ae_callW (R := room_1) (ps := as.reverse ++ [.inr (.inr (some 114))]) (restC := [.int (nI v)]) (Q := Q) (l := l) (e := e) (below := below) (ce := ce) (sl := sl) (locs := locs1) (ls := ls) (pc := P3) (vir := 1) (idx := iB) X rfl (of_decide_eq_true k9) (by omega) hcB (Or.inl rfl) hN2 b2 b3 b4 (by rw [b5]; exact hce) (by rw [b6]; exact hsl) (by simp [b7, hlen]; rfl) (Nat.le_of_ble_eq_true rfl) (by rw [hrev2]; exact b8) (by rw [hrev2]; exact b10) (by rw [hrev2]; exact ae_met e2) hl hps2 r2 r4 r5 r6
  rw [List.append_assoc] at go2
  refine go2 (fun rv2 ws2 H2 locs2 t1 t2 t3 t4 t5 t6 => ?_)
  obtain ⟨y2, rfl, z2, rfl, rfl, hz2⟩ := t1
  rw [b5, b6]
  obtain ⟨off, hd9, ht9⟩ := ae_je_ok k10
  exact lv_icmp_eq hx hb hd9 ht9 (fun _ => fin H2 locs2 t6) (fun z => absurd rfl z)
/-- the law's way out, at its loop's head -/
theorem law_exit {L : Nat} (X : ae_Cx p s m #[Value.ref b] meth c D kA (ae_A s) ae_Ml) (hX : va_X b L xs s s.heap) (hbl : b < s.heap.size) (hS : va_S (ae_A s) s.heap H locs) (hce : ce ≤ 600002) (hsl : sl ≤ 7302231) {y : Int32} (h0 : ls[0]? = some (.val (.ref b))) (h4 : ls[4]? = some (.val (.int y))) (hgt : Int32.ofNat L - 6 < y) : W p l e room_1 s m #[Value.ref b] below meth c H locs ce sl (lw_Z below #[Value.ref b] s) (F0 m 23 ls []) := by
  have hx : p.tables.exec = Jvm.exec := X.1
  have hb : c.code = code := X.2.1
  have hr : meth.sig.returnType = ret := X.2.2.2.2.2.2.2.2.1
  have hlocks : meth.locks = false := X.2.2.2.2.2.2.2.2.2
  refine lv_iload (i := 4) hx hb (by decide +kernel) h4 ?_
  refine lv_aload_n (k := 0) hx hb (by decide +kernel) rfl h0 ?_
  refine va_slen hx hb hX hbl (Nat.not_le.mpr hbl) hS (by decide +kernel) ?_
  refine lv_bipush (n := 6) (v := 6) hx hb (by decide +kernel) (by decide) ?_
  refine lv_isub hx hb (by decide +kernel) ?_
  refine lv_icmp_gt (off := 1330) (tgt := 1360) hx hb (by decide +kernel) (by decide) (fun _ => ?_) (fun z => absurd hgt z)
  refine lv_iconst (n := 1) (v := 1) hx hb (by decide +kernel) (by decide) ?_
  refine va_forget (fun q hq => hS.2.2 q hq) ?_
  refine W.widen (k := 600002) (n := 7302231) hce hsl ?_
  exact lw_ret hx hb hr hlocks (by decide +kernel)
end
