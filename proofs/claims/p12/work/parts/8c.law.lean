/-! THE LAW'S BRANCHES (printed by wip/p2/law/g8c.py) -/
def ae_Ml : ae_M := (17, yL_law, code, 7, ret, 0, 1, 14, 518, 601024, 7293034)
/-- the law's own heap: everything from its start on -/
abbrev ae_A (s : State) : Nat → Prop := fun q => s.heap.size ≤ q
/-- loading an argument out of the script -/
def ae_ak (pc k : Nat) : Bool := and (decide (decode code pc = .ok (.aload_n 0, 1))) (and (decide (decode code (pc + 1) = .ok (.iload 4, 2))) (and (decide (decode code (pc + 3) = .ok (.iconst (k : Int), 1))) (and (decide (decode code (pc + 4) = .ok (.iadd, 1))) (decide (decode code (pc + 5) = .ok (.iaload, 1))))))
def ae_aks : Nat → List Nat → Bool
  | _, [] => true
  | pc, k :: ks => and (ae_ak pc k) (and (Nat.ble k 5) (ae_aks (pc + 6) ks))
theorem ae_aks_c {pc k : Nat} {ks : List Nat} (h : ae_aks pc (k :: ks) = true) : ae_ak pc k = true ∧ k ≤ 5 ∧ ae_aks (pc + 6) ks = true := by
  unfold ae_aks at h
  obtain ⟨c1, hc⟩ := ae_band h
  obtain ⟨c2, c3⟩ := ae_band hc
  exact ⟨c1, ae_ble c2, c3⟩
section
variable {tq : Int} {p : Program} {l : Launch} {e : Env} {s : State} {m : MethodId} {below : List Frame} {meth : Method} {c : Code} {Q : State → Prop} {R : Room} {ce sl : Nat} {H : Heap} {locs : List Loc} {ls : Array Slot} {b L i : Nat} {xs : Nat → Int32} {args : Array Value}
theorem law_arg (hx : p.tables.exec = Jvm.exec) (hb : c.code = code) (hX : va_X b L xs s s.heap) (hbl : b < s.heap.size) (hL : L ≤ 3072) (hi : i + 6 ≤ L) (hS : va_S (ae_A s) s.heap H locs) (h0 : ls[0]? = some (.val (.ref b))) (h4 : ls[4]? = some (.val (.int (nI i)))) {pc k : Nat} (hk : k ≤ 5) (hc : ae_ak pc k = true) {rest : List Value}
    (kk : W p l e R s m args below meth c H locs ce sl Q (F0 m (pc + 6) ls (.int (xs (i + k)) :: rest))) : W p l e R s m args below meth c H locs ce sl Q (F0 m pc ls rest) := by
  obtain ⟨d0, hc⟩ := ae_band hc
  obtain ⟨d1, hc⟩ := ae_band hc
  obtain ⟨d2, hc⟩ := ae_band hc
  obtain ⟨d3, d4⟩ := ae_band hc
  refine lv_aload_n hx hb (of_decide_eq_true d0) rfl h0 ?_
  refine lv_iload hx hb (of_decide_eq_true d1) h4 ?_
  refine lv_iconst (v := nI k) hx hb (of_decide_eq_true d2) (ae_u_ok (k : Int) (by omega) (by omega)) ?_
  refine lv_iadd hx hb (of_decide_eq_true d3) ?_
  rw [nI_add]
  refine va_sld hx hb hX hbl (Nat.not_le.mpr hbl) hS (vp_in_nI (n := i + k) (N := L) (by omega) (by omega)) (of_decide_eq_true d4) ?_
  rw [nI_clamp (by omega)]
  exact kk
theorem law_args (hx : p.tables.exec = Jvm.exec) (hb : c.code = code) (hX : va_X b L xs s s.heap) (hbl : b < s.heap.size) (hL : L ≤ 3072) (hi : i + 6 ≤ L) (hS : va_S (ae_A s) s.heap H locs) (h0 : ls[0]? = some (.val (.ref b))) (h4 : ls[4]? = some (.val (.int (nI i)))) (ks : List Nat) : ∀ (pc : Nat) (rest : List Value), ae_aks pc ks = true →
    W p l e R s m args below meth c H locs ce sl Q (F0 m (pc + 6 * ks.length) ls ((ks.map (fun k => Value.int (xs (i + k)))).reverse ++ rest)) → W p l e R s m args below meth c H locs ce sl Q (F0 m pc ls rest) := by
  induction ks with
  | nil => intro pc rest _ kk; simpa using kk
  | cons k ks ih =>
    intro pc rest hc kk
    obtain ⟨c1, c2, c3⟩ := ae_aks_c hc
    refine law_arg hx hb hX hbl hL hi hS h0 h4 c2 c1 (ih (pc + 6) _ c3 ?_)
    have e1 : pc + 6 + 6 * ks.length = pc + 6 * (k :: ks).length := by rw [List.length_cons]; omega
    have e2 : ((k :: ks).map (fun k => Value.int (xs (i + k)))).reverse ++ rest = (ks.map (fun k => Value.int (xs (i + k)))).reverse ++ (.int (xs (i + k)) :: rest) := by simp
    rw [e1, ← e2]
    exact kk
end
/-- a method of the table, as the law calls it -/
noncomputable def lw_nk (mj own k : Nat) : Bool := match ae_m mj with
  | some N => and (Nat.beq N.1 own) (and (Nat.beq N.2.2.2.2.2.1 1) (and (Nat.blt N.2.2.2.2.2.2.2.1 14) (and (Nat.ble (Nat.add (Nat.add 19 N.2.2.2.1) N.2.2.2.2.2.2.2.2.1) 518) (and (Nat.beq N.2.2.2.2.2.2.2.2.2.1 0) (and (Nat.beq N.2.2.2.2.2.2.2.2.2.2 0) (and (Nat.beq N.2.2.2.2.2.2.1 k) (Nat.ble (Nat.succ k) N.2.2.2.1)))))))
  | none => false
theorem lw_nk_ok {mj own k : Nat} (q : lw_nk mj own k = true) : ∃ N, ae_m mj = some N ∧ N.1 = own ∧ N.2.2.2.2.2.1 = 1 ∧ N.2.2.2.2.2.2.2.1 < 14 ∧ 19 + N.2.2.2.1 + N.2.2.2.2.2.2.2.2.1 ≤ 518 ∧ N.2.2.2.2.2.2.2.2.2.1 = 0 ∧ N.2.2.2.2.2.2.2.2.2.2 = 0 ∧ N.2.2.2.2.2.2.1 = k ∧ k + 1 ≤ N.2.2.2.1 := by
  unfold lw_nk at q
  split at q
  · next N hN =>
    obtain ⟨q1, q⟩ := ae_band q
    obtain ⟨q2, q⟩ := ae_band q
    obtain ⟨q3, q⟩ := ae_band q
    obtain ⟨q4, q⟩ := ae_band q
    obtain ⟨q5, q⟩ := ae_band q
    obtain ⟨q6, q⟩ := ae_band q
    obtain ⟨q7, q8⟩ := ae_band q
    exact ⟨N, hN, ae_beq q1, ae_beq q2, ae_blt q3, ae_ble q4, ae_beq q5, ae_beq q6, ae_beq q7, ae_ble q8⟩
  · cases q
/-- the arguments, as the runner has them -/
noncomputable def lw_as (xs : Nat → Int32) (i : Nat) (ks : List Nat) : List ae_V := ks.map (fun k => wk_i (xs (i + k)).toInt)
theorem lw_as_sr (ad : Nat → Option Nat) (xs : Nat → Int32) (i : Nat) : ∀ ks : List Nat, ae_sr ad (lw_as xs i ks) (ks.map (fun k => Value.int (xs (i + k))))
  | [] => rfl
  | k :: ks => ⟨_, _, rfl, lw_vi ad _, lw_as_sr ad xs i ks⟩
theorem lw_as_len (xs : Nat → Int32) (i : Nat) (ks : List Nat) : (lw_as xs i ks).length = ks.length := by unfold lw_as; simp
theorem lw_as_cat (xs : Nat → Int32) (i : Nat) : ∀ ks : List Nat, ae_catS (lw_as xs i ks) = ks.length
  | [] => rfl
  | k :: ks => by
    show 1 + ae_catS (lw_as xs i ks) = ks.length + 1
    rw [lw_as_cat xs i ks]; omega
/-- the law between two calls -/
def lw_S (s : State) (D : va_G) (kA : Nat → ClassId) (b x0 m0 o0 i : Nat) (tq : Int) (ws : va_W) (H : Heap) (locs : List Loc) (ls : Array Slot) (h : ae_H) (n m : Int) : Prop :=
  lv_has ls 7 [(0, .ref b), (1, .ref x0), (2, .ref m0), (3, .ref o0), (4, .int (nI i))] ∧ ae_ad kA ws 0 = some x0 ∧ ae_ad kA ws 114 = some m0 ∧ ae_hr kA ws h ∧ lw_I tq h n m ∧ (∃ f, va_P D ae_cl (ws ++ [lh_o kA o0 f]) H ∧ va_D (ae_A s) (ws ++ [lh_o kA o0 f])) ∧ va_S (ae_A s) s.heap H locs
/-- what doesn't change -/
def lw_C (p : Program) (l : Launch) (s : State) (m : MethodId) (meth : Method) (c : Code) (D : va_G) (kA : Nat → ClassId) (b L : Nat) (xs : Nat → Int32) : Prop := ae_Cx p s m #[Value.ref b] meth c D kA (ae_A s) ae_Ml ∧ va_X b L xs s s.heap ∧ b < s.heap.size ∧ L ≤ 3072 ∧ l.stackTraces = false ∧ ae_TT (ae_A s) s s.heap
section
variable {tq : Int} {p : Program} {l : Launch} {e : Env} {s : State} {m : MethodId} {below : List Frame} {meth : Method} {c : Code} {D : va_G} {kA : Nat → ClassId} {ce sl : Nat} {ws : va_W} {H : Heap} {locs : List Loc} {ls : Array Slot} {b L x0 m0 o0 i : Nat} {xs : Nat → Int32} {Q : State → Prop} {h : ae_H} {n n2 : Int}
/-- a call of the class (k0 = 0) or of the reference (k0 = 114) with the arguments on the stack -/
theorem law_call (X : lw_C p l s m meth c D kA b L xs) {k0 q0 own z : Nat} {ks : List Nat} {pc idx mj : Nat} {f0 : Nat → Int64} {restC : List Value} (hown : (k0 = 0 ∧ own = 11) ∨ (k0 = 114 ∧ own = 12)) (hd : decode code pc = .ok (.invokevirtual idx, 3)) (hc : ae_cp 17 idx = some (1, mj, z)) (hnk : lw_nk mj own ks.length = true) (hls : ls.size = 7) (hq : ae_ad kA ws k0 = some q0) (hhr : ae_hr kA ws h) (hk : sv_hk sv_ty sv_tt h) (hPo : va_P D ae_cl (ws ++ [lh_o kA o0 f0]) H) (hDo : va_D (ae_A s) (ws ++ [lh_o kA o0 f0])) (hS : va_S (ae_A s) s.heap H locs) (hce : ce ≤ 601024) (hsl : sl ≤ 7293034) (hrest : (restC.map fun v => v.category).sum ≤ 8) {P : ae_R → Prop} (g : sv_G P mj 0 (ae_args (wk_r k0 :: lw_as xs i ks) 0) [] h)
    (kk : ∀ (r : ae_R) (rv : Option Value) (ws1 : va_W) (H1 : Heap) (locs1 : List Loc), P r → ae_ro (ae_ad kA ws1) r.1 rv → ae_hr kA ws1 r.2 → ae_px (ae_ad kA ws) (ae_ad kA ws1) → va_P D ae_cl (ws1 ++ [lh_o kA o0 f0]) H1 → va_D (ae_A s) (ws1 ++ [lh_o kA o0 f0]) → va_S (ae_A s) s.heap H1 locs1 → W p l e room_1 s m #[Value.ref b] below meth c H1 locs1 ce sl Q (F0 m (pc + 3) ls (rv.toList ++ restC))) : W p l e room_1 s m #[Value.ref b] below meth c H locs ce sl Q (F0 m pc ls ((ks.map (fun k => Value.int (xs (i + k)))).reverse ++ (.ref q0 :: restC))) := by
  obtain ⟨X, -⟩ := X
  obtain ⟨N, hN, a1, a2, a3, a4, a5, a6, a7, a8⟩ := lw_nk_ok hnk
  obtain ⟨r, hr, F, hF⟩ := g
  have hrev : ((lw_as xs i ks).reverse ++ [wk_r k0] : List ae_V).reverse = wk_r k0 :: lw_as xs i ks := by simp
  have hps : ae_sr (ae_ad kA ws) ((lw_as xs i ks).reverse ++ [wk_r k0]) ((ks.map (fun k => Value.int (xs (i + k)))).reverse ++ [.ref q0]) := ae_sr_app (ae_sr_rev (lw_as_sr _ xs i ks)) ⟨_, [], rfl, ⟨q0, hq, rfl⟩, rfl⟩
  have hcat : ae_catS (wk_r k0 :: lw_as xs i ks) ≤ N.2.2.2.1 := by
    show 1 + ae_catS (lw_as xs i ks) ≤ _
    rw [lw_as_cat]; omega
  have hrc : ae_rcv 1 (wk_r k0 :: lw_as xs i ks) h N.1 = true := by
    rw [a1]
    rcases hown with ⟨e1, e2⟩ | ⟨e1, e2⟩
    · subst e1; subst e2; exact wk_rcv hk wz_ty0 tT_11
    · subst e1; subst e2; exact wk_rcv hk lp_tyR tT_12
  have go := ae_callO (R := room_1) (ps := (lw_as xs i ks).reverse ++ [wk_r k0]) (restC := restC) (Q := Q) (l := l) (e := e) (below := below) (ce := ce) (sl := sl) (locs := locs) (ls := ls) (pc := pc) (vir := 1) (idx := idx) (kd := 1) (z := z) (oE := lh_o kA o0 f0) X rfl hd (by omega) hc (Or.inl rfl) hN a2 a3 a4 (by rw [a5]; exact hce) (by rw [a6]; exact hsl) (by rw [List.length_append, List.length_reverse, lw_as_len, a7]; rfl) hrest (by rw [hrev]; exact hcat) (by rw [hrev]; exact hrc) (by rw [hrev]; exact ae_run (hF F (Nat.le_refl F))) hls hps hhr hPo hDo hS
  rw [List.append_assoc] at go
  refine go (fun rv ws1 H1 locs1 r1 r2 r3 r4 r5 r6 => ?_)
  rw [a5, a6]
  exact kk r rv ws1 H1 locs1 hr r1 r2 r3 r4 r5 r6
end
/-- a branch of the law: a call of the class, the same of the model, no comparison -/
def ae_bp (pc : Nat) (ks : List Nat) (iA iB P1 P2 P3 : Nat) (off : Int) : Bool := and (decide (decode code pc = .ok (.aload_n 1, 1))) (and (ae_aks (pc + 1) ks) (and (Nat.beq P1 (pc + 1 + 6 * ks.length)) (and (decide (decode code P1 = .ok (.invokevirtual iA, 3))) (and (decide (decode code (P1 + 3) = .ok (.pop, 1))) (and (decide (decode code (P1 + 3 + 1) = .ok (.aload_n 2, 1))) (and (Nat.beq P2 (P1 + 3 + 1 + 1)) (and (ae_aks P2 ks) (and (Nat.beq P3 (P2 + 6 * ks.length)) (and (decide (decode code P3 = .ok (.invokevirtual iB, 3))) (and (decide (decode code (P3 + 3) = .ok (.pop, 1))) (and (decide (decode code (P3 + 3 + 1) = .ok (.goto off, 3))) (decide (((P3 + 3 + 1 : Nat) : Int) + off = ((1270 : Nat) : Int))))))))))))))
section
variable {tq : Int} {p : Program} {l : Launch} {e : Env} {s : State} {m : MethodId} {below : List Frame} {meth : Method} {c : Code} {D : va_G} {kA : Nat → ClassId} {ce sl : Nat} {ws : va_W} {H : Heap} {locs : List Loc} {ls : Array Slot} {b L x0 m0 o0 i : Nat} {xs : Nat → Int32} {Q : State → Prop} {h : ae_H} {n : Int}
/-- a branch of the law: a call of the class, the same of the model, a comparison -/
def ae_bc (pc : Nat) (ks : List Nat) (iA iB P1 P2 P3 : Nat) (off : Int) : Bool := and (decide (decode code pc = .ok (.aload_n 1, 1))) (and (ae_aks (pc + 1) ks) (and (Nat.beq P1 (pc + 1 + 6 * ks.length)) (and (decide (decode code P1 = .ok (.invokevirtual iA, 3))) (and (decide (decode code (P1 + 3) = .ok (.aload_n 2, 1))) (and (Nat.beq P2 (P1 + 3 + 1)) (and (ae_aks P2 ks) (and (Nat.beq P3 (P2 + 6 * ks.length)) (and (decide (decode code P3 = .ok (.invokevirtual iB, 3))) (and (decide (decode code (P3 + 3) = .ok (.if_icmp .eq off, 3))) (decide (((P3 + 3 : Nat) : Int) + off = ((1270 : Nat) : Int))))))))))))
theorem law_pp2 (X : lw_C p l s m meth c D kA b L xs) (hi : i + 6 ≤ L) (hce : ce + 1 ≤ 601024) (hsl : sl + 6 ≤ 7293034) (S : lw_S s D kA b x0 m0 o0 i tq ws H locs ls h n n) (ht : 0 ≤ tq ∧ tq ≤ 600) (fin : ∀ ws H locs ls h n, lw_S s D kA b x0 m0 o0 i (tq + 1) ws H locs ls h n n → W p l e room_1 s m #[Value.ref b] below meth c H locs (ce + 1) (sl + 6) Q (F0 m 1270 ls []))
    {pc a b9 iA iB P1 P2 P3 z1 z2 : Nat} {off : Int} {ks : List Nat} (hck : ae_bp pc ks iA iB P1 P2 P3 off = true) (hcA : ae_cp 17 iA = some (1, a, z1)) (hcB : ae_cp 17 iB = some (1, b9, z2)) (nA : lw_nk a 11 ks.length = true) (nB : lw_nk b9 12 ks.length = true) 
    (g : ∀ {h : ae_H} {n : Int}, lw_I tq h n n → sv_G (fun r => (∃ x, r.1 = some (wk_i x)) ∧ sv_hk sv_ty sv_tt r.2 ∧ sv_G (fun r2 => (∃ x, r2.1 = some (wk_i x)) ∧ ∃ n2, lw_I (tq + 1) r2.2 n2 n2) b9 0 (ae_args (wk_r 114 :: lw_as xs i ks) 0) [] r.2) a 0 (ae_args (wk_r 0 :: lw_as xs i ks) 0) [] h) : W p l e room_1 s m #[Value.ref b] below meth c H locs ce sl Q (F0 m pc ls []) := by
  have X0 := X
  obtain ⟨Xc, hX, hbl, hL, htr, hTT⟩ := X
  have hx : p.tables.exec = Jvm.exec := Xc.1
  have hb : c.code = code := Xc.2.1
  obtain ⟨hl, hx0, hm0, hhr, I, ⟨f, hPo, hDo⟩, hS⟩ := S
  obtain ⟨k1, hck⟩ := ae_band hck
  obtain ⟨k2, hck⟩ := ae_band hck
  obtain ⟨k3, hck⟩ := ae_band hck
  obtain ⟨k4, hck⟩ := ae_band hck
  obtain ⟨k5, hck⟩ := ae_band hck
  obtain ⟨k6, hck⟩ := ae_band hck
  obtain ⟨k7, hck⟩ := ae_band hck
  obtain ⟨k8, hck⟩ := ae_band hck
  obtain ⟨k9, hck⟩ := ae_band hck
  obtain ⟨k10, hck⟩ := ae_band hck
  obtain ⟨k11, hck⟩ := ae_band hck
  obtain ⟨k12, k13⟩ := ae_band hck
  have k3 := ae_beq k3
  have k7 := ae_beq k7
  have k9 := ae_beq k9
  refine lv_aload_n hx hb (of_decide_eq_true k1) rfl (lv_at hl 1 rfl) ?_
  refine law_args hx hb hX hbl hL hi hS (lv_at hl 0 rfl) (lv_at hl 4 rfl) ks (pc + 1) _ k2 ?_
  rw [← k3]
  refine law_call X0 (restC := []) (Or.inl ⟨rfl, rfl⟩) (of_decide_eq_true k4) hcA nA hl.1 hx0 hhr I.1.1 hPo hDo hS (by omega) (by omega) (by decide) (g I) (fun r rv ws1 H1 locs1 hr r1 r2 r3 r4 r5 r6 => ?_)
  obtain ⟨⟨x, er⟩, hk1, g2⟩ := hr
  rw [er] at r1
  obtain ⟨y1, rfl, z1, rfl, -⟩ := r1
  refine lv_pop hx hb (of_decide_eq_true k5) rfl ?_
  refine lv_aload_n hx hb (of_decide_eq_true k6) rfl (lv_at hl 2 rfl) ?_
  rw [← k7]
  refine law_args hx hb hX hbl hL hi r6 (lv_at hl 0 rfl) (lv_at hl 4 rfl) ks P2 _ k8 ?_
  rw [← k9]
  refine law_call X0 (restC := []) (Or.inr ⟨rfl, rfl⟩) (of_decide_eq_true k10) hcB nB hl.1 (r3 _ _ hm0) r2 hk1 r4 r5 r6 (by omega) (by omega) (by decide) g2 (fun r rv ws2 H2 locs2 hr t1 t2 t3 t4 t5 t6 => ?_)
  obtain ⟨⟨x2, er2⟩, n2, I2⟩ := hr
  rw [er2] at t1
  obtain ⟨y2, rfl, z2, rfl, -⟩ := t1
  refine lv_pop hx hb (of_decide_eq_true k11) rfl ?_
  refine lv_goto hx hb (of_decide_eq_true k12) (of_decide_eq_true k13) ?_
  exact W.widen (Nat.le_succ ce) (Nat.le_add_right sl 6) (fin ws2 H2 locs2 ls _ _ ⟨hl, t3 _ _ (r3 _ _ hx0), t3 _ _ (r3 _ _ hm0), t2, I2, ⟨f, t4, t5⟩, t6⟩)

theorem law_cc2 (X : lw_C p l s m meth c D kA b L xs) (hi : i + 6 ≤ L) (hce : ce + 1 ≤ 601024) (hsl : sl + 6 ≤ 7293034) (S : lw_S s D kA b x0 m0 o0 i tq ws H locs ls h n n) (ht : 0 ≤ tq ∧ tq ≤ 600) (fin : ∀ ws H locs ls h n, lw_S s D kA b x0 m0 o0 i (tq + 1) ws H locs ls h n n → W p l e room_1 s m #[Value.ref b] below meth c H locs (ce + 1) (sl + 6) Q (F0 m 1270 ls []))
    {pc a b9 iA iB P1 P2 P3 z1 z2 : Nat} {off : Int} {ks : List Nat} (hck : ae_bc pc ks iA iB P1 P2 P3 off = true) (hcA : ae_cp 17 iA = some (1, a, z1)) (hcB : ae_cp 17 iB = some (1, b9, z2)) (nA : lw_nk a 11 ks.length = true) (nB : lw_nk b9 12 ks.length = true) 
    (g : ∀ {h : ae_H} {n : Int}, lw_I tq h n n → sv_G (fun r => ∃ y, r.1 = some (wk_i y) ∧ sv_hk sv_ty sv_tt r.2 ∧ sv_G (fun r2 => r2.1 = some (wk_i y) ∧ ∃ n2, lw_I (tq + 1) r2.2 n2 n2) b9 0 (ae_args (wk_r 114 :: lw_as xs i ks) 0) [] r.2) a 0 (ae_args (wk_r 0 :: lw_as xs i ks) 0) [] h) : W p l e room_1 s m #[Value.ref b] below meth c H locs ce sl Q (F0 m pc ls []) := by
  have X0 := X
  obtain ⟨Xc, hX, hbl, hL, htr, hTT⟩ := X
  have hx : p.tables.exec = Jvm.exec := Xc.1
  have hb : c.code = code := Xc.2.1
  obtain ⟨hl, hx0, hm0, hhr, I, ⟨f, hPo, hDo⟩, hS⟩ := S
  obtain ⟨k1, hck⟩ := ae_band hck
  obtain ⟨k2, hck⟩ := ae_band hck
  obtain ⟨k3, hck⟩ := ae_band hck
  obtain ⟨k4, hck⟩ := ae_band hck
  obtain ⟨k6, hck⟩ := ae_band hck
  obtain ⟨k7, hck⟩ := ae_band hck
  obtain ⟨k8, hck⟩ := ae_band hck
  obtain ⟨k9, hck⟩ := ae_band hck
  obtain ⟨k10, hck⟩ := ae_band hck
  obtain ⟨k12, k13⟩ := ae_band hck
  have k3 := ae_beq k3
  have k7 := ae_beq k7
  have k9 := ae_beq k9
  refine lv_aload_n hx hb (of_decide_eq_true k1) rfl (lv_at hl 1 rfl) ?_
  refine law_args hx hb hX hbl hL hi hS (lv_at hl 0 rfl) (lv_at hl 4 rfl) ks (pc + 1) _ k2 ?_
  rw [← k3]
  refine law_call X0 (restC := []) (Or.inl ⟨rfl, rfl⟩) (of_decide_eq_true k4) hcA nA hl.1 hx0 hhr I.1.1 hPo hDo hS (by omega) (by omega) (by decide) (g I) (fun r rv ws1 H1 locs1 hr r1 r2 r3 r4 r5 r6 => ?_)
  obtain ⟨y, er, hk1, g2⟩ := hr
  rw [er] at r1
  obtain ⟨y1, rfl, z1, rfl, hz1⟩ := r1
  refine lv_aload_n hx hb (of_decide_eq_true k6) rfl (lv_at hl 2 rfl) ?_
  rw [← k7]
  refine law_args hx hb hX hbl hL hi r6 (lv_at hl 0 rfl) (lv_at hl 4 rfl) ks P2 _ k8 ?_
  rw [← k9]
  refine law_call X0 (restC := [.int z1]) (Or.inr ⟨rfl, rfl⟩) (of_decide_eq_true k10) hcB nB hl.1 (r3 _ _ hm0) r2 hk1 r4 r5 r6 (by omega) (by omega) (by show (1 : Nat) + 0 ≤ 8; omega) g2 (fun r' rv2 ws2 H2 locs2 hr2 t1 t2 t3 t4 t5 t6 => ?_)
  obtain ⟨er2, n2, I2⟩ := hr2
  rw [er2] at t1
  obtain ⟨y2, rfl, z2, rfl, hz2⟩ := t1
  have e12 : z1 = z2 := hz1.1.trans hz2.1.symm
  subst e12
  refine lv_icmp_eq hx hb (of_decide_eq_true k12) (of_decide_eq_true k13) (fun _ => ?_) (fun z => absurd rfl z)
  exact W.widen (Nat.le_succ ce) (Nat.le_add_right sl 6) (fin ws2 H2 locs2 ls _ _ ⟨hl, t3 _ _ (r3 _ _ hx0), t3 _ _ (r3 _ _ hm0), t2, I2, ⟨f, t4, t5⟩, t6⟩)

theorem law_ck0 : ae_bp 208 [1, 2, 3, 4, 5] 30 34 239 244 274 992 = true := by decide +kernel
theorem law_op0 (X : lw_C p l s m meth c D kA b L xs) (hi : i + 6 ≤ L) (hce : ce + 1 ≤ 601024) (hsl : sl + 6 ≤ 7293034) (S : lw_S s D kA b x0 m0 o0 i tq ws H locs ls h n n) (ht : 0 ≤ tq ∧ tq ≤ 600) (fin : ∀ ws H locs ls h n, lw_S s D kA b x0 m0 o0 i (tq + 1) ws H locs ls h n n → W p l e room_1 s m #[Value.ref b] below meth c H locs (ce + 1) (sl + 6) Q (F0 m 1270 ls [])) : W p l e room_1 s m #[Value.ref b] below meth c H locs ce sl Q (F0 m 208 ls []) :=
  law_pp2 X hi hce hsl S ht fin law_ck0 rfl rfl (by decide +kernel) (by decide +kernel) (fun I => lq_144 I ht (lw_ti _) (lw_ti _) (lw_ti _) (lw_ti _) (lw_ti _))
theorem law_ck1 : ae_bp 281 [1] 35 39 288 293 299 967 = true := by decide +kernel
theorem law_op1 (X : lw_C p l s m meth c D kA b L xs) (hi : i + 6 ≤ L) (hce : ce + 1 ≤ 601024) (hsl : sl + 6 ≤ 7293034) (S : lw_S s D kA b x0 m0 o0 i tq ws H locs ls h n n) (ht : 0 ≤ tq ∧ tq ≤ 600) (fin : ∀ ws H locs ls h n, lw_S s D kA b x0 m0 o0 i (tq + 1) ws H locs ls h n n → W p l e room_1 s m #[Value.ref b] below meth c H locs (ce + 1) (sl + 6) Q (F0 m 1270 ls [])) : W p l e room_1 s m #[Value.ref b] below meth c H locs ce sl Q (F0 m 281 ls []) :=
  law_pp2 X hi hce hsl S ht fin law_ck1 rfl rfl (by decide +kernel) (by decide +kernel) (fun I => lw_pp (lq_145 I ht (lw_ti _)))
theorem law_ck2 : ae_bp 306 [1] 40 43 313 318 324 942 = true := by decide +kernel
theorem law_op2 (X : lw_C p l s m meth c D kA b L xs) (hi : i + 6 ≤ L) (hce : ce + 1 ≤ 601024) (hsl : sl + 6 ≤ 7293034) (S : lw_S s D kA b x0 m0 o0 i tq ws H locs ls h n n) (ht : 0 ≤ tq ∧ tq ≤ 600) (fin : ∀ ws H locs ls h n, lw_S s D kA b x0 m0 o0 i (tq + 1) ws H locs ls h n n → W p l e room_1 s m #[Value.ref b] below meth c H locs (ce + 1) (sl + 6) Q (F0 m 1270 ls [])) : W p l e room_1 s m #[Value.ref b] below meth c H locs ce sl Q (F0 m 306 ls []) :=
  law_pp2 X hi hce hsl S ht fin law_ck2 rfl rfl (by decide +kernel) (by decide +kernel) (fun I => lw_pp (lq_146 I ht (lw_ti _)))
theorem law_ck3 : ae_bp 331 [1] 44 47 338 343 349 917 = true := by decide +kernel
theorem law_op3 (X : lw_C p l s m meth c D kA b L xs) (hi : i + 6 ≤ L) (hce : ce + 1 ≤ 601024) (hsl : sl + 6 ≤ 7293034) (S : lw_S s D kA b x0 m0 o0 i tq ws H locs ls h n n) (ht : 0 ≤ tq ∧ tq ≤ 600) (fin : ∀ ws H locs ls h n, lw_S s D kA b x0 m0 o0 i (tq + 1) ws H locs ls h n n → W p l e room_1 s m #[Value.ref b] below meth c H locs (ce + 1) (sl + 6) Q (F0 m 1270 ls [])) : W p l e room_1 s m #[Value.ref b] below meth c H locs ce sl Q (F0 m 331 ls []) :=
  law_pp2 X hi hce hsl S ht fin law_ck3 rfl rfl (by decide +kernel) (by decide +kernel) (fun I => lw_pp (lq_147 I ht (lw_ti _)))
theorem law_ck5 : ae_bp 408 [1] 54 57 415 420 426 840 = true := by decide +kernel
theorem law_op5 (X : lw_C p l s m meth c D kA b L xs) (hi : i + 6 ≤ L) (hce : ce + 1 ≤ 601024) (hsl : sl + 6 ≤ 7293034) (S : lw_S s D kA b x0 m0 o0 i tq ws H locs ls h n n) (ht : 0 ≤ tq ∧ tq ≤ 600) (fin : ∀ ws H locs ls h n, lw_S s D kA b x0 m0 o0 i (tq + 1) ws H locs ls h n n → W p l e room_1 s m #[Value.ref b] below meth c H locs (ce + 1) (sl + 6) Q (F0 m 1270 ls [])) : W p l e room_1 s m #[Value.ref b] below meth c H locs ce sl Q (F0 m 408 ls []) :=
  law_pp2 X hi hce hsl S ht fin law_ck5 rfl rfl (by decide +kernel) (by decide +kernel) (fun I => lw_pp (lq_149 I ht (lw_ti _)))
theorem law_ck6 : ae_bp 433 [] 58 62 434 439 439 827 = true := by decide +kernel
theorem law_op6 (X : lw_C p l s m meth c D kA b L xs) (hi : i + 6 ≤ L) (hce : ce + 1 ≤ 601024) (hsl : sl + 6 ≤ 7293034) (S : lw_S s D kA b x0 m0 o0 i tq ws H locs ls h n n) (ht : 0 ≤ tq ∧ tq ≤ 600) (fin : ∀ ws H locs ls h n, lw_S s D kA b x0 m0 o0 i (tq + 1) ws H locs ls h n n → W p l e room_1 s m #[Value.ref b] below meth c H locs (ce + 1) (sl + 6) Q (F0 m 1270 ls [])) : W p l e room_1 s m #[Value.ref b] below meth c H locs ce sl Q (F0 m 433 ls []) :=
  law_pp2 X hi hce hsl S ht fin law_ck6 rfl rfl (by decide +kernel) (by decide +kernel) (fun I => lw_pp (lq_150 I ht))
theorem law_ck7 : ae_bp 446 [] 63 66 447 452 452 814 = true := by decide +kernel
theorem law_op7 (X : lw_C p l s m meth c D kA b L xs) (hi : i + 6 ≤ L) (hce : ce + 1 ≤ 601024) (hsl : sl + 6 ≤ 7293034) (S : lw_S s D kA b x0 m0 o0 i tq ws H locs ls h n n) (ht : 0 ≤ tq ∧ tq ≤ 600) (fin : ∀ ws H locs ls h n, lw_S s D kA b x0 m0 o0 i (tq + 1) ws H locs ls h n n → W p l e room_1 s m #[Value.ref b] below meth c H locs (ce + 1) (sl + 6) Q (F0 m 1270 ls [])) : W p l e room_1 s m #[Value.ref b] below meth c H locs ce sl Q (F0 m 446 ls []) :=
  law_pp2 X hi hce hsl S ht fin law_ck7 rfl rfl (by decide +kernel) (by decide +kernel) (fun I => lw_pp (lq_151 I ht))
theorem law_ck8 : ae_bp 459 [1, 2] 67 70 472 477 489 777 = true := by decide +kernel
theorem law_op8 (X : lw_C p l s m meth c D kA b L xs) (hi : i + 6 ≤ L) (hce : ce + 1 ≤ 601024) (hsl : sl + 6 ≤ 7293034) (S : lw_S s D kA b x0 m0 o0 i tq ws H locs ls h n n) (ht : 0 ≤ tq ∧ tq ≤ 600) (fin : ∀ ws H locs ls h n, lw_S s D kA b x0 m0 o0 i (tq + 1) ws H locs ls h n n → W p l e room_1 s m #[Value.ref b] below meth c H locs (ce + 1) (sl + 6) Q (F0 m 1270 ls [])) : W p l e room_1 s m #[Value.ref b] below meth c H locs ce sl Q (F0 m 459 ls []) :=
  law_pp2 X hi hce hsl S ht fin law_ck8 rfl rfl (by decide +kernel) (by decide +kernel) (fun I => lw_pp (lq_152 I ht (lw_ti _) (lw_ti _)))
theorem law_ck9 : ae_bp 496 [1] 71 74 503 508 514 752 = true := by decide +kernel
theorem law_op9 (X : lw_C p l s m meth c D kA b L xs) (hi : i + 6 ≤ L) (hce : ce + 1 ≤ 601024) (hsl : sl + 6 ≤ 7293034) (S : lw_S s D kA b x0 m0 o0 i tq ws H locs ls h n n) (ht : 0 ≤ tq ∧ tq ≤ 600) (fin : ∀ ws H locs ls h n, lw_S s D kA b x0 m0 o0 i (tq + 1) ws H locs ls h n n → W p l e room_1 s m #[Value.ref b] below meth c H locs (ce + 1) (sl + 6) Q (F0 m 1270 ls [])) : W p l e room_1 s m #[Value.ref b] below meth c H locs ce sl Q (F0 m 496 ls []) :=
  law_pp2 X hi hce hsl S ht fin law_ck9 rfl rfl (by decide +kernel) (by decide +kernel) (fun I => lw_pp (lq_153 I ht (lw_ti _)))
theorem law_ck12 : ae_bp 617 [1, 2] 86 90 630 635 647 619 = true := by decide +kernel
theorem law_op12 (X : lw_C p l s m meth c D kA b L xs) (hi : i + 6 ≤ L) (hce : ce + 1 ≤ 601024) (hsl : sl + 6 ≤ 7293034) (S : lw_S s D kA b x0 m0 o0 i tq ws H locs ls h n n) (ht : 0 ≤ tq ∧ tq ≤ 600) (fin : ∀ ws H locs ls h n, lw_S s D kA b x0 m0 o0 i (tq + 1) ws H locs ls h n n → W p l e room_1 s m #[Value.ref b] below meth c H locs (ce + 1) (sl + 6) Q (F0 m 1270 ls [])) : W p l e room_1 s m #[Value.ref b] below meth c H locs ce sl Q (F0 m 617 ls []) :=
  law_pp2 X hi hce hsl S ht fin law_ck12 rfl rfl (by decide +kernel) (by decide +kernel) (fun I => lw_pp (lq_156 I ht (lw_ti _) (lw_ti _)))
theorem law_ck13 : ae_bp 654 [1] 91 94 661 666 672 594 = true := by decide +kernel
theorem law_op13 (X : lw_C p l s m meth c D kA b L xs) (hi : i + 6 ≤ L) (hce : ce + 1 ≤ 601024) (hsl : sl + 6 ≤ 7293034) (S : lw_S s D kA b x0 m0 o0 i tq ws H locs ls h n n) (ht : 0 ≤ tq ∧ tq ≤ 600) (fin : ∀ ws H locs ls h n, lw_S s D kA b x0 m0 o0 i (tq + 1) ws H locs ls h n n → W p l e room_1 s m #[Value.ref b] below meth c H locs (ce + 1) (sl + 6) Q (F0 m 1270 ls [])) : W p l e room_1 s m #[Value.ref b] below meth c H locs ce sl Q (F0 m 654 ls []) :=
  law_pp2 X hi hce hsl S ht fin law_ck13 rfl rfl (by decide +kernel) (by decide +kernel) (fun I => lw_pp (lq_157 I ht (lw_ti _)))
theorem law_ck14 : ae_bp 679 [1] 95 98 686 691 697 569 = true := by decide +kernel
theorem law_op14 (X : lw_C p l s m meth c D kA b L xs) (hi : i + 6 ≤ L) (hce : ce + 1 ≤ 601024) (hsl : sl + 6 ≤ 7293034) (S : lw_S s D kA b x0 m0 o0 i tq ws H locs ls h n n) (ht : 0 ≤ tq ∧ tq ≤ 600) (fin : ∀ ws H locs ls h n, lw_S s D kA b x0 m0 o0 i (tq + 1) ws H locs ls h n n → W p l e room_1 s m #[Value.ref b] below meth c H locs (ce + 1) (sl + 6) Q (F0 m 1270 ls [])) : W p l e room_1 s m #[Value.ref b] below meth c H locs ce sl Q (F0 m 679 ls []) :=
  law_pp2 X hi hce hsl S ht fin law_ck14 rfl rfl (by decide +kernel) (by decide +kernel) (fun I => lq_158 I ht (lw_ti _))
theorem law_ck15 : ae_bp 704 [1] 99 102 711 716 722 544 = true := by decide +kernel
theorem law_op15 (X : lw_C p l s m meth c D kA b L xs) (hi : i + 6 ≤ L) (hce : ce + 1 ≤ 601024) (hsl : sl + 6 ≤ 7293034) (S : lw_S s D kA b x0 m0 o0 i tq ws H locs ls h n n) (ht : 0 ≤ tq ∧ tq ≤ 600) (fin : ∀ ws H locs ls h n, lw_S s D kA b x0 m0 o0 i (tq + 1) ws H locs ls h n n → W p l e room_1 s m #[Value.ref b] below meth c H locs (ce + 1) (sl + 6) Q (F0 m 1270 ls [])) : W p l e room_1 s m #[Value.ref b] below meth c H locs ce sl Q (F0 m 704 ls []) :=
  law_pp2 X hi hce hsl S ht fin law_ck15 rfl rfl (by decide +kernel) (by decide +kernel) (fun I => lq_159 I ht (lw_ti _))
theorem law_ck16 : ae_bp 729 [1] 103 106 736 741 747 519 = true := by decide +kernel
theorem law_op16 (X : lw_C p l s m meth c D kA b L xs) (hi : i + 6 ≤ L) (hce : ce + 1 ≤ 601024) (hsl : sl + 6 ≤ 7293034) (S : lw_S s D kA b x0 m0 o0 i tq ws H locs ls h n n) (ht : 0 ≤ tq ∧ tq ≤ 600) (fin : ∀ ws H locs ls h n, lw_S s D kA b x0 m0 o0 i (tq + 1) ws H locs ls h n n → W p l e room_1 s m #[Value.ref b] below meth c H locs (ce + 1) (sl + 6) Q (F0 m 1270 ls [])) : W p l e room_1 s m #[Value.ref b] below meth c H locs ce sl Q (F0 m 729 ls []) :=
  law_pp2 X hi hce hsl S ht fin law_ck16 rfl rfl (by decide +kernel) (by decide +kernel) (fun I => lw_pp (lq_160 I ht (lw_ti _)))
theorem law_ck17 : ae_bp 754 [] 107 110 755 760 760 506 = true := by decide +kernel
theorem law_op17 (X : lw_C p l s m meth c D kA b L xs) (hi : i + 6 ≤ L) (hce : ce + 1 ≤ 601024) (hsl : sl + 6 ≤ 7293034) (S : lw_S s D kA b x0 m0 o0 i tq ws H locs ls h n n) (ht : 0 ≤ tq ∧ tq ≤ 600) (fin : ∀ ws H locs ls h n, lw_S s D kA b x0 m0 o0 i (tq + 1) ws H locs ls h n n → W p l e room_1 s m #[Value.ref b] below meth c H locs (ce + 1) (sl + 6) Q (F0 m 1270 ls [])) : W p l e room_1 s m #[Value.ref b] below meth c H locs ce sl Q (F0 m 754 ls []) :=
  law_pp2 X hi hce hsl S ht fin law_ck17 rfl rfl (by decide +kernel) (by decide +kernel) (fun I => lw_pp (lq_161 I ht))
theorem law_ck18 : ae_bp 767 [] 111 114 768 773 773 493 = true := by decide +kernel
theorem law_op18 (X : lw_C p l s m meth c D kA b L xs) (hi : i + 6 ≤ L) (hce : ce + 1 ≤ 601024) (hsl : sl + 6 ≤ 7293034) (S : lw_S s D kA b x0 m0 o0 i tq ws H locs ls h n n) (ht : 0 ≤ tq ∧ tq ≤ 600) (fin : ∀ ws H locs ls h n, lw_S s D kA b x0 m0 o0 i (tq + 1) ws H locs ls h n n → W p l e room_1 s m #[Value.ref b] below meth c H locs (ce + 1) (sl + 6) Q (F0 m 1270 ls [])) : W p l e room_1 s m #[Value.ref b] below meth c H locs ce sl Q (F0 m 767 ls []) :=
  law_pp2 X hi hce hsl S ht fin law_ck18 rfl rfl (by decide +kernel) (by decide +kernel) (fun I => lw_pp (lq_162 I ht))
theorem law_ck19 : ae_bp 780 [] 115 118 781 786 786 480 = true := by decide +kernel
theorem law_op19 (X : lw_C p l s m meth c D kA b L xs) (hi : i + 6 ≤ L) (hce : ce + 1 ≤ 601024) (hsl : sl + 6 ≤ 7293034) (S : lw_S s D kA b x0 m0 o0 i tq ws H locs ls h n n) (ht : 0 ≤ tq ∧ tq ≤ 600) (fin : ∀ ws H locs ls h n, lw_S s D kA b x0 m0 o0 i (tq + 1) ws H locs ls h n n → W p l e room_1 s m #[Value.ref b] below meth c H locs (ce + 1) (sl + 6) Q (F0 m 1270 ls [])) : W p l e room_1 s m #[Value.ref b] below meth c H locs ce sl Q (F0 m 780 ls []) :=
  law_pp2 X hi hce hsl S ht fin law_ck19 rfl rfl (by decide +kernel) (by decide +kernel) (fun I => lw_pp (lq_163 I ht))
theorem law_ck20 : ae_bp 793 [] 119 122 794 799 799 467 = true := by decide +kernel
theorem law_op20 (X : lw_C p l s m meth c D kA b L xs) (hi : i + 6 ≤ L) (hce : ce + 1 ≤ 601024) (hsl : sl + 6 ≤ 7293034) (S : lw_S s D kA b x0 m0 o0 i tq ws H locs ls h n n) (ht : 0 ≤ tq ∧ tq ≤ 600) (fin : ∀ ws H locs ls h n, lw_S s D kA b x0 m0 o0 i (tq + 1) ws H locs ls h n n → W p l e room_1 s m #[Value.ref b] below meth c H locs (ce + 1) (sl + 6) Q (F0 m 1270 ls [])) : W p l e room_1 s m #[Value.ref b] below meth c H locs ce sl Q (F0 m 793 ls []) :=
  law_pp2 X hi hce hsl S ht fin law_ck20 rfl rfl (by decide +kernel) (by decide +kernel) (fun I => lw_pp (lq_164 I ht))
theorem law_ck21 : ae_bp 806 [1] 123 126 813 818 824 442 = true := by decide +kernel
theorem law_op21 (X : lw_C p l s m meth c D kA b L xs) (hi : i + 6 ≤ L) (hce : ce + 1 ≤ 601024) (hsl : sl + 6 ≤ 7293034) (S : lw_S s D kA b x0 m0 o0 i tq ws H locs ls h n n) (ht : 0 ≤ tq ∧ tq ≤ 600) (fin : ∀ ws H locs ls h n, lw_S s D kA b x0 m0 o0 i (tq + 1) ws H locs ls h n n → W p l e room_1 s m #[Value.ref b] below meth c H locs (ce + 1) (sl + 6) Q (F0 m 1270 ls [])) : W p l e room_1 s m #[Value.ref b] below meth c H locs ce sl Q (F0 m 806 ls []) :=
  law_pp2 X hi hce hsl S ht fin law_ck21 rfl rfl (by decide +kernel) (by decide +kernel) (fun I => lw_pp (lq_165 I ht (lw_ti _)))
theorem law_ck22 : ae_bp 831 [1] 127 130 838 843 849 417 = true := by decide +kernel
theorem law_op22 (X : lw_C p l s m meth c D kA b L xs) (hi : i + 6 ≤ L) (hce : ce + 1 ≤ 601024) (hsl : sl + 6 ≤ 7293034) (S : lw_S s D kA b x0 m0 o0 i tq ws H locs ls h n n) (ht : 0 ≤ tq ∧ tq ≤ 600) (fin : ∀ ws H locs ls h n, lw_S s D kA b x0 m0 o0 i (tq + 1) ws H locs ls h n n → W p l e room_1 s m #[Value.ref b] below meth c H locs (ce + 1) (sl + 6) Q (F0 m 1270 ls [])) : W p l e room_1 s m #[Value.ref b] below meth c H locs ce sl Q (F0 m 831 ls []) :=
  law_pp2 X hi hce hsl S ht fin law_ck22 rfl rfl (by decide +kernel) (by decide +kernel) (fun I => lw_pp (lq_166 I ht (lw_ti _)))
theorem law_ck23 : ae_bp 856 [1, 2] 131 134 869 874 886 380 = true := by decide +kernel
theorem law_op23 (X : lw_C p l s m meth c D kA b L xs) (hi : i + 6 ≤ L) (hce : ce + 1 ≤ 601024) (hsl : sl + 6 ≤ 7293034) (S : lw_S s D kA b x0 m0 o0 i tq ws H locs ls h n n) (ht : 0 ≤ tq ∧ tq ≤ 600) (fin : ∀ ws H locs ls h n, lw_S s D kA b x0 m0 o0 i (tq + 1) ws H locs ls h n n → W p l e room_1 s m #[Value.ref b] below meth c H locs (ce + 1) (sl + 6) Q (F0 m 1270 ls [])) : W p l e room_1 s m #[Value.ref b] below meth c H locs ce sl Q (F0 m 856 ls []) :=
  law_pp2 X hi hce hsl S ht fin law_ck23 rfl rfl (by decide +kernel) (by decide +kernel) (fun I => lq_167 I ht (lw_ti _) (lw_ti _))
theorem law_ck25 : ae_bp 933 [1, 2] 138 141 946 951 963 303 = true := by decide +kernel
theorem law_op25 (X : lw_C p l s m meth c D kA b L xs) (hi : i + 6 ≤ L) (hce : ce + 1 ≤ 601024) (hsl : sl + 6 ≤ 7293034) (S : lw_S s D kA b x0 m0 o0 i tq ws H locs ls h n n) (ht : 0 ≤ tq ∧ tq ≤ 600) (fin : ∀ ws H locs ls h n, lw_S s D kA b x0 m0 o0 i (tq + 1) ws H locs ls h n n → W p l e room_1 s m #[Value.ref b] below meth c H locs (ce + 1) (sl + 6) Q (F0 m 1270 ls [])) : W p l e room_1 s m #[Value.ref b] below meth c H locs ce sl Q (F0 m 933 ls []) :=
  law_pp2 X hi hce hsl S ht fin law_ck25 rfl rfl (by decide +kernel) (by decide +kernel) (fun I => lq_169 I ht (lw_ti _) (lw_ti _))
theorem law_ck26 : ae_bp 970 [1] 142 145 977 982 988 278 = true := by decide +kernel
theorem law_op26 (X : lw_C p l s m meth c D kA b L xs) (hi : i + 6 ≤ L) (hce : ce + 1 ≤ 601024) (hsl : sl + 6 ≤ 7293034) (S : lw_S s D kA b x0 m0 o0 i tq ws H locs ls h n n) (ht : 0 ≤ tq ∧ tq ≤ 600) (fin : ∀ ws H locs ls h n, lw_S s D kA b x0 m0 o0 i (tq + 1) ws H locs ls h n n → W p l e room_1 s m #[Value.ref b] below meth c H locs (ce + 1) (sl + 6) Q (F0 m 1270 ls [])) : W p l e room_1 s m #[Value.ref b] below meth c H locs ce sl Q (F0 m 970 ls []) :=
  law_pp2 X hi hce hsl S ht fin law_ck26 rfl rfl (by decide +kernel) (by decide +kernel) (fun I => lw_pp (lq_170 I ht (lw_ti _)))
theorem law_ck27 : ae_bp 995 [] 146 149 996 1001 1001 265 = true := by decide +kernel
theorem law_op27 (X : lw_C p l s m meth c D kA b L xs) (hi : i + 6 ≤ L) (hce : ce + 1 ≤ 601024) (hsl : sl + 6 ≤ 7293034) (S : lw_S s D kA b x0 m0 o0 i tq ws H locs ls h n n) (ht : 0 ≤ tq ∧ tq ≤ 600) (fin : ∀ ws H locs ls h n, lw_S s D kA b x0 m0 o0 i (tq + 1) ws H locs ls h n n → W p l e room_1 s m #[Value.ref b] below meth c H locs (ce + 1) (sl + 6) Q (F0 m 1270 ls [])) : W p l e room_1 s m #[Value.ref b] below meth c H locs ce sl Q (F0 m 995 ls []) :=
  law_pp2 X hi hce hsl S ht fin law_ck27 rfl rfl (by decide +kernel) (by decide +kernel) (fun I => lw_pp (lq_171 I ht))
theorem law_ck28 : ae_bp 1008 [1] 150 153 1015 1020 1026 240 = true := by decide +kernel
theorem law_op28 (X : lw_C p l s m meth c D kA b L xs) (hi : i + 6 ≤ L) (hce : ce + 1 ≤ 601024) (hsl : sl + 6 ≤ 7293034) (S : lw_S s D kA b x0 m0 o0 i tq ws H locs ls h n n) (ht : 0 ≤ tq ∧ tq ≤ 600) (fin : ∀ ws H locs ls h n, lw_S s D kA b x0 m0 o0 i (tq + 1) ws H locs ls h n n → W p l e room_1 s m #[Value.ref b] below meth c H locs (ce + 1) (sl + 6) Q (F0 m 1270 ls [])) : W p l e room_1 s m #[Value.ref b] below meth c H locs ce sl Q (F0 m 1008 ls []) :=
  law_pp2 X hi hce hsl S ht fin law_ck28 rfl rfl (by decide +kernel) (by decide +kernel) (fun I => lw_pp (lq_172 I ht (lw_ti _)))
theorem law_ck29 : ae_bp 1033 [1] 154 157 1040 1045 1051 215 = true := by decide +kernel
theorem law_op29 (X : lw_C p l s m meth c D kA b L xs) (hi : i + 6 ≤ L) (hce : ce + 1 ≤ 601024) (hsl : sl + 6 ≤ 7293034) (S : lw_S s D kA b x0 m0 o0 i tq ws H locs ls h n n) (ht : 0 ≤ tq ∧ tq ≤ 600) (fin : ∀ ws H locs ls h n, lw_S s D kA b x0 m0 o0 i (tq + 1) ws H locs ls h n n → W p l e room_1 s m #[Value.ref b] below meth c H locs (ce + 1) (sl + 6) Q (F0 m 1270 ls [])) : W p l e room_1 s m #[Value.ref b] below meth c H locs ce sl Q (F0 m 1033 ls []) :=
  law_pp2 X hi hce hsl S ht fin law_ck29 rfl rfl (by decide +kernel) (by decide +kernel) (fun I => lw_pp (lq_173 I ht (lw_ti _)))
theorem law_ck30 : ae_bp 1058 [1] 158 161 1065 1070 1076 190 = true := by decide +kernel
theorem law_op30 (X : lw_C p l s m meth c D kA b L xs) (hi : i + 6 ≤ L) (hce : ce + 1 ≤ 601024) (hsl : sl + 6 ≤ 7293034) (S : lw_S s D kA b x0 m0 o0 i tq ws H locs ls h n n) (ht : 0 ≤ tq ∧ tq ≤ 600) (fin : ∀ ws H locs ls h n, lw_S s D kA b x0 m0 o0 i (tq + 1) ws H locs ls h n n → W p l e room_1 s m #[Value.ref b] below meth c H locs (ce + 1) (sl + 6) Q (F0 m 1270 ls [])) : W p l e room_1 s m #[Value.ref b] below meth c H locs ce sl Q (F0 m 1058 ls []) :=
  law_pp2 X hi hce hsl S ht fin law_ck30 rfl rfl (by decide +kernel) (by decide +kernel) (fun I => lq_174 I ht (lw_ti _))
theorem law_ck31 : ae_bp 1083 [1, 2] 162 165 1096 1101 1113 153 = true := by decide +kernel
theorem law_op31 (X : lw_C p l s m meth c D kA b L xs) (hi : i + 6 ≤ L) (hce : ce + 1 ≤ 601024) (hsl : sl + 6 ≤ 7293034) (S : lw_S s D kA b x0 m0 o0 i tq ws H locs ls h n n) (ht : 0 ≤ tq ∧ tq ≤ 600) (fin : ∀ ws H locs ls h n, lw_S s D kA b x0 m0 o0 i (tq + 1) ws H locs ls h n n → W p l e room_1 s m #[Value.ref b] below meth c H locs (ce + 1) (sl + 6) Q (F0 m 1270 ls [])) : W p l e room_1 s m #[Value.ref b] below meth c H locs ce sl Q (F0 m 1083 ls []) :=
  law_pp2 X hi hce hsl S ht fin law_ck31 rfl rfl (by decide +kernel) (by decide +kernel) (fun I => lq_175 I ht (lw_ti _) (lw_ti _))
theorem law_ck32 : ae_bp 1120 [1] 166 169 1127 1132 1138 128 = true := by decide +kernel
theorem law_op32 (X : lw_C p l s m meth c D kA b L xs) (hi : i + 6 ≤ L) (hce : ce + 1 ≤ 601024) (hsl : sl + 6 ≤ 7293034) (S : lw_S s D kA b x0 m0 o0 i tq ws H locs ls h n n) (ht : 0 ≤ tq ∧ tq ≤ 600) (fin : ∀ ws H locs ls h n, lw_S s D kA b x0 m0 o0 i (tq + 1) ws H locs ls h n n → W p l e room_1 s m #[Value.ref b] below meth c H locs (ce + 1) (sl + 6) Q (F0 m 1270 ls [])) : W p l e room_1 s m #[Value.ref b] below meth c H locs ce sl Q (F0 m 1120 ls []) :=
  law_pp2 X hi hce hsl S ht fin law_ck32 rfl rfl (by decide +kernel) (by decide +kernel) (fun I => lw_pp (lq_176 I ht (lw_ti _)))
theorem law_ck33 : ae_bp 1145 [1] 170 173 1152 1157 1163 103 = true := by decide +kernel
theorem law_op33 (X : lw_C p l s m meth c D kA b L xs) (hi : i + 6 ≤ L) (hce : ce + 1 ≤ 601024) (hsl : sl + 6 ≤ 7293034) (S : lw_S s D kA b x0 m0 o0 i tq ws H locs ls h n n) (ht : 0 ≤ tq ∧ tq ≤ 600) (fin : ∀ ws H locs ls h n, lw_S s D kA b x0 m0 o0 i (tq + 1) ws H locs ls h n n → W p l e room_1 s m #[Value.ref b] below meth c H locs (ce + 1) (sl + 6) Q (F0 m 1270 ls [])) : W p l e room_1 s m #[Value.ref b] below meth c H locs ce sl Q (F0 m 1145 ls []) :=
  law_pp2 X hi hce hsl S ht fin law_ck33 rfl rfl (by decide +kernel) (by decide +kernel) (fun I => lw_pp (lq_177 I ht (lw_ti _)))
theorem law_ck34 : ae_bp 1170 [1, 2] 174 177 1183 1188 1200 66 = true := by decide +kernel
theorem law_op34 (X : lw_C p l s m meth c D kA b L xs) (hi : i + 6 ≤ L) (hce : ce + 1 ≤ 601024) (hsl : sl + 6 ≤ 7293034) (S : lw_S s D kA b x0 m0 o0 i tq ws H locs ls h n n) (ht : 0 ≤ tq ∧ tq ≤ 600) (fin : ∀ ws H locs ls h n, lw_S s D kA b x0 m0 o0 i (tq + 1) ws H locs ls h n n → W p l e room_1 s m #[Value.ref b] below meth c H locs (ce + 1) (sl + 6) Q (F0 m 1270 ls [])) : W p l e room_1 s m #[Value.ref b] below meth c H locs ce sl Q (F0 m 1170 ls []) :=
  law_pp2 X hi hce hsl S ht fin law_ck34 rfl rfl (by decide +kernel) (by decide +kernel) (fun I => lq_178 I ht (lw_ti _) (lw_ti _))
theorem law_ck35 : ae_bp 1207 [] 178 181 1208 1213 1213 53 = true := by decide +kernel
theorem law_op35 (X : lw_C p l s m meth c D kA b L xs) (hi : i + 6 ≤ L) (hce : ce + 1 ≤ 601024) (hsl : sl + 6 ≤ 7293034) (S : lw_S s D kA b x0 m0 o0 i tq ws H locs ls h n n) (ht : 0 ≤ tq ∧ tq ≤ 600) (fin : ∀ ws H locs ls h n, lw_S s D kA b x0 m0 o0 i (tq + 1) ws H locs ls h n n → W p l e room_1 s m #[Value.ref b] below meth c H locs (ce + 1) (sl + 6) Q (F0 m 1270 ls [])) : W p l e room_1 s m #[Value.ref b] below meth c H locs ce sl Q (F0 m 1207 ls []) :=
  law_pp2 X hi hce hsl S ht fin law_ck35 rfl rfl (by decide +kernel) (by decide +kernel) (fun I => lq_179 I ht)
theorem law_ck36 : ae_bp 1220 [1] 182 185 1227 1232 1238 28 = true := by decide +kernel
theorem law_op36 (X : lw_C p l s m meth c D kA b L xs) (hi : i + 6 ≤ L) (hce : ce + 1 ≤ 601024) (hsl : sl + 6 ≤ 7293034) (S : lw_S s D kA b x0 m0 o0 i tq ws H locs ls h n n) (ht : 0 ≤ tq ∧ tq ≤ 600) (fin : ∀ ws H locs ls h n, lw_S s D kA b x0 m0 o0 i (tq + 1) ws H locs ls h n n → W p l e room_1 s m #[Value.ref b] below meth c H locs (ce + 1) (sl + 6) Q (F0 m 1270 ls [])) : W p l e room_1 s m #[Value.ref b] below meth c H locs ce sl Q (F0 m 1220 ls []) :=
  law_pp2 X hi hce hsl S ht fin law_ck36 rfl rfl (by decide +kernel) (by decide +kernel) (fun I => lq_180 I ht (lw_ti _))
theorem law_ck37 : ae_bp 1245 [1] 186 189 1252 1257 1263 3 = true := by decide +kernel
theorem law_op37 (X : lw_C p l s m meth c D kA b L xs) (hi : i + 6 ≤ L) (hce : ce + 1 ≤ 601024) (hsl : sl + 6 ≤ 7293034) (S : lw_S s D kA b x0 m0 o0 i tq ws H locs ls h n n) (ht : 0 ≤ tq ∧ tq ≤ 600) (fin : ∀ ws H locs ls h n, lw_S s D kA b x0 m0 o0 i (tq + 1) ws H locs ls h n n → W p l e room_1 s m #[Value.ref b] below meth c H locs (ce + 1) (sl + 6) Q (F0 m 1270 ls [])) : W p l e room_1 s m #[Value.ref b] below meth c H locs ce sl Q (F0 m 1245 ls []) :=
  law_pp2 X hi hce hsl S ht fin law_ck37 rfl rfl (by decide +kernel) (by decide +kernel) (fun I => lw_pp (lq_181 I ht (lw_ti _)))
end
