/-! THE THROWER WHOSE ANSWER IS COMPARED: what it throws at and what it answers -/
theorem tx_R {h : ae_H} {k t len A : Nat} {i : Int} (hg : ae_hg h k = some (.inl (t, len, .inl A))) (ht : Nat.beq t 3 = false) (i0 : 0 ≤ i) : dc_m h k i = wk_R h k i := by
  unfold dc_m
  rw [if_neg (by omega), hg, wk_R_of hg]
  show cond (Nat.beq t 3) ((ae_rd 64 A i.toNat : Nat) : Int) (sv_g (ae_rd 32 A i.toNat)) = _
  rw [ht]
  rfl
theorem lg_cmp_rf (a : Int64) : lg_cmp a a = 0 := by
  unfold lg_cmp
  have h : ¬ (a > a) := fun z => by
    have := Int64.lt_iff_toInt_lt.mp z
    omega
  rw [if_neg h, if_pos rfl]
theorem vp_u0 {f : Nat → Int64} {x : Int64} : vp_updL f (Int32.toNatClampNeg 0) x 0 = x := if_pos (by decide +kernel)
def tr_10 (x1 x2 : Int) (o : Option Int) (h : ae_H) : Prop := match o with
  | none => ¬ ((0 ≤ x1 ∧ x1 < (if 60 < dc_m h 12 1 then 60 else dc_m h 12 1)) ∧ 1 ≤ x2 ∧ x2 ≤ 12)
  | some x => sv_I x ∧ D_154 x1 x2 (dc_m h) x (dc_m h)
theorem tw_10R {tq : Int} {h : ae_H} {n m : Int} (I : lw_I tq h n m) {x1 : Int} (h1 : sv_I x1) {x2 : Int} (h2 : sv_I x2) {G : Nat → ae_L → List ae_V → ae_H → Prop} (hG : wt_cl ae_Mc10 G) (gs : ∀ lv h2, lw_I tq h2 n m → tr_10 x1 x2 none h2 → G 15 lv [] h2) (gr : ∀ pc lv h2 x, decode ae_Mc10.2.2.1 pc = .ok (.ireturn, 1) → lw_I tq h2 n m → tr_10 x1 x2 (some x) h2 → G pc lv [wk_i x] h2) : G 0 (ae_args [wk_r 0, wk_i x1, wk_i x2] 0) [] h := by
  have fl_h : wk_F h 0 2 = some (wk_r 11) := dc_fr (j := 2) I.2.1 (rfl : sv_ty 0 = some 11) dt_11 rfl
  have fb_h : wk_F h 11 0 = some (wk_r 12) := dc_fr (j := 0) I.2.1 (rfl : sv_ty 11 = some 5) dt_5 rfl
  refine wt_aload_n hG wv_10_0 rfl ?_
  refine wt_getf hG wv_10_1 (by decide +kernel) I.1.1 wz_ty0 tT_11 fl_h ?_
  refine wt_getf hG wv_10_4 (by decide +kernel) I.1.1 (rfl : sv_ty 11 = some 5) tT_5 fb_h ?_
  refine wt_iload_n hG wv_10_7 rfl ?_
  refine wt_iload_n hG wv_10_8 rfl ?_
  refine wt_call (Or.inr ⟨rfl, rfl⟩) hG wv_10_9 (by decide +kernel) wm_95 (by decide +kernel) rfl rfl (wk_rcv I.1.1 (rfl : sv_ty 12 = some 7) tT_7) ?_
  refine sv_G_mono (fun r hr => ?_) (lx_run (lt_95 I.1.1 (rfl : sv_ty 12 = some 7) h1 h2))
  obtain ⟨r1, ha⟩ := r
  obtain ⟨⟨T2, -⟩, n1, e1⟩ := hr
  obtain ⟨v1, d1, w1, i1, -⟩ := ds_95 n1 12 x1 x2 I.2.1 rfl h1 h2 e1
  clear e1
  replace d1 : D_95 12 x1 x2 (dc_m h) v1 (dc_m ha) := d1
  obtain ⟨m1, q1⟩ := cs_95 d1
  rw [m1] at d1
  have I2 : lw_I tq ha n m := lw_t I T2
  have w1 : r1 = some (wk_i v1) := w1
  subst w1
  refine wt_if 23 hG wv_10_12 (by decide) i1 (fun c => ?_) (fun c => ?_)
  · have c : v1 ≠ 0 := c
    rcases q1 with ⟨-, b⟩ | ⟨z, -⟩
    · have hx : x1 < 60 := by
        have := b.1.2
        split at this <;> omega
      have fl_ha : wk_F ha 0 2 = some (wk_r 11) := dc_fr (j := 2) I2.2.1 (rfl : sv_ty 0 = some 11) dt_11 rfl
      have fb_ha : wk_F ha 11 0 = some (wk_r 12) := dc_fr (j := 0) I2.2.1 (rfl : sv_ty 11 = some 5) dt_5 rfl
      refine wt_aload_n hG wv_10_23 rfl ?_
      refine wt_getf hG wv_10_24 (by decide +kernel) I2.1.1 wz_ty0 tT_11 fl_ha ?_
      refine wt_getf hG wv_10_27 (by decide +kernel) I2.1.1 (rfl : sv_ty 11 = some 5) tT_5 fb_ha ?_
      refine wt_iload_n hG wv_10_30 rfl ?_
      refine wt_iload_n hG wv_10_31 rfl ?_
      refine wt_call (Or.inr ⟨rfl, rfl⟩) hG wv_10_32 (by decide +kernel) wm_96 (by decide +kernel) rfl rfl (wk_rcv I2.1.1 (rfl : sv_ty 12 = some 7) tT_7) ?_
      refine sv_G_mono (fun r hr => ?_) (lx_run (lt_96 I2.1.1 (rfl : sv_ty 12 = some 7) h1 ⟨b.1.1, by omega⟩ h2 b.2))
      obtain ⟨r1, h9⟩ := r
      obtain ⟨⟨T3, -⟩, n2, e2⟩ := hr
      obtain ⟨v2, d2, w2, i2, -⟩ := ds_96 n2 12 x1 x2 I2.2.1 rfl h1 h2 e2
      clear e2
      replace d2 : D_96 12 x1 x2 (dc_m ha) v2 (dc_m h9) := d2
      rw [m1] at d2
      have m2 : dc_m h9 = dc_m h := d2.2.2
      rw [m2] at d2
      have w2 : r1 = some (wk_i v2) := w2
      subst w2
      refine gr _ _ _ _ wv_10_35 (lw_t I2 T3) ⟨i2, ?_⟩
      rw [m2]
      exact ⟨v1, dc_m h, d1, Or.inl ⟨c, v2, dc_m h, d2, rfl, rfl⟩⟩
    · exact absurd z c
  · have c : ¬ (v1 ≠ 0) := c
    rcases q1 with ⟨z, -⟩ | ⟨-, no⟩
    · exact absurd (show v1 ≠ 0 by omega) c
    · refine gs _ _ I2 ?_
      show ¬ ((0 ≤ x1 ∧ x1 < (if 60 < dc_m ha 12 1 then 60 else dc_m ha 12 1)) ∧ 1 ≤ x2 ∧ x2 ≤ 12)
      rw [m1]
      exact no
theorem tq_10 {t : Int} {a c : dc_M} (P : lx_P t a) {x y v' : Int} (h' : D_227 x y a v' c) (no : ¬ ((0 ≤ x ∧ x < (if 60 < a 12 1 then 60 else a 12 1)) ∧ 1 ≤ y ∧ y ≤ 12)) : c 114 0 = 1 := by
  rcases P.2.2.2.2.1 with ⟨u1, u2, u3⟩ | ⟨u1, u2, F, g1, g2, g3, -⟩
  · rcases h' with ⟨c1, v2, m2, h2, h⟩ | ⟨c1, -⟩
    · rcases (rs_T.no (P := False) (w := 0) (fun z => z) h2 h).2 with ⟨z, -⟩ | ⟨-, e⟩
      · exact z.elim
      · exact e
    · exact absurd u2 c1
  · have e1 : a 131 1 = F 0 1 := g2.2.1
    have e2 : a 12 1 = F 0 1 := g1.1
    obtain ⟨-, q⟩ := rs_227 (by rw [e1]; exact g3) h'
    rcases q with ⟨⟨-, y1, y2⟩, -⟩ | ⟨-, e⟩
    · exfalso
      apply no
      rw [e2, if_neg (by omega)]
      rw [e1] at y1
      exact ⟨y1, y2⟩
    · exact e
theorem lt_227R {t : Int} {h : ae_H} {n m : Int} (I : lw_I t h n m) {x1 : Int} (h1 : sv_I x1) {x2 : Int} (h2 : sv_I x2) : sv_G (fun r => ∃ x, r.1 = some (wk_i x) ∧ D_227 x1 x2 (dc_m h) x (dc_m r.2) ∧ lw_I (t + 1) r.2 n m) 227 0 (ae_args [wk_r 114, wk_i x1, wk_i x2] 0) [] h := by
  refine sv_G_mono (fun r hr => ?_) (lx_run (lr_227 I.1 h1 h2))
  obtain ⟨⟨hx, T2⟩, nn, hrun⟩ := hr
  obtain ⟨v2, hD2, ev2, -, ok2⟩ := ds_227 nn x1 x2 I.2.1 h1 h2 hrun
  have g := fq_227 hD2
  exact ⟨v2, ev2, hD2, T2, ok2, I.2.2.qu (fun k i z => g k i (dj_lg_all_fq_t z))⟩
/-- did the reference throw at the last call -/
theorem xm_th : ae_m 286 = some (wk_M 286) := rfl
theorem xd_th_0 : decode (wk_M 286).2.2.1 0 = .ok (.aload_n 0, 1) := zd_by (by decide +kernel)
theorem xd_th_1 : decode (wk_M 286).2.2.1 1 = .ok (.getfield 190, 3) := zd_by (by decide +kernel)
theorem xd_th_4 : decode (wk_M 286).2.2.1 4 = .ok (.ireturn, 1) := zd_by (by decide +kernel)
theorem tw_th {t : Int} {h : ae_H} {n m : Int} (I : lw_I t h n m) : sv_G (fun r => r.1 = some (wk_i (dc_m h 114 0)) ∧ r.2 = h) 286 0 (ae_args [wk_r 114] 0) [] h := by
  have f : wk_F h 114 0 = some (wk_i (dc_m h 114 0)) ∧ sv_I (dc_m h 114 0) := dc_fi (j := 0) I.2.1 lp_tyR dt_12 rfl
  refine wk_aload_n xm_th xd_th_0 rfl ?_
  refine wk_getf xm_th xd_th_1 (by decide +kernel) I.1.1 lp_tyR tT_12 f.1 ?_
  exact wk_ireturn xm_th xd_th_4 rfl ⟨rfl, rfl⟩
/-- what a thrower leaves, and what it answers -/
def lt_QR (D : va_G) (kA : Nat → ClassId) (A : Nat → Prop) (pre : Nat → Option Nat) (tq n m : Int) (RR : Option Int → ae_H → Prop) : Array Value → State → Outcome → State → Prop := va_Qi (S := va_W × ae_H) (fun z u => lt_px tq n m kA pre u ∧ ∃ x, z = nI (sv_u x) ∧ RR (some x) u.2) (fun u t => va_P D ae_cl u.1 t.heap ∧ va_D A u.1) A
def lt_XR (D : va_G) (kA : Nat → ClassId) (A : Nat → Prop) (pre : Nat → Option Nat) (tq n m : Int) (RR : Option Int → ae_H → Prop) : String → State → State → Prop := vx_X (S := va_W × ae_H) (fun u => lt_px tq n m kA pre u ∧ RR none u.2) (fun E u t => E = ae_nse ∧ va_P D ae_cl u.1 t.heap ∧ va_D A u.1) A
section
variable {tq : Int} {p : Program} {l : Launch} {e : Env} {s : State} {m : MethodId} {args : Array Value} {below : List Frame} {meth : Method} {c : Code} {D : va_G} {kA : Nat → ClassId} {A : Nat → Prop} {pre : Nat → Option Nat} {M : ae_M} {n n2 : Int} {h : ae_H}
theorem lt_throwAtR {tq : Int} {RR : Option Int → ae_H → Prop} {Qc : Array Value → State → Outcome → State → Prop} (X : ae_Cx p s m args meth c D kA A M) (I : lw_I tq h n n2) (hRR : RR none h) (hown : ae_on M.1 = RX11) (htr : l.stackTraces = false) (hT : ae_TT A s s.heap) (hout : ∀ x ∈ c.exceptionTable.toList, False) {stop : Nat} (d0 : decode M.2.2.1 stop = .ok (.new 122, 3)) (d3 : decode M.2.2.1 (stop + 3) = .ok (.dup, 1)) (d4 : decode M.2.2.1 (stop + 4) = .ok (.invokespecial 124, 3)) (d7 : decode M.2.2.1 (stop + 7) = .ok (.athrow, 1)) (hf : 5 < M.2.2.2.2.2.2.2.1) (hlo : 81 ≤ M.2.2.2.2.2.2.2.2.1) (hmc : M.2.2.2.2.2.2.2.2.2.1 = 1) (hms : M.2.2.2.2.2.2.2.2.2.2 = 6) (lv : ae_L) :
    ae_At p l e (ae_room M) s m args below meth c (vx_MQ below Qc (lt_XR D kA A pre tq n n2 RR) args s 1 6 A) D kA A pre M.2.2.2.1 stop 0 0 lv [] h := by
  obtain ⟨hx, hb, hml, hown2, hts, hKK, hA, hin, hrt, hlocks, hEX⟩ := X
  intro ws H locs ls lvC stC hl hlr hsr hhr hpx hP hD hS
  rw [show stC = [] from hsr]
  rw [hown] at hown2
  have gt : ∀ {w : Jvm.Cond}, w ∈ lw_tbl → goodWord w = true → w.before args s = true := fun q g => hts _ (ae_gw_in q g)
  have hat : ∀ w ∈ vx_at0 RX11 124 ae_nse ae_nms, w.before args s = true := vx_hat (fun w hw => gt (ae_vg_t w hw) (List.mem_filter.mp hw).2) (fun w hw => hw) (fun w hw => va_Nw.use (by
    have h2 : ae_isc w = true := List.all_eq_true.mp ae_vn_c w hw
    cases w <;> first | rfl | cases h2) (hT.2.2 w hw))
  exact vx_throw0 (own := RX11) (cls := ae_nse) (names := ae_nms) (ik := 122) (ic := 124) (A := A) hx hb htr hown2 (by decide +kernel) (by decide +kernel) (gt ae_wcl rfl) (gt ae_wini rfl) hat (fun w hw => List.all_eq_true.mp ae_vg_o w hw) hT.1 hT.2.1 hS (hl.1.trans hml.symm) d0 d3 d4 d7 (fun x hx => (hout x hx).elim) hf (by show 0 + 81 ≤ M.2.2.2.2.2.2.2.2.1; omega) (by show 0 + 1 ≤ M.2.2.2.2.2.2.2.2.2.1; omega) (by show 0 + 6 ≤ M.2.2.2.2.2.2.2.2.2.2; omega) hlocks (fun t hvm hsz hk => ⟨(ws, h), ⟨⟨I, hhr, hpx⟩, hRR⟩, ⟨rfl, hP.kept (fun k q hq => hk q.1 (hP k q hq).lt), hD⟩, ⟨Nat.le_trans hS.1 hsz, fun q h1 h2 => (hk q (Nat.lt_of_lt_of_le h1 hS.1)).trans (hS.2.1 q h1 h2)⟩⟩) hS.2.2 (by omega) (by omega)
theorem lt_retAtR {tq : Int} {RR : Option Int → ae_H → Prop} {XC : String → State → State → Prop} (X : ae_Cx p s m args meth c D kA A M) (I : lw_I tq h n n2) (hret : M.2.2.2.2.1 = some .int) {pc : Nat} {x : Int} (hRR : RR (some x) h) (hd : decode M.2.2.1 pc = .ok (.ireturn, 1)) (lv : ae_L) :
    ae_At p l e (ae_room M) s m args below meth c (vx_MQ below (lt_QR D kA A pre tq n n2 RR) XC args s 1 6 A) D kA A pre M.2.2.2.1 pc 0 0 lv [wk_i x] h := by
  obtain ⟨hx, hb, hml, hown2, hts, hKK, hA, hin, hrt, hlocks, hEX⟩ := X
  intro ws H locs ls lvC stC hl hlr hsr hhr hpx hP hD hS
  obtain ⟨y, ys, rfl, ⟨z, rfl, hz⟩, hys⟩ := hsr
  rw [show ys = [] from hys]
  refine W.widen (k := 1) (n := 6) (by omega) (by omega) (vx_ret ?_)
  exact W.iret hx hb (hrt.trans hret) (fun t ht hW => ⟨⟨z, (ws, h), rfl, ⟨⟨I, hhr, hpx⟩, x, hz.1, hRR⟩, by rw [ht]; exact hP, hD⟩, hS.F ht⟩) hS.2.2 hd hlocks
end
theorem lt_thrR {tq : Int} {RR : Option Int → ae_H → Prop} {l : Launch} (htr : l.stackTraces = false) {D : va_G} {kA : Nat → ClassId} {M : ae_M} (hown : M.1 = 11) (hcls : M.2.1.cls = RX11) (hpl : plainName M.2.1.cls = true) (hkd : M.2.2.2.2.2.1 = 1) (hret : M.2.2.2.2.1 = some .int) {stop : Nat} {as : List ae_V} {h : ae_H} {n m2 : Int} (walk : ∀ (G : Nat → ae_L → List ae_V → ae_H → Prop), wt_cl M G → (∀ lv h2, lw_I tq h2 n m2 → RR none h2 → G stop lv [] h2) → (∀ pc lv h2 x, decode M.2.2.1 pc = .ok (.ireturn, 1) → lw_I tq h2 n m2 → RR (some x) h2 → G pc lv [wk_i x] h2) → G 0 (ae_args as 0) [] h) (d0 : decode M.2.2.1 stop = .ok (.new 122, 3)) (d3 : decode M.2.2.1 (stop + 3) = .ok (.dup, 1)) (d4 : decode M.2.2.1 (stop + 4) = .ok (.invokespecial 124, 3)) (d7 : decode M.2.2.1 (stop + 7) = .ok (.athrow, 1)) (hf : 5 < M.2.2.2.2.2.2.2.1) (hlo : 81 ≤ M.2.2.2.2.2.2.2.2.1) (hmc : M.2.2.2.2.2.2.2.2.2.1 = 1) (hms : M.2.2.2.2.2.2.2.2.2.2 = 6)
    {ws : va_W} {asC : List Value} {sz : Nat} (hsr : ae_sr (ae_ad kA ws) as asC) (hhr : ae_hr kA ws h) (hcat : ae_catS as ≤ M.2.2.2.1) :
    vx_Met l M.2.1 (ae_ws M) (ae_room M) (va_Pc asC (ae_BX D kA ws sz)) (lt_QR D kA (va_A ws sz) (ae_ad kA ws) tq n m2 RR) (lt_XR D kA (va_A ws sz) (ae_ad kA ws) tq n m2 RR) 1 6 (va_A ws sz) := by
  refine vx_ofW (cc := M.2.2.1) (maxL := M.2.2.2.1) (ret := M.2.2.2.2.1) (ws' := ae_gw) hpl rfl ?_
  intro p e s m args below meth c s₁ B hml hout hv
  obtain ⟨rfl, ⟨hsz, hP, hD0, hKK, hEX⟩, hT⟩ := hv
  have hts := atoms_spec (ws := ae_ws M) B.pre
  have hown9 : s.vm.findClass M.2.1.cls = some m.cls := findClass_of_methodNamed B.named
  have eon : ae_on M.1 = RX11 := by rw [hown]; rfl
  rw [hcls] at hown9
  subst hsz
  have hD := hD0.self (sz := s.heap.size)
  have X : ae_Cx p s m asC.toArray meth c D kA (va_A ws s.heap.size) M := ⟨B.exec, B.bytes, hml, by rw [eon]; exact hown9, fun w hw => hts w (List.mem_cons_of_mem _ hw), hKK, fun q hq => Or.inr hq, fun hk => absurd (hkd.symm.trans hk) (by decide), B.returns, B.notSynchronized, hEX⟩
  have hl := lv_entry asC (n := M.2.2.2.1) (by rw [ae_sl_len hsr]; exact hcat)
  rw [lg_entry_eq]
  exact walk _ (wt_at X (by rw [hret]; exact fun z => by cases z)) (fun lv h2 I2 q2 => lt_throwAtR X I2 q2 eon htr hT hout d0 d3 d4 d7 hf hlo hmc hms lv) (fun pc lv h2 x hd I2 q2 => lt_retAtR X I2 hret q2 hd lv) ws s.heap [] _ _ _ hl (ae_lr_args hsr 0) rfl hhr ae_px.rf hP hD va_S.rf
def lh_QR (D : va_G) (kA : Nat → ClassId) (A : Nat → Prop) (pre : Nat → Option Nat) (tq n m : Int) (o0 : Nat) (RR : Option Int → ae_H → Prop) : Array Value → State → Outcome → State → Prop := fun _ st oc t => ∃ (y : Int32) (ws1 : va_W) (h1 : ae_H) (f1 : Nat → Int64), oc = .returned (some (.int y)) ∧ lw_I tq h1 n m ∧ ae_hr kA ws1 h1 ∧ ae_px pre (ae_ad kA ws1) ∧ va_P D ae_cl (ws1 ++ [lh_o kA o0 f1]) t.heap ∧ va_D A (ws1 ++ [lh_o kA o0 f1]) ∧ va_F A st t ∧ ((y = nI 1 ∧ RR none h1) ∨ (y = nI 0 ∧ ∃ x, f1 0 = (nI (sv_u x)).toInt64 ∧ RR (some x) h1))
set_option maxRecDepth 100000 in
theorem lh_10R {tq : Int} {l : Launch} (htr : l.stackTraces = false) {D : va_G} {kA : Nat → ClassId} {X1 X2 : Int32} {ws : va_W} {sz x0 o0 : Nat} {h : ae_H} {n n2 : Int} {f0 : Nat → Int64} (I : lw_I tq h n n2) (hx0 : ae_ad kA ws 0 = some x0) (hhr : ae_hr kA ws h) :
    Met l yL_bar ae_wh10 ({ frames := 9, cells := 1, slots := 6, locals := 240 }) (va_Pc [.ref x0, .int X1, .int X2, .ref o0] (ae_BX D kA (ws ++ [lh_o kA o0 f0]) sz)) (lh_QR D kA (va_A (ws ++ [lh_o kA o0 f0]) sz) (ae_ad kA ws) tq n n2 o0 (tr_10 X1.toInt X2.toInt)) 1 6 (va_A (ws ++ [lh_o kA o0 f0]) sz) := by
  refine va_MetW (hh := [(0, 10, 13, 13)]) (cc := cL_bar) (maxL := 5) (ret := some .int) (ws' := ae_gw) (by decide +kernel) rfl ?_
  intro p e s m args below meth c s₁ B hml hv
  obtain ⟨rfl, ⟨hsz, hPo, hD0, hKK, hEX⟩, hT⟩ := hv
  have hx := B.exec
  have hb := B.bytes
  have hr := B.returns
  have hts0 := atoms_spec (ws := ae_wh10) B.pre
  have hts : ∀ w ∈ ae_gw, w.before _ s = true := fun w hw => hts0 w (List.mem_cons_of_mem _ hw)
  have hown : s.vm.findClass RL = some m.cls := findClass_of_methodNamed B.named
  have htab : c.exceptionTable.toList = tableOf [(0, 10, 13, 13)] := vx_table (x := yL_bar) B (hts0 _ List.mem_cons_self)
  have hlocks := B.notSynchronized
  subst hsz
  have hDo := hD0.self (sz := s.heap.size)
  have hP := lo_Pl hPo
  have hD := lo_Dl hDo
  have hsub : ∀ q, va_A ws s.heap.size q → va_A (ws ++ [lh_o kA o0 f0]) s.heap.size q := lo_sub
  have hS : va_S (va_A (ws ++ [lh_o kA o0 f0]) s.heap.size) s.heap s.heap [] := va_S.rf
  have hl := lv_entry ([.ref x0, .int X1, .int X2, .ref o0]) (n := 5) (Nat.le_of_ble_eq_true rfl)
  rw [lg_entry_eq]
  generalize (lg_sl ([.ref x0, .int X1, .int X2, .ref o0]) ++ List.replicate (5 - (lg_sl ([.ref x0, .int X1, .int X2, .ref o0])).length) Slot.unset).toArray = ls at hl ⊢
  have hl : lv_has ls 5 [(0, .ref x0), (1, .int X1), (2, .int X2), (3, .ref o0)] := hl
  have gt : ∀ {w : Jvm.Cond}, w ∈ lw_tbl → goodWord w = true → w.before _ s = true := fun q g => hts _ (ae_gw_in q g)
  refine lv_aload_n (k := 3) hx hb (by decide +kernel) rfl (lv_at hl 3 rfl) ?_
  refine lv_iconst (n := 0) (v := 0) hx hb (by decide +kernel) (by decide) ?_
  refine lv_aload_n (k := 0) hx hb (by decide +kernel) rfl (lv_at hl 0 rfl) ?_
  refine lv_iload_n (k := 1) hx hb (by decide +kernel) rfl (lv_at hl 1 rfl) ?_
  refine lv_iload_n (k := 2) hx hb (by decide +kernel) rfl (lv_at hl 2 rfl) ?_
  obtain ⟨N, hN, a1, a2, -⟩ : ∃ N, ae_m 154 = some N ∧ N.2.1 = yX11_bar ∧ N.2.2.2.2.2.1 = 1 ∧ True := ⟨_, rfl, rfl, rfl, trivial⟩
  obtain ⟨n1, n2, n3, n4, n5, n6, n7, n8⟩ := ae_mf hN
  rw [a1] at n1 n3
  obtain ⟨i1, i2⟩ := n3 a2
  obtain ⟨fs0, hg0, -, -⟩ := sv_hk_o (ci := 0) I.1.1 wz_ty0 tT_11 rfl
  obtain ⟨x1, e1, hw0, fs', ee, hfs⟩ := hhr.2.2 0 (.inr (11, _)) hg0
  have hx1 : x0 = x1 := Option.some.inj (hx0.symm.trans (ae_ad_at hw0))
  subst hx1
  subst ee
  have hth := lt_thrR (RR := (tr_10 X1.toInt X2.toInt)) htr (D := D) (kA := kA) (M := ae_Mc10) rfl rfl (by decide +kernel) rfl rfl (fun G hG g1 g2 => tw_10R I (lw_ti X1) (lw_ti X2) hG g1 g2) wv_10_15 wv_10_18 wv_10_19 wv_10_22 (by decide) (by decide) rfl rfl (ws := ws) (asC := [.ref x0, .int X1, .int X2]) (sz := s.heap.size) (ae_sr_c ⟨x0, hx0, rfl⟩ (ae_sr_c (lw_vi _ X1) (ae_sr_c (lw_vi _ X2) rfl))) hhr (Nat.le_of_ble_eq_true rfl)
  have hcwM : ae_cwd ae_Mc10 ∈ ae_gw := ae_gw_in (show ae_cwd ae_Mc10 ∈ lw_tbl from ae_w154) rfl
  have hlnk : Jvm.Cond.methodLink RL 15 yX11_bar ∈ lw_tbl := by decide +kernel
  have hcl13 : Jvm.Cond.classLink RL 13 ae_nse ∈ lw_tbl := by decide +kernel
  refine vx_calli (A0 := va_A (ws ++ [lh_o kA o0 f0]) s.heap.size) (vx_runV (As := [.int X1, .int X2]) (rest := [.int 0, .ref o0]) (own := RL) (C := RX11) (Ts := ae_gw) (n := 2) ⟨hx, hb, hml, hown, hts⟩ hth ⟨callB_of (ws' := ae_gw) 2 hts (ae_good hcwM) rfl rfl rfl (hts _ n1) (gt hlnk rfl) ⟨by decide +kernel, by decide +kernel, by decide +kernel⟩ ⟨by decide, by decide⟩, hts _ i1, hts _ i2⟩ ⟨ae_blindX, va_recv hKK.1 hP (ci := 11) (q0 := 0) rfl hw0, fun U hU hW => ⟨rfl, ⟨by rw [hU], by rw [hU]; exact hP, hD.weaken (fun _ _ _ _ => trivial), hKK.moved hW, by rw [hU]; exact hEX.warm hW (fun _ _ _ => rfl) hsub⟩, by rw [hU]; exact (hT.kept (fun _ _ _ => rfl) hsub).moved hW⟩⟩ rfl rfl hl.1 rfl (lv_room (Nat.le_of_ble_eq_true rfl)) (by show decode cL_bar 5 = .ok (.invokevirtual 15, 3); decide +kernel) ⟨Nat.le_of_ble_eq_true rfl, Nat.le_of_ble_eq_true rfl⟩) hS (fun q _ h => hsub q h) (fun q h => hsub q h) (fun q _ h => hsub q h) (fun E ce q9 u t H1 locs1 ht hvm hpx hBX hszz hk hS1 hce hcv hcl => ?_) (fun r u t H1 locs1 ht hvm hpx hBX hszz hk hS1 => ?_)
  · obtain ⟨rfl, hP1, hD1⟩ := hBX
    obtain ⟨k1, k2⟩ := lo_kept hPo hDo (by rw [← ht]; exact hP1) hD1 hk hsub
    refine ae_catch (x := ⟨0, 10, 13, 13⟩) (own := RL) (name := ae_nse) (E := ae_nse) hown (by rw [htab]; rfl) (by decide) (by decide) (gt hcl13 rfl) (va_Nw.use rfl (hT.2.2 _ ae_vn_s)) hce hcv hcl ?_
    refine lv_astore (i := 4) hx hb (by decide +kernel) hl (by decide) rfl (fun ls2 hl2 => ?_)
    refine lv_iconst (n := 1) (v := nI 1) hx hb (by decide +kernel) (by decide +kernel) ?_
    exact W.iret hx hb hr (fun t2 ht2 hW2 => ⟨nI 1, u.1, u.2, f0, rfl, hpx.1.1, hpx.1.2.1, hpx.1.2.2, by rw [ht2]; exact k1, k2, hS1.F ht2, Or.inl ⟨rfl, hpx.2⟩⟩) hS1.2.2 (by decide +kernel) hlocks
  · obtain ⟨hP1, hD1⟩ := hBX
    obtain ⟨k1, k2⟩ := lo_kept hPo hDo (by rw [← ht]; exact hP1) hD1 hk hsub
    refine lv_i2l hx hb (by show decode cL_bar (5 + 3) = .ok (.i2l, 1); decide +kernel) rfl ?_
    refine va_last (a := o0) hx hb hKK.1 k1 k2 hS1 u.1.length 3 lo_last rfl (by unfold vp_in; decide +kernel) (by show decode cL_bar (5 + 3 + 1) = .ok (.lastore, 1); decide +kernel) (fun H2 locs2 hP2 hD2 hS2 => ?_)
    rw [lo_set] at hP2 hD2
    refine lv_goto (off := 7) (tgt := 17) hx hb (by show decode cL_bar (5 + 3 + 1 + 1) = .ok (.goto 7, 3); decide +kernel) (by decide) ?_
    refine lv_iconst (n := 0) (v := nI 0) hx hb (by decide +kernel) (by decide +kernel) ?_
    exact W.iret hx hb hr (fun t2 ht2 hW2 => ⟨nI 0, u.1, u.2, vp_updL f0 (Int32.toNatClampNeg 0) r.toInt64, rfl, hpx.1.1, hpx.1.2.1, hpx.1.2.2, by rw [ht2]; exact hP2, hD2, hS2.F ht2, Or.inr ⟨rfl, by
      obtain ⟨x, ex, hx⟩ := hpx.2
      exact ⟨x, by rw [vp_u0, ex], hx⟩⟩⟩) hS2.2.2 (by decide +kernel) hlocks
section
variable {tq : Int} {p : Program} {l : Launch} {e : Env} {s : State} {m : MethodId} {args : Array Value} {below : List Frame} {meth : Method} {c : Code} {Q : State → Prop} {D : va_G} {kA : Nat → ClassId} {A : Nat → Prop} {R : Room} {pc ce sl o0 : Nat} {n n2 : Int}
theorem lh_contR {tq : Int} {RR : Option Int → ae_H → Prop} {mc ms : Nat} {st0 rest : List Value} {A1 : Nat → Prop} {pre1 : Nat → Option Nat} {a : Array Value} {free : Addr → Prop} {H : Heap} {locs : List Loc} {ls : Array Slot} (hr : va_Run p l e R s m args below meth c H locs ce sl mc ms (F0 m pc ls st0) rest (lh_QR D kA A1 pre1 tq n n2 o0 RR a) free) (hS : va_S A s.heap H locs) (hA : ∀ q, A1 q → A q) (hf : ∀ q, free q → A q)
    (kk : ∀ (y : Int32) (ws : va_W) (h1 : ae_H) (f1 : Nat → Int64) (H1 : Heap) (locs1 : List Loc), lw_I tq h1 n n2 → ae_hr kA ws h1 → ae_px pre1 (ae_ad kA ws) → va_P D ae_cl (ws ++ [lh_o kA o0 f1]) H1 → va_D A (ws ++ [lh_o kA o0 f1]) → va_S A s.heap H1 locs1 → ((y = nI 1 ∧ RR none h1) ∨ (y = nI 0 ∧ ∃ x, f1 0 = (nI (sv_u x)).toInt64 ∧ RR (some x) h1)) → W p l e R s m args below meth c H1 locs1 (ce + mc) (sl + ms) Q (F0 m (pc + 3) ls (.int y :: rest))) : W p l e R s m args below meth c H locs ce sl Q (F0 m pc ls st0) := by
  intro T hT X
  obtain ⟨v, st₀, t, T', L, h0, X', hL, e1, e2, ⟨y, ws, h9, f1, hv, h1, h2, h3, h4, h5, ⟨hz, hk⟩, hRR⟩, st⟩ := hr T hT X
  cases hv
  rw [h0] at hz hk
  obtain ⟨t2, a1, b1⟩ := kk y ws h9 f1 T'.heap (locs ++ L) h1 h2 h3 (by rw [e1]; exact h4) (h5.weaken (fun _ q _ hq => hA q.1 hq))
    ⟨Nat.le_trans hS.1 (by rw [e1]; exact hz), fun q h1 h2 => by rw [e1, hk q (Nat.lt_of_lt_of_le h1 hS.1) (fun z => h2 (hA q z))]; exact hS.2.1 q h1 h2, fun q hq => by
      rcases List.mem_append.mp hq with h | h
      · exact hS.2.2 q h
      · exact hf _ (hL q h)⟩ hRR T' rfl X'
  exact ⟨t2, st t2 a1, b1⟩
end
