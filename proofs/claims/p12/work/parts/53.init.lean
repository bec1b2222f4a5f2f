/-! A STATE OUT OF A PATTERN -/
noncomputable def sv_bl (l : List (Int × Int)) : Nat → sv_B 9 → sv_B 9 := List.rec (motive := fun _ => Nat → sv_B 9 → sv_B 9) (fun _ t => t) (fun b _ ih k t => ih (Nat.succ k) (sv_bs 9 t k b)) l
theorem sv_bl_ok {ρ : Nat → Int} : ∀ (l : List (Int × Int)) (k : Nat) (t : sv_B 9), sv_bk ρ t → (∀ (j : Nat) (b : Int × Int), l[j]? = some b → b.1 ≤ ρ (k + j) ∧ ρ (k + j) ≤ b.2) → sv_bk ρ (sv_bl l k t)
  | [], k, t, ht, _ => ht
  | b :: l, k, t, ht, hb => by
    show sv_bk ρ (sv_bl l (k + 1) (sv_bs 9 t k b))
    obtain ⟨h1, h2⟩ := hb 0 b rfl
    refine sv_bl_ok l (k + 1) _ (sv_bg_set ht h1 h2) (fun j b2 hj => ?_)
    have := hb (j + 1) b2 (by simpa using hj)
    rw [show k + 1 + j = k + (j + 1) by omega]; exact this
noncomputable def sv_ini (P : sv_P) : sv_S := ((P.2.1.length, sv_bl P.2.1 0 (sv_b0 9), P.2.2.1, []), P.2.2.2.1, [], P.2.2.2.2.1, P.2.2.2.2.2.1, P.2.2.2.2.2.2)
/-- the bounds of a pattern lie within the longs, and it has not too many symbols -/
noncomputable def sx_pb (P : sv_P) : Bool := and (Nat.ble P.2.1.length 512) (sx_al (fun b => and (sv_nn (b.1 + 9223372036854775808)) (sv_nn (9223372036854775807 - b.2))) P.2.1)
def sv_per (N : Nat) (ρ : Nat → Int) (s : Nat) : Int := if s % 512 < N then ρ (s % 512) else 0
theorem sv_per_lt {N : Nat} (hN : N ≤ 512) (ρ : Nat → Int) : ∀ s, s < N → sv_per N ρ s = ρ s := fun s hs => by
  unfold sv_per
  rw [Nat.mod_eq_of_lt (by omega), if_pos hs]
theorem sv_b0_get : ∀ (n s : Nat), sv_bg n (sv_b0 n) s = (-9223372036854775808, 9223372036854775807)
  | 0, _ => rfl
  | n + 1, s => by
    show cond (Nat.ble (2 ^ n) (s % 2 ^ (n + 1))) (sv_bg n (sv_b0 n) s) (sv_bg n (sv_b0 n) s) = _
    cases Nat.ble (2 ^ n) (s % 2 ^ (n + 1)) <;> exact sv_b0_get n s
theorem sv_ini_ok {ty : Nat → Option Nat} {tt : List sv_T} {op : Nat → ae_H → Nat → Nat → Int → Int → Int → Int → Prop} {ρ ρ0 : Nat → Int} {n0 : Nat} {mods : List (Nat × Nat)} {h0 h : ae_H} {P : sv_P} {lv : ae_L} (hb : sx_pb P = true) (hP : sv_Pk ty op ρ P lv h) (hn : n0 ≤ P.2.1.length) (h00 : ∀ s, s < n0 → ρ s = ρ0 s) (ht : sv_Tk ty tt mods h0 h) : sv_R ty tt op ρ0 n0 mods h0 (sv_per P.2.1.length ρ) (sv_ini P) lv [] h ∧ ∀ s, s < P.2.1.length → sv_per P.2.1.length ρ s = ρ s := by
  unfold sx_pb at hb
  rw [Bool.and_eq_true] at hb
  have hN : P.2.1.length ≤ 512 := Nat.le_of_ble_eq_true hb.1
  have hp := sv_per_lt hN ρ
  obtain ⟨p1, p2, p3, p4⟩ := hP
  refine ⟨⟨⟨sv_bl_ok _ 0 _ ⟨fun s => ?_, fun s => ?_⟩ (fun j b hj => ?_), fun c hc => ?_, fun c hc => by cases hc⟩, ⟨hn, fun s hs => (hp s (by omega)).trans (h00 s hs)⟩, p3.up hp (Nat.le_refl _), rfl, p4.up hp (Nat.le_refl _), ht⟩, hp⟩
  · unfold sv_per; rw [Nat.mod_mod]
  · rw [sv_b0_get]
    unfold sv_per
    split
    · next hlt =>
      obtain ⟨b, hbb⟩ : ∃ b, P.2.1[s % 512]? = some b := ⟨P.2.1[s % 512], List.getElem?_eq_getElem hlt⟩
      have g := sx_al_ok hb.2 b (List.mem_of_getElem? hbb)
      rw [Bool.and_eq_true] at g
      have g1 := sv_nn_iff.mp g.1
      have g2 := sv_nn_iff.mp g.2
      have g3 := p1 _ b hbb
      exact ⟨by show (-9223372036854775808 : Int) ≤ _; omega, by show _ ≤ (9223372036854775807 : Int); omega⟩
    · exact ⟨by show (-9223372036854775808 : Int) ≤ 0; omega, by show (0 : Int) ≤ 9223372036854775807; omega⟩
  · have hlt : j < P.2.1.length := (List.getElem?_eq_some_iff.mp hj).1
    rw [Nat.zero_add, hp j hlt]
    exact p1 j b hj
  · obtain ⟨g1, g2⟩ := p2 c hc
    exact ⟨by rw [sv_ev_up hp g2]; exact g1, g2⟩
/-! CONTRACTS: method, what may change, the pattern ahead, the patterns behind (the answer as local 1000; the first symbols are those ahead) -/
abbrev sv_C : Type := Nat × List (Nat × Nat) × sv_P × List sv_P
def sv_rl (v : Option ae_V) : ae_L := match v with
  | some c => [(1000, c)]
  | none => []
def sv_post (ty : Nat → Option Nat) (tt : List sv_T) (op : Nat → ae_H → Nat → Nat → Int → Int → Int → Int → Prop) (C : sv_C) (ρ : Nat → Int) (h : ae_H) (r : ae_R) : Prop := ∃ P ∈ C.2.2.2, ∃ ρ', (∀ s, s < C.2.2.1.2.1.length → ρ' s = ρ s) ∧ sv_Pk ty op ρ' P (sv_rl r.1) r.2 ∧ sv_Tk ty tt C.2.1 h r.2 ∧ (ae_lk P.2.2.2.1 1000 = none → r.1 = none)
def sv_ctk (ty : Nat → Option Nat) (tt : List sv_T) (op : Nat → ae_H → Nat → Nat → Int → Int → Int → Int → Prop) (C : sv_C) : Prop := ∀ (ρ : Nat → Int) (lv : ae_L) (h : ae_H), sv_hk ty tt h → sv_Pk ty op ρ C.2.2.1 lv h → sv_G (sv_post ty tt op C ρ h) C.1 0 lv [] h
/-! THE STATE BEHIND A CALL -/
/-- new symbols for those of the pattern behind, from k on -/
noncomputable def sx_pn (l : List (Int × Int)) : Nat → sv_A → sv_mp → (sv_A → sv_mp → Bool) → Bool := List.rec (motive := fun _ => Nat → sv_A → sv_mp → (sv_A → sv_mp → Bool) → Bool) (fun _ a mp K => K a mp) (fun b _ ih k a mp K => sv_nw a b.1 b.2 fun a e => sv_fn (Nat.succ k) fun k2 => ih k2 a ((k, e) :: mp) K) l
noncomputable def sx_pc (mp : sv_mp) (l : List sv_L) : sv_A → (sv_A → Bool) → Bool := List.rec (motive := fun _ => sv_A → (sv_A → Bool) → Bool) (fun a K => K a) (fun c _ ih a K => sv_sb mp c fun g => sv_as a g fun a => ih a K) l
noncomputable def sx_pv (mp : sv_mp) (V : sv_V) (K : sv_V → Bool) : Bool := sv_sb mp V.2.2 fun e => K (V.1, V.2.1, e)
noncomputable def sx_pF (mp : sv_mp) (l : List sv_F) : List sv_F → (List sv_F → Bool) → Bool := List.rec (motive := fun _ => List sv_F → (List sv_F → Bool) → Bool) (fun F K => K F) (fun q _ ih F K => sx_sy mp q.1.1 fun x => sx_pv mp q.2 fun w => ih (((x, q.1.2.1, q.1.2.2), w) :: F) K) l
noncomputable def sx_pM (mp : sv_mp) (l : List sv_M) : List sv_M → (List sv_M → Bool) → Bool := List.rec (motive := fun _ => List sv_M → (List sv_M → Bool) → Bool) (fun F K => K F) (fun q _ ih F K => sx_sy mp q.1 fun x => sv_sb mp q.2.2.1 fun i => sv_sb mp q.2.2.2 fun v => ih ((x, q.2.1, i, v) :: F) K) l
noncomputable def sx_pQ (mp : sv_mp) (l : List sv_Q) : List sv_Q → (List sv_Q → Bool) → Bool := List.rec (motive := fun _ => List sv_Q → (List sv_Q → Bool) → Bool) (fun F K => K F) (fun q _ ih F K => sx_sy mp q.2.1.1 fun x1 => sx_sy mp q.2.2.1.1 fun x2 => sv_sb mp q.2.2.2.2.1 fun o => sv_sb mp q.2.2.2.2.2.1 fun e => sv_sb mp q.2.2.2.2.2.2.1 fun l => sv_sb mp q.2.2.2.2.2.2.2 fun u => ih ((q.1, (x1, q.2.1.2), (x2, q.2.2.1.2), q.2.2.2.1, o, e, l, u) :: F) K) l
section
variable {ty : Nat → Option Nat} {tt : List sv_T} {op : Nat → ae_H → Nat → Nat → Int → Int → Int → Int → Prop} {ρ : Nat → Int} {h : ae_H}
/-- the map is worth what the pattern's own numbers are, below k -/
def sv_mw (ρ ρ' : Nat → Int) (mp : sv_mp) (k : Nat) : Prop := ∀ s, s < k → sv_rm ρ mp s = ρ' s
theorem sx_pn_ok {ρ' : Nat → Int} {N : Nat} : ∀ {l : List (Int × Int)} {k : Nat} {ρ : Nat → Int} {a : sv_A} {mp : sv_mp} {K : sv_A → sv_mp → Bool}, k + l.length = N → (∀ (j : Nat) (b : Int × Int), l[j]? = some b → b.1 ≤ ρ' (k + j) ∧ ρ' (k + j) ≤ b.2) → sv_ak ρ a → sv_mk a.1 N mp → sv_mw ρ ρ' mp k → sx_pn l k a mp K = true → ∃ ρ2 a2 mp2, K a2 mp2 = true ∧ sv_ak ρ2 a2 ∧ a.1 ≤ a2.1 ∧ (∀ s, s < a.1 → ρ2 s = ρ s) ∧ sv_mk a2.1 N mp2 ∧ sv_mw ρ2 ρ' mp2 N
  | [], k, ρ, a, mp, K, hN, hb, ha, hm, hw, hs => ⟨ρ, a, mp, hs, ha, Nat.le_refl _, fun _ _ => rfl, hm, by rw [← hN]; exact hw⟩
  | b :: l, k, ρ, a, mp, K, hN, hb, ha, hm, hw, hs => by
    have hs : sv_nw a b.1 b.2 (fun a e => sv_fn (Nat.succ k) fun k2 => sx_pn l k2 a ((k, e) :: mp) K) = true := hs
    obtain ⟨b1, b2⟩ := hb 0 b rfl
    obtain ⟨hlt, a2, k2, r2, e2, v2⟩ := sv_nw_ok ha b1 b2 hs
    rw [sv_fn_eq] at k2
    rw [List.length_cons] at hN
    have hup := sv_up_lt (ρ := ρ) (v := ρ' (k + 0)) hlt
    have hlk : ∀ s, ae_lk ((k, ((0 : Int), [(a.1, (1 : Int))])) :: mp) s = cond (Nat.beq k s) (some (0, [(a.1, 1)])) (ae_lk mp s) := fun s => rfl
    have hm2 : sv_mk a2.1 N ((k, (0, [(a.1, 1)])) :: mp) := fun s e he => by
      rw [hlk] at he
      cases hq : Nat.beq k s with
      | true =>
        rw [hq, cond_true] at he
        cases he
        rw [← Nat.eq_of_beq_eq_true hq]
        exact ⟨by omega, by rw [e2]; exact sv_wf1 _⟩
      | false =>
        rw [hq, cond_false] at he
        exact ⟨(hm s e he).1, sv_wf_up (by omega) (hm s e he).2⟩
    have hw2 : sv_mw (sv_up ρ a.1 (ρ' (k + 0))) ρ' ((k, (0, [(a.1, 1)])) :: mp) (k + 1) := fun s hs => by
      unfold sv_rm
      rw [hlk]
      cases hq : Nat.beq k s with
      | true =>
        rw [cond_true]
        have ek := Nat.eq_of_beq_eq_true hq
        subst ek
        exact v2
      | false =>
        rw [cond_false]
        have hne : k ≠ s := fun z => by subst z; rw [Nat.beq_refl] at hq; cases hq
        have hs2 : s < k := by omega
        have old := hw s hs2
        unfold sv_rm at old
        cases hl : ae_lk mp s with
        | none => rw [hl] at old; exact old
        | some e =>
          rw [hl] at old
          show sv_ev _ e = _
          rw [sv_ev_up hup (hm s e hl).2]; exact old
    obtain ⟨ρ3, a3, mp3, k3, r3, n3, u3, m3, w3⟩ := sx_pn_ok (ρ' := ρ') (N := N) (k := k + 1) (by omega) (fun j b hj => by
      have := hb (j + 1) b (by simpa using hj)
      rw [show k + 1 + j = k + (j + 1) by omega]; exact this) r2 hm2 hw2 k2
    exact ⟨ρ3, a3, mp3, k3, r3, by omega, fun s hs => (u3 s (by omega)).trans (hup s hs), m3, w3⟩
theorem sv_mw_ev {ρ' : Nat → Int} {N : Nat} {mp : sv_mp} (hw : sv_mw ρ ρ' mp N) {e : sv_L} (he : sv_wf N e) : sv_ev (sv_rm ρ mp) e = sv_ev ρ' e := sv_ev_up hw he
theorem sx_pc_ok {ρ' : Nat → Int} {N n : Nat} {mp : sv_mp} (hm : sv_mk n N mp) (hw : sv_mw ρ ρ' mp N) : ∀ {l : List sv_L} {a : sv_A} {K : sv_A → Bool}, (∀ c ∈ l, 0 ≤ sv_ev ρ' c) → sv_ak ρ a → a.1 = n → sx_pc mp l a K = true → ∃ a2, K a2 = true ∧ sv_ak ρ a2 ∧ a2.1 = a.1
  | [], a, K, _, ha, _, hs => ⟨a, hs, ha, rfl⟩
  | c :: l, a, K, hc, ha, hn, hs => by
    have hs : (sv_sb mp c fun g => sv_as a g fun a => sx_pc mp l a K) = true := hs
    obtain ⟨r, k1, k2, k3, k4⟩ := sv_sb_ok hm ρ hs
    obtain ⟨a2, q1, q2, q3⟩ := sv_as_ok ha (by rw [hn]; exact k3) (by rw [k2, sv_mw_ev hw k4]; exact hc c (List.mem_cons_self ..)) k1
    obtain ⟨a3, p1, p2, p3⟩ := sx_pc_ok hm hw (fun x hx => hc x (List.mem_cons_of_mem _ hx)) q2 (q3.trans hn) q1
    exact ⟨a3, p1, p2, p3.trans q3⟩
theorem sx_pv_ok {ρ' : Nat → Int} {N n : Nat} {mp : sv_mp} {V : sv_V} {c : ae_V} {K : sv_V → Bool} (hm : sv_mk n N mp) (hw : sv_mw ρ ρ' mp N) (hv : sv_vk ty ρ' N V c) (hs : sx_pv mp V K = true) : ∃ w, K w = true ∧ sv_vk ty ρ n w c := by
  obtain ⟨r, k1, k2, k3, k4⟩ := sv_sb_ok hm ρ hs
  rw [sv_mw_ev hw k4] at k2
  refine ⟨_, k1, k3, ?_⟩
  have e : sv_ev ρ ((V.1, V.2.1, r) : sv_V).2.2 = sv_ev ρ' V.2.2 := k2
  rw [e]
  exact hv.2
theorem sx_pF_ok {ρ' : Nat → Int} {N n : Nat} {mp : sv_mp} (hm : sv_mk n N mp) (hw : sv_mw ρ ρ' mp N) : ∀ {l F : List sv_F} {K : List sv_F → Bool}, (∀ q ∈ l, sv_Fk ty ρ' N h q) → (∀ q ∈ F, sv_Fk ty ρ n h q) → sx_pF mp l F K = true → ∃ F2, K F2 = true ∧ ∀ q ∈ F2, sv_Fk ty ρ n h q
  | [], F, K, _, hF, hs => ⟨F, hs, hF⟩
  | q :: l, F, K, hl, hF, hs => by
    have hs : (sx_sy mp q.1.1 fun x => sx_pv mp q.2 fun w => sx_pF mp l (((x, q.1.2.1, q.1.2.2), w) :: F) K) = true := hs
    obtain ⟨x, hs, h2, h3, h4⟩ := sx_sy_ok hm ρ hs
    obtain ⟨-, k, ci, fs, c, y1, y2, y3, y4, y5⟩ := hl q (List.mem_cons_self ..)
    obtain ⟨w, hs, hv⟩ := sx_pv_ok hm hw y5 hs
    refine sx_pF_ok hm hw (fun y hy => hl y (List.mem_cons_of_mem _ hy)) (fun y hy => ?_) hs
    rcases List.mem_cons.mp hy with z | z
    · subst z
      exact ⟨h3, k, ci, fs, c, by show ρ x = k; rw [← h4, hw _ h2]; exact y1, y2, y3, y4, hv⟩
    · exact hF y z
theorem sx_pM_ok {ρ' : Nat → Int} {N n : Nat} {mp : sv_mp} (hm : sv_mk n N mp) (hw : sv_mw ρ ρ' mp N) : ∀ {l F : List sv_M} {K : List sv_M → Bool}, (∀ q ∈ l, sv_Mk ty ρ' N h q) → (∀ q ∈ F, sv_Mk ty ρ n h q) → sx_pM mp l F K = true → ∃ F2, K F2 = true ∧ ∀ q ∈ F2, sv_Mk ty ρ n h q
  | [], F, K, _, hF, hs => ⟨F, hs, hF⟩
  | q :: l, F, K, hl, hF, hs => by
    have hs : (sx_sy mp q.1 fun x => sv_sb mp q.2.2.1 fun i => sv_sb mp q.2.2.2 fun v => sx_pM mp l ((x, q.2.1, i, v) :: F) K) = true := hs
    obtain ⟨x, hs, h2, h3, h4⟩ := sx_sy_ok hm ρ hs
    obtain ⟨i, hs, i2, i3, i4⟩ := sv_sb_ok hm ρ hs
    obtain ⟨v, hs, v2, v3, v4⟩ := sv_sb_ok hm ρ hs
    obtain ⟨-, -, -, k, tag, len, A, I, y1, y2, y3, y5, y6, y7⟩ := hl q (List.mem_cons_self ..)
    refine sx_pM_ok hm hw (fun y hy => hl y (List.mem_cons_of_mem _ hy)) (fun y hy => ?_) hs
    rcases List.mem_cons.mp hy with z | z
    · subst z
      exact ⟨h3, i3, v3, k, tag, len, A, I, by show ρ x = k; rw [← h4, hw _ h2]; exact y1, y2, y3, by show sv_ev ρ i = I; rw [i2, sv_mw_ev hw i4]; exact y5, y6, by show sv_ev ρ v = _; rw [v2, sv_mw_ev hw v4]; exact y7⟩
    · exact hF y z
theorem sx_pQ_ok {ρ' : Nat → Int} {N n : Nat} {mp : sv_mp} (hm : sv_mk n N mp) (hw : sv_mw ρ ρ' mp N) : ∀ {l F : List sv_Q} {K : List sv_Q → Bool}, (∀ q ∈ l, sv_Qk ty op ρ' N h q) → (∀ q ∈ F, sv_Qk ty op ρ n h q) → sx_pQ mp l F K = true → ∃ F2, K F2 = true ∧ ∀ q ∈ F2, sv_Qk ty op ρ n h q
  | [], F, K, _, hF, hs => ⟨F, hs, hF⟩
  | q :: l, F, K, hl, hF, hs => by
    have hs : (sx_sy mp q.2.1.1 fun x1 => sx_sy mp q.2.2.1.1 fun x2 => sv_sb mp q.2.2.2.2.1 fun o => sv_sb mp q.2.2.2.2.2.1 fun e => sv_sb mp q.2.2.2.2.2.2.1 fun l1 => sv_sb mp q.2.2.2.2.2.2.2 fun u => sx_pQ mp l ((q.1, (x1, q.2.1.2), (x2, q.2.2.1.2), q.2.2.2.1, o, e, l1, u) :: F) K) = true := hs
    obtain ⟨x1, hs, a2, a3, a4⟩ := sx_sy_ok hm ρ hs
    obtain ⟨x2, hs, b2, b3, b4⟩ := sx_sy_ok hm ρ hs
    obtain ⟨o, hs, o2, o3, o4⟩ := sv_sb_ok hm ρ hs
    obtain ⟨e, hs, e2, e3, e4⟩ := sv_sb_ok hm ρ hs
    obtain ⟨l1, hs, l2, l3, l4⟩ := sv_sb_ok hm ρ hs
    obtain ⟨u, hs, u2, u3, u4⟩ := sv_sb_ok hm ρ hs
    obtain ⟨-, k, k2, z1, z2, z3, z4, z5⟩ := hl q (List.mem_cons_self ..)
    refine sx_pQ_ok hm hw (fun y hy => hl y (List.mem_cons_of_mem _ hy)) (fun y hy => ?_) hs
    rcases List.mem_cons.mp hy with z | z
    · subst z
      refine ⟨⟨a3, b3, o3, e3, l3, u3⟩, k, k2, by show ρ x1 = k; rw [← a4, hw _ a2]; exact z1, z2, by show ρ x2 = k2; rw [← b4, hw _ b2]; exact z3, z4, ?_⟩
      rw [sv_mw_ev hw o4] at o2
      rw [sv_mw_ev hw e4] at e2
      rw [sv_mw_ev hw l4] at l2
      rw [sv_mw_ev hw u4] at u2
      show match q.1 with
        | 0 => ∀ (tag len A : Nat), ae_hg h k = some (.inl (tag, len, .inl A)) → ∀ j i : Nat, (j : Int) < sv_ev ρ e → (i : Int) = q.2.2.2.1 * j + sv_ev ρ o → i < len → sv_ev ρ l1 ≤ sv_g (ae_rd 32 A i) ∧ sv_g (ae_rd 32 A i) ≤ sv_ev ρ u
        | 1 => ∀ (tag len A tag2 len2 A2 : Nat), ae_hg h k = some (.inl (tag, len, .inl A)) → ae_hg h k2 = some (.inl (tag2, len2, .inl A2)) → ∀ j i : Nat, (j : Int) < sv_ev ρ e → j < len → (i : Int) = sv_g (ae_rd 32 A j) + sv_ev ρ o → i < len2 → sv_ev ρ l1 ≤ sv_g (ae_rd 32 A2 i) ∧ sv_g (ae_rd 32 A2 i) ≤ sv_ev ρ u
        | m => op m h k k2 (sv_ev ρ o) (sv_ev ρ e) (sv_ev ρ l1) (sv_ev ρ u)
      rw [o2, e2, l2, u2]
      exact z5
    · exact hF y z
end
