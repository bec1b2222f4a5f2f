/-! PATTERNS OF STATES: flag, bounds of the symbols, forms, locals, fields, places, facts -/
abbrev sv_P : Type := Nat × List (Int × Int) × List sv_L × List (Nat × sv_V) × List sv_F × List sv_M × List sv_Q
abbrev sv_mp : Type := List (Nat × sv_L)
noncomputable def sv_rm (ρ : Nat → Int) (mp : sv_mp) (s : Nat) : Int := match ae_lk mp s with
  | some e => sv_ev ρ e
  | none => 0
/-- a map from the symbols of a pattern to forms -/
def sv_mk (n N : Nat) (mp : sv_mp) : Prop := ∀ s e, ae_lk mp s = some e → s < N ∧ sv_wf n e
/-- a pattern holds -/
def sv_Pk (ty : Nat → Option Nat) (op : Nat → ae_H → Nat → Nat → Int → Int → Int → Int → Prop) (ρ : Nat → Int) (P : sv_P) (lv : ae_L) (h : ae_H) : Prop :=
  (∀ (k : Nat) (b : Int × Int), P.2.1[k]? = some b → b.1 ≤ ρ k ∧ ρ k ≤ b.2) ∧ (∀ c ∈ P.2.2.1, 0 ≤ sv_ev ρ c ∧ sv_wf P.2.1.length c) ∧ sv_lk ty ρ P.2.1.length P.2.2.2.1 lv ∧ sv_Hk ty op ρ P.2.1.length h P.2.2.2.2.1 P.2.2.2.2.2.1 P.2.2.2.2.2.2
noncomputable def sv_sbl (mp : sv_mp) (l : List (Nat × Int)) : sv_L → (sv_L → Bool) → Bool := List.rec (motive := fun _ => sv_L → (sv_L → Bool) → Bool) (fun acc k => k acc) (fun q _ ih acc k => match ae_lk mp q.1 with
  | some e => sv_ma q.2 e acc fun acc => ih acc k
  | none => false) l
noncomputable def sv_sb (mp : sv_mp) (e : sv_L) (k : sv_L → Bool) : Bool := sv_sbl mp e.2 (e.1, []) k
theorem sv_sbl_ok {n N : Nat} {mp : sv_mp} (hm : sv_mk n N mp) (ρ : Nat → Int) : ∀ (l : List (Nat × Int)) (acc : sv_L) (k : sv_L → Bool), sv_wf n acc → sv_sbl mp l acc k = true → ∃ r, k r = true ∧ sv_ev ρ r = sv_sm (sv_rm ρ mp) l + sv_ev ρ acc ∧ sv_wf n r ∧ sv_wl N l
  | [], acc, k, hw, h => ⟨acc, h, by show _ = 0 + _; omega, hw, fun q hq => by cases hq⟩
  | q :: l, acc, k, hw, h => by
    have h : (match ae_lk mp q.1 with
      | some e => sv_ma q.2 e acc fun acc => sv_sbl mp l acc k
      | none => false) = true := h
    split at h
    · next e he =>
      rw [sv_ma_f] at h
      obtain ⟨h1, h2⟩ := hm q.1 e he
      obtain ⟨r, k1, k2, k3, k4⟩ := sv_sbl_ok hm ρ l _ k (sv_mf_wf h2 hw) h
      refine ⟨r, k1, ?_, k3, fun x hx => ?_⟩
      · rw [k2, sv_mf_ev]
        show _ = q.2 * sv_rm ρ mp q.1 + sv_sm (sv_rm ρ mp) l + sv_ev ρ acc
        have : sv_rm ρ mp q.1 = sv_ev ρ e := by unfold sv_rm; rw [he]
        rw [this]; omega
      · rcases List.mem_cons.mp hx with z | z
        · subst z; exact h1
        · exact k4 x z
    · cases h
theorem sv_sb_ok {n N : Nat} {mp : sv_mp} (hm : sv_mk n N mp) (ρ : Nat → Int) {e : sv_L} {k : sv_L → Bool} (h : sv_sb mp e k = true) : ∃ r, k r = true ∧ sv_ev ρ r = sv_ev (sv_rm ρ mp) e ∧ sv_wf n r ∧ sv_wf N e := by
  obtain ⟨r, k1, k2, k3, k4⟩ := sv_sbl_ok hm ρ e.2 (e.1, []) k (sv_wf0 _ _) h
  refine ⟨r, k1, ?_, k3, k4⟩
  rw [k2, sv_ev0]; unfold sv_ev; omega
/-- the symbol that a symbol of the pattern stands for -/
noncomputable def sx_sy (mp : sv_mp) (s : Nat) (K : Nat → Bool) : Bool := match ae_lk mp s with
  | some (c, [(x, k)]) => cond (and (sv_iz c) (sv_ieq k 1)) (K x) false
  | _ => false
theorem sx_sy_ok {n N : Nat} {mp : sv_mp} (hm : sv_mk n N mp) (ρ : Nat → Int) {s : Nat} {K : Nat → Bool} (h : sx_sy mp s K = true) : ∃ x, K x = true ∧ s < N ∧ x < n ∧ sv_rm ρ mp s = ρ x := by
  unfold sx_sy at h
  split at h
  · next c x k he =>
    cases hc : and (sv_iz c) (sv_ieq k 1) with
    | false => rw [hc, cond_false] at h; cases h
    | true =>
      rw [hc, cond_true] at h
      rw [Bool.and_eq_true] at hc
      have c0 := sv_iz_iff.mp hc.1
      have k1 := sv_ieq_ok hc.2
      subst c0 k1
      obtain ⟨h1, h2⟩ := hm s _ he
      refine ⟨x, h, h1, h2 (x, 1) (List.mem_singleton.mpr rfl), ?_⟩
      unfold sv_rm
      rw [he]
      show (0 : Int) + (1 * ρ x + 0) = ρ x
      omega
  · cases h
/-- a value of the pattern is the value of the state -/
noncomputable def sx_mv (mp : sv_mp) (a : sv_A) (V w : sv_V) : Bool := match V.1 with
  | 0 => and (Nat.beq w.1 0) (sv_sb mp V.2.2 fun e => sv_same e w.2.2)
  | 1 => and (Nat.beq w.2.1 V.2.1) (and (or (Nat.beq w.1 1) (and (Nat.beq w.1 3) (sv_p 3 a w.2.2))) (sv_sb mp V.2.2 fun e => sv_same e w.2.2))
  | 2 => and (Nat.beq w.1 2) (sv_sb mp V.2.2 fun _ => true)
  | 3 => cond (Nat.beq w.1 2) (sv_sb mp V.2.2 fun e => sv_same e (-1, [])) (and (Nat.beq w.2.1 V.2.1) (and (or (Nat.beq w.1 1) (Nat.beq w.1 3)) (sv_sb mp V.2.2 fun e => sv_same e w.2.2)))
  | 4 => and (Nat.beq w.1 4) (sv_sb mp V.2.2 fun e => sv_same e w.2.2)
  | 6 => and (Nat.beq w.1 6) (and (Nat.beq w.2.1 V.2.1) (sv_sb mp V.2.2 fun _ => true))
  | _ => false
section
variable {ty : Nat → Option Nat} {tt : List sv_T} {op : Nat → ae_H → Nat → Nat → Int → Int → Int → Int → Prop} {ρ : Nat → Int} {h : ae_H}
theorem sx_mv_ok {N : Nat} {mp : sv_mp} {a : sv_A} {V w : sv_V} {c : ae_V} (hm : sv_mk a.1 N mp) (ha : sv_ak ρ a) (hw : sv_vk ty ρ a.1 w c) (hs : sx_mv mp a V w = true) : sv_vk ty (sv_rm ρ mp) N V c := by
  obtain ⟨vk, vt, ve⟩ := V
  obtain ⟨wk, wt, we⟩ := w
  have sm : ∀ {x : sv_L}, sv_sb mp ve (fun e => sv_same e x) = true → sv_ev (sv_rm ρ mp) ve = sv_ev ρ x ∧ sv_wf N ve := fun {x} hh => by
    obtain ⟨r, k1, k2, k3, k4⟩ := sv_sb_ok hm ρ hh
    have := sv_same_ok k1
    subst this
    exact ⟨k2.symm, k4⟩
  have sw : sv_sb mp ve (fun _ => true) = true → sv_wf N ve := fun hh => by
    obtain ⟨r, k1, k2, k3, k4⟩ := sv_sb_ok hm ρ hh
    exact k4
  match vk, hs with
  | 0, hs =>
    have hs : and (Nat.beq wk 0) (sv_sb mp ve fun e => sv_same e we) = true := hs
    rw [Bool.and_eq_true] at hs
    have := Nat.eq_of_beq_eq_true hs.1
    subst this
    obtain ⟨e1, e2⟩ := sm hs.2
    exact ⟨e2, by show c = _ ∧ _; rw [show sv_ev (sv_rm ρ mp) ((0, vt, ve) : sv_V).2.2 = sv_ev ρ we from e1]; exact hw.2⟩
  | 1, hs =>
    have hs : and (Nat.beq wt vt) (and (or (Nat.beq wk 1) (and (Nat.beq wk 3) (sv_p 3 a we))) (sv_sb mp ve fun e => sv_same e we)) = true := hs
    rw [Bool.and_eq_true, Bool.and_eq_true, Bool.or_eq_true, Bool.and_eq_true] at hs
    obtain ⟨q1, q2, q3⟩ := hs
    have := Nat.eq_of_beq_eq_true q1
    subst this
    obtain ⟨e1, e2⟩ := sm q3
    refine ⟨e2, ?_⟩
    show ∃ k : Nat, sv_ev (sv_rm ρ mp) ve = k ∧ _
    rw [e1]
    rcases q2 with q2 | ⟨q2, q4⟩
    · have := Nat.eq_of_beq_eq_true q2
      subst this
      exact hw.2
    · have := Nat.eq_of_beq_eq_true q2
      subst this
      have hp := sv_p_ok ha q4
      rcases hw.2 with ⟨g1, -⟩ | g
      · have g1 : sv_ev ρ we = -1 := g1
        omega
      · exact g
  | 2, hs =>
    have hs : and (Nat.beq wk 2) (sv_sb mp ve fun _ => true) = true := hs
    rw [Bool.and_eq_true] at hs
    have := Nat.eq_of_beq_eq_true hs.1
    subst this
    exact ⟨sw hs.2, hw.2⟩
  | 3, hs =>
    have hs : cond (Nat.beq wk 2) (sv_sb mp ve fun e => sv_same e (-1, [])) (and (Nat.beq wt vt) (and (or (Nat.beq wk 1) (Nat.beq wk 3)) (sv_sb mp ve fun e => sv_same e we))) = true := hs
    cases h2 : Nat.beq wk 2 with
    | true =>
      rw [h2, cond_true] at hs
      have := Nat.eq_of_beq_eq_true h2
      subst this
      obtain ⟨e1, e2⟩ := sm hs
      rw [sv_ev0] at e1
      exact ⟨e2, Or.inl ⟨e1, hw.2⟩⟩
    | false =>
      rw [h2, cond_false, Bool.and_eq_true, Bool.and_eq_true, Bool.or_eq_true] at hs
      obtain ⟨q1, q2, q3⟩ := hs
      have := Nat.eq_of_beq_eq_true q1
      subst this
      obtain ⟨e1, e2⟩ := sm q3
      refine ⟨e2, ?_⟩
      show (sv_ev (sv_rm ρ mp) ve = -1 ∧ _) ∨ ∃ k : Nat, sv_ev (sv_rm ρ mp) ve = k ∧ _
      rw [e1]
      rcases q2 with q2 | q2
      · have := Nat.eq_of_beq_eq_true q2
        subst this
        exact Or.inr hw.2
      · have := Nat.eq_of_beq_eq_true q2
        subst this
        exact hw.2
  | 4, hs =>
    have hs : and (Nat.beq wk 4) (sv_sb mp ve fun e => sv_same e we) = true := hs
    rw [Bool.and_eq_true] at hs
    have := Nat.eq_of_beq_eq_true hs.1
    subst this
    obtain ⟨e1, e2⟩ := sm hs.2
    exact ⟨e2, by show c = _ ∧ _; rw [show sv_ev (sv_rm ρ mp) ((4, vt, ve) : sv_V).2.2 = sv_ev ρ we from e1]; exact hw.2⟩
  | 6, hs =>
    have hs : and (Nat.beq wk 6) (and (Nat.beq wt vt) (sv_sb mp ve fun _ => true)) = true := hs
    rw [Bool.and_eq_true, Bool.and_eq_true] at hs
    have := Nat.eq_of_beq_eq_true hs.1
    subst this
    have := Nat.eq_of_beq_eq_true hs.2.1
    subst this
    exact ⟨sw hs.2.2, hw.2⟩
  | 5, hs => cases hs
  | m + 7, hs => cases hs
/-- every entry passes -/
noncomputable def sx_al {α : Type} (p : α → Bool) (l : List α) : Bool := List.rec (motive := fun _ => Bool) true (fun q _ ih => and (p q) ih) l
theorem sx_al_ok {α : Type} {p : α → Bool} : ∀ {l : List α}, sx_al p l = true → ∀ q ∈ l, p q = true
  | [], _, q, hq => by cases hq
  | x :: l, hs, q, hq => by
    have hs : and (p x) (sx_al p l) = true := hs
    rw [Bool.and_eq_true] at hs
    rcases List.mem_cons.mp hq with z | z
    · subst z; exact hs.1
    · exact sx_al_ok hs.2 q z
noncomputable def sx_cl (mp : sv_mp) (S : sv_S) (q : Nat × sv_V) : Bool := match ae_lk S.2.1 q.1 with
  | some w => sx_mv mp S.1 q.2 w
  | none => false
noncomputable def sx_cf (mp : sv_mp) (S : sv_S) (q : sv_F) : Bool := sx_sy mp q.1.1 fun x => (match sx_fl x q.1.2.1 q.1.2.2 S.2.2.2.1 with
  | some w => sx_mv mp S.1 q.2 w
  | none => false)
/-- is the place known with this value -/
noncomputable def sx_mm (x t : Nat) (i v : sv_L) (M : List sv_M) : Bool := List.rec (motive := fun _ => Bool) false (fun q _ ih => or (and (Nat.beq q.1 x) (and (Nat.beq q.2.1 t) (and (sv_same q.2.2.1 i) (sv_same q.2.2.2 v)))) ih) M
theorem sx_mm_ok {x t : Nat} {i v : sv_L} : ∀ {M : List sv_M}, sx_mm x t i v M = true → (x, t, i, v) ∈ M
  | [], hs => by cases hs
  | q :: M, hs => by
    have hs : or (and (Nat.beq q.1 x) (and (Nat.beq q.2.1 t) (and (sv_same q.2.2.1 i) (sv_same q.2.2.2 v)))) (sx_mm x t i v M) = true := hs
    rw [Bool.or_eq_true] at hs
    rcases hs with hs | hs
    · rw [Bool.and_eq_true, Bool.and_eq_true, Bool.and_eq_true] at hs
      obtain ⟨x', t', i', v'⟩ := q
      have e1 : x' = x := Nat.eq_of_beq_eq_true hs.1
      have e2 : t' = t := Nat.eq_of_beq_eq_true hs.2.1
      have e3 : i' = i := sv_same_ok hs.2.2.1
      have e4 : v' = v := sv_same_ok hs.2.2.2
      subst e1 e2 e3 e4
      exact List.mem_cons_self ..
    · exact List.mem_cons_of_mem _ (sx_mm_ok hs)
noncomputable def sx_cm (mp : sv_mp) (S : sv_S) (q : sv_M) : Bool := sx_sy mp q.1 fun x => sv_sb mp q.2.2.1 fun i => sv_sb mp q.2.2.2 fun v => sx_mm x q.2.1 i v S.2.2.2.2.1
noncomputable def sx_cc (mp : sv_mp) (a : sv_A) (c : sv_L) : Bool := sv_sb mp c fun g => sv_p 4 a g
noncomputable def sx_cb (mp : sv_mp) (a : sv_A) (l : List (Int × Int)) : Nat → Bool := List.rec (motive := fun _ => Nat → Bool) (fun _ => true) (fun b _ ih k => and (match ae_lk mp k with
  | some e => and (sx_ge a e (b.1, [])) (sx_ge a (b.2, []) e)
  | none => false) (sv_fn (Nat.succ k) ih)) l
theorem sx_cb_ok {mp : sv_mp} {a : sv_A} (ha : sv_ak ρ a) : ∀ {l : List (Int × Int)} {k : Nat}, sx_cb mp a l k = true → ∀ (j : Nat) (b : Int × Int), l[j]? = some b → b.1 ≤ sv_rm ρ mp (k + j) ∧ sv_rm ρ mp (k + j) ≤ b.2
  | [], k, _, j, b, hb => by simp at hb
  | b0 :: l, k, hs, j, b, hb => by
    have hs : and (match ae_lk mp k with
      | some e => and (sx_ge a e (b0.1, [])) (sx_ge a (b0.2, []) e)
      | none => false) (sv_fn (Nat.succ k) (sx_cb mp a l)) = true := hs
    rw [Bool.and_eq_true, sv_fn_eq] at hs
    match j, hb with
    | 0, hb =>
      have hb : b0 = b := by simpa using hb
      subst hb
      have h1 := hs.1
      split at h1
      · next e he =>
        rw [Bool.and_eq_true] at h1
        have g1 := sx_ge_ok ha h1.1
        have g2 := sx_ge_ok ha h1.2
        rw [sv_ev0] at g1 g2
        have : sv_rm ρ mp (k + 0) = sv_ev ρ e := by unfold sv_rm; rw [Nat.add_zero, he]
        rw [this]; exact ⟨g1, g2⟩
      · cases h1
    | j + 1, hb =>
      have hb : l[j]? = some b := by simpa using hb
      have := sx_cb_ok ha hs.2 j b hb
      rw [show k + (j + 1) = k + 1 + j by omega]; exact this
end
