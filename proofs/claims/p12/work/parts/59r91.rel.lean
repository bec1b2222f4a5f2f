/-- the address that a reference stands for: a cell of the world, or, from 256 on, an old one -/
def ae_ad (kA : Nat → ClassId) (ws : va_W) (k : Nat) : Option Nat := match ws[k]? with
  | some q => some q.1
  | none => cond (Nat.ble 256 k) (some (kA k)) none
theorem ae_ad_x {kA : Nat → ClassId} {ws : va_W} {k : Nat} (hl : ws.length ≤ 256) (h : 256 ≤ k) : ae_ad kA ws k = some (kA k) := by
  unfold ae_ad
  rw [List.getElem?_eq_none (by omega), Nat.ble_eq_true_of_le h]; rfl
def ae_px (ad ad' : Nat → Option Nat) : Prop := ∀ (k a : Nat), ad k = some a → ad' k = some a
theorem ae_px.rf {ad : Nat → Option Nat} : ae_px ad ad := fun _ _ h => h
theorem ae_px.tr {a b c : Nat → Option Nat} (h : ae_px a b) (g : ae_px b c) : ae_px a c := fun k x hx => g k x (h k x hx)
def ae_ir (i : Nat ⊕ (Nat × Nat)) (y : Int32) : Prop := match i with
  | .inl n => y = nI n ∧ n < 4294967296
  | .inr r => r.1 ≤ ae_bi y ∧ ae_bi y ≤ r.2
theorem ae_ir_rg {i : Nat ⊕ (Nat × Nat)} {y : Int32} (h : ae_ir i y) : (ae_rg i).1 ≤ ae_bi y ∧ ae_bi y ≤ (ae_rg i).2 := by
  cases i with
  | inl n =>
    obtain ⟨rfl, -⟩ := h
    have e : ae_rg (.inl n) = (ae_bs n, ae_bs n) := rfl
    rw [ae_bi_nI, e]
    generalize ae_bs n = z
    exact ⟨Nat.le_refl z, Nat.le_refl z⟩
  | inr r => exact h
theorem ae_ir_top (y : Int32) : ae_ir (.inr (0, 4294967295)) y := ⟨Nat.zero_le _, Nat.le_of_lt_succ (ae_bi_lt y)⟩
def ae_vr (ad : Nat → Option Nat) (v : ae_V) (x : Value) : Prop := match v with
  | .inl i => ∃ y : Int32, x = .int y ∧ ae_ir i y
  | .inr (.inl n) => x = .long (lN n) ∧ n < 18446744073709551616
  | .inr (.inr none) => x = .null
  | .inr (.inr (some k)) => ∃ a, ad k = some a ∧ x = .ref a
theorem ae_vr.up {ad ad' : Nat → Option Nat} (hp : ae_px ad ad') {v : ae_V} {x : Value} (h : ae_vr ad v x) : ae_vr ad' v x := by
  match v, h with
  | .inl i, h => exact h
  | .inr (.inl n), h => exact h
  | .inr (.inr none), h => exact h
  | .inr (.inr (some k)), ⟨a, h1, h2⟩ => exact ⟨a, hp k a h1, h2⟩
theorem ae_vr_cat {ad : Nat → Option Nat} {v : ae_V} {x : Value} (h : ae_vr ad v x) : x.category = ae_cat v := by
  match v, h with
  | .inl i, ⟨y, e, _⟩ => rw [e]; rfl
  | .inr (.inl n), ⟨e, _⟩ => rw [e]; rfl
  | .inr (.inr none), e => rw [show x = .null from e]; rfl
  | .inr (.inr (some k)), ⟨a, h1, e⟩ => rw [e]; rfl
def ae_sr (ad : Nat → Option Nat) : List ae_V → List Value → Prop
  | [], xs => xs = []
  | v :: vs, xs => ∃ (x : Value) (xs' : List Value), xs = x :: xs' ∧ ae_vr ad v x ∧ ae_sr ad vs xs'
theorem ae_sr.up {ad ad' : Nat → Option Nat} (hp : ae_px ad ad') : ∀ {vs : List ae_V} {xs : List Value}, ae_sr ad vs xs → ae_sr ad' vs xs
  | [], _, h => h
  | _ :: _, _, ⟨x, xs', e, h1, h2⟩ => ⟨x, xs', e, h1.up hp, ae_sr.up hp h2⟩
theorem ae_sr_len {ad : Nat → Option Nat} : ∀ {vs : List ae_V} {xs : List Value}, ae_sr ad vs xs → xs.length = vs.length
  | [], _, h => by rw [show _ = [] from h]; rfl
  | _ :: _, _, ⟨x, xs', e, _, h2⟩ => by rw [e, List.length_cons, List.length_cons, ae_sr_len h2]
theorem ae_sr_at {ad : Nat → Option Nat} : ∀ {vs : List ae_V} {xs : List Value}, ae_sr ad vs xs → ∀ {k : Nat} {v : ae_V}, vs[k]? = some v → ∃ x, xs[k]? = some x ∧ ae_vr ad v x
  | [], _, _, k, v, hv => by simp at hv
  | w :: ws, _, ⟨x, xs', e, h1, h2⟩, 0, v, hv => by
    subst e
    have : w = v := by simpa using hv
    subst this
    exact ⟨x, rfl, h1⟩
  | w :: ws, _, ⟨x, xs', e, h1, h2⟩, k + 1, v, hv => by
    subst e
    obtain ⟨y, g1, g2⟩ := ae_sr_at h2 (k := k) (v := v) (by simpa using hv)
    exact ⟨y, by simpa using g1, g2⟩
theorem ae_sr_set {ad : Nat → Option Nat} {v : ae_V} {x : Value} (hv : ae_vr ad v x) : ∀ {vs : List ae_V} {xs : List Value}, ae_sr ad vs xs → ∀ (k : Nat), ae_sr ad (vs.set k v) (xs.set k x)
  | [], _, h, k => by rw [show _ = [] from h]; simp [ae_sr]
  | w :: ws, _, ⟨y, xs', e, h1, h2⟩, 0 => by subst e; exact ⟨x, xs', rfl, hv, h2⟩
  | w :: ws, _, ⟨y, xs', e, h1, h2⟩, k + 1 => by subst e; exact ⟨y, xs'.set k x, rfl, h1, ae_sr_set hv h2 k⟩
theorem ae_sr_app {ad : Nat → Option Nat} : ∀ {vs ws : List ae_V} {xs ys : List Value}, ae_sr ad vs xs → ae_sr ad ws ys → ae_sr ad (vs ++ ws) (xs ++ ys)
  | [], ws, xs, ys, h, g => by rw [show xs = [] from h]; exact g
  | v :: vs, ws, xs, ys, ⟨x, xs', e, h1, h2⟩, g => by subst e; exact ⟨x, xs' ++ ys, rfl, h1, ae_sr_app h2 g⟩
theorem ae_sr_cat {ad : Nat → Option Nat} : ∀ {vs : List ae_V} {xs : List Value}, ae_sr ad vs xs → (xs.map fun v => v.category).sum = ae_catS vs
  | [], xs, h => by rw [show xs = [] from h]; rfl
  | v :: vs, xs, ⟨x, xs', e, h1, h2⟩ => by
    subst e
    show x.category + (xs'.map fun v => v.category).sum = ae_cat v + ae_catS vs
    rw [ae_vr_cat h1, ae_sr_cat h2]
def ae_lr (ad : Nat → Option Nat) : ae_L → List (Nat × Value) → Prop
  | [], xs => xs = []
  | q :: qs, xs => ∃ (x : Value) (xs' : List (Nat × Value)), xs = (q.1, x) :: xs' ∧ ae_vr ad q.2 x ∧ ae_lr ad qs xs'
theorem ae_lr.up {ad ad' : Nat → Option Nat} (hp : ae_px ad ad') : ∀ {vs : ae_L} {xs : List (Nat × Value)}, ae_lr ad vs xs → ae_lr ad' vs xs
  | [], _, h => h
  | _ :: _, _, ⟨x, xs', e, h1, h2⟩ => ⟨x, xs', e, h1.up hp, ae_lr.up hp h2⟩
theorem ae_lr_mem {ad : Nat → Option Nat} {i : Nat} {v : ae_V} : ∀ {lv : ae_L} {xs : List (Nat × Value)}, ae_lr ad lv xs → (i, v) ∈ lv → ∃ (k : Nat) (x : Value), xs[k]? = some (i, x) ∧ ae_vr ad v x
  | [], _, _, hm => absurd hm List.not_mem_nil
  | q :: qs, _, ⟨x, xs', e, h1, h2⟩, hm => by
    subst e
    rcases List.mem_cons.mp hm with h | h
    · subst h; exact ⟨0, x, rfl, h1⟩
    · obtain ⟨k, y, g1, g2⟩ := ae_lr_mem h2 h
      exact ⟨k + 1, y, by simpa using g1, g2⟩
theorem ae_lr_filter {ad : Nat → Option Nat} (f : Nat → Nat → Bool) : ∀ {lv : ae_L} {xs : List (Nat × Value)}, ae_lr ad lv xs → ae_lr ad (lv.filter (fun q => f q.1 (ae_cat q.2))) (xs.filter (fun q => f q.1 q.2.category))
  | [], xs, h => by rw [show xs = [] from h]; rfl
  | q :: qs, _, ⟨x, xs', e, h1, h2⟩ => by
    subst e
    have ih := ae_lr_filter f h2
    have hc := ae_vr_cat h1
    rw [List.filter_cons, List.filter_cons]
    show ae_lr ad (if f q.1 (ae_cat q.2) = true then _ else _) (if f q.1 x.category = true then _ else _)
    rw [hc]
    split
    · exact ⟨x, _, rfl, h1, ih⟩
    · exact ih
theorem ae_lr_st1 {ad : Nat → Option Nat} {lv : ae_L} {xs : List (Nat × Value)} (h : ae_lr ad lv xs) (i : Nat) {v : ae_V} {x : Value} (hv : ae_vr ad v x) : ae_lr ad (ae_st1 lv i v) ((i, x) :: xs.filter (fun q => !(q.1 == i) && !(q.1 + 1 == i && q.2.category == 2))) :=
  ⟨x, _, rfl, hv, ae_lr_filter (fun a b => !(a == i) && !(a + 1 == i && b == 2)) h⟩
theorem ae_lr_st2 {ad : Nat → Option Nat} {lv : ae_L} {xs : List (Nat × Value)} (h : ae_lr ad lv xs) (i : Nat) {v : ae_V} {x : Value} (hv : ae_vr ad v x) : ae_lr ad (ae_st2 lv i v) ((i, x) :: xs.filter (fun q => !(q.1 == i) && (!(q.1 == i + 1) && !(q.1 + 1 == i && q.2.category == 2)))) :=
  ⟨x, _, rfl, hv, ae_lr_filter (fun a b => !(a == i) && (!(a == i + 1) && !(a + 1 == i && b == 2))) h⟩
theorem ae_cat12 (v : ae_V) : ae_cat v = 1 ∨ ae_cat v = 2 := by
  match v with
  | .inl _ => exact Or.inl rfl
  | .inr (.inl _) => exact Or.inr rfl
  | .inr (.inr _) => exact Or.inl rfl
theorem ae_lr_args {ad : Nat → Option Nat} : ∀ {vs : List ae_V} {xs : List Value}, ae_sr ad vs xs → ∀ i : Nat, ae_lr ad (ae_args vs i) (lv_args i xs)
  | [], xs, h, i => by rw [show xs = [] from h]; rfl
  | v :: vs, _, ⟨x, xs', e, h1, h2⟩, i => by
    subst e
    have hc := ae_vr_cat h1
    have ih := ae_lr_args h2 (i + ae_cat v)
    show ∃ y ys, lv_args i (x :: xs') = (i, y) :: ys ∧ ae_vr ad v y ∧ ae_lr ad (ae_args vs (i + ae_cat v)) ys
    refine ⟨x, _, rfl, h1, ?_⟩
    rw [hc]
    rcases ae_cat12 v with q | q <;> rw [q] at ih ⊢ <;> exact ih
theorem ae_sl_len {ad : Nat → Option Nat} : ∀ {vs : List ae_V} {xs : List Value}, ae_sr ad vs xs → (lg_sl xs).length = ae_catS vs
  | [], xs, h => by rw [show xs = [] from h]; rfl
  | v :: vs, _, ⟨x, xs', e, h1, h2⟩ => by
    subst e
    have hc := ae_vr_cat h1
    have ih := ae_sl_len h2
    show ((if x.category = 2 then [Slot.val x, Slot.second] else [Slot.val x]) ++ lg_sl xs').length = ae_cat v + ae_catS vs
    rw [List.length_append, ih, hc]
    rcases ae_cat12 v with q | q <;> rw [q] <;> rfl
def ae_rr (ad : Nat → Option Nat) (r : Option Nat) (x : Option Nat) : Prop := match r with
  | none => x = none
  | some k => ∃ a, ad k = some a ∧ x = some a
theorem ae_rr.up {ad ad' : Nat → Option Nat} (hp : ae_px ad ad') {r x : Option Nat} (h : ae_rr ad r x) : ae_rr ad' r x := by
  match r, h with
  | none, h => exact h
  | some k, ⟨a, h1, h2⟩ => exact ⟨a, hp k a h1, h2⟩
theorem ae_rr_v {ad : Nat → Option Nat} {r x : Option Nat} (h : ae_rr ad r x) : ae_vr ad (.inr (.inr r)) (va_rf x) := by
  match r, h with
  | none, h => rw [show x = none from h]; rfl
  | some k, ⟨a, h1, h2⟩ => rw [h2]; exact ⟨a, h1, rfl⟩
abbrev ae_Y : Type := (Nat → Int32) ⊕ (Nat → Int64) ⊕ (Nat → UInt32) ⊕ (Nat → UInt64) ⊕ (Nat → Option Nat)
def ae_xr (ad : Nat → Option Nat) (t n : Nat) (x : ae_X) (y : ae_Y) : Prop :=
  (t ≤ 2 ∧ ∃ f : Nat → Int32, y = .inl f ∧ (t = 1 → ∀ i, fits .byte (.int (f i)) = true) ∧ ∀ A, x = .inl A → ∀ i, i < n → f i = nI (ae_rd 32 A i)) ∨
  (t = 3 ∧ ∃ (f : Nat → Int64) (A : Nat), y = .inr (.inl f) ∧ x = .inl A ∧ ∀ i, i < n → f i = lN (ae_rd 64 A i)) ∨
  (t = 4 ∧ ∃ (f : Nat → Option Nat) (l : List (Option Nat)), y = .inr (.inr (.inr (.inr f))) ∧ x = .inr (.inr l) ∧ ∀ i r, l[i]? = some r → ae_rr ad r (f i))
def ae_cr (kA : Nat → ClassId) (ad : Nat → Option Nat) (c : ae_C) (e : va_E) : Prop := match c with
  | .inl (t, n, x) => ∃ y : ae_Y, e = .inl (kA t, n, y) ∧ ae_xr ad t n x y
  | .inr (ci, fs) => ∃ fs' : List Value, e = .inr (ci, fs') ∧ ae_sr ad fs fs'
theorem ae_cr.up {kA : Nat → ClassId} {ad ad' : Nat → Option Nat} (hp : ae_px ad ad') {c : ae_C} {e : va_E} (h : ae_cr kA ad c e) : ae_cr kA ad' c e := by
  match c, h with
  | .inl (t, n, x), ⟨y, h1, h2⟩ =>
    refine ⟨y, h1, ?_⟩
    rcases h2 with h | h | ⟨h3, f, l, h4, h5, h6⟩
    · exact Or.inl h
    · exact Or.inr (Or.inl h)
    · exact Or.inr (Or.inr ⟨h3, f, l, h4, h5, fun i r hr => (h6 i r hr).up hp⟩)
  | .inr (ci, fs), ⟨fs', h1, h2⟩ => exact ⟨fs', h1, h2.up hp⟩
def ae_hr (kA : Nat → ClassId) (ws : va_W) (h : ae_H) : Prop := ws.length = h.1 ∧ h.1 ≤ 256 ∧ ∀ (k : Nat) (c : ae_C), ae_hg h k = some c → ∃ (a : Nat) (e : va_E), ws[k]? = some (a, e) ∧ ae_cr kA (ae_ad kA ws) c e
theorem ae_ad_at {kA : Nat → ClassId} {ws : va_W} {k a : Nat} {e : va_E} (h : ws[k]? = some (a, e)) : ae_ad kA ws k = some a := by
  unfold ae_ad
  rw [h]
theorem ae_ad_set {kA : Nat → ClassId} {ws : va_W} {k a : Nat} {e0 e : va_E} (h : ws[k]? = some (a, e0)) : ae_ad kA (ws.set k (a, e)) = ae_ad kA ws := by
  funext i
  unfold ae_ad
  by_cases hk : k = i
  · subst hk
    have hlt : k < ws.length := (List.getElem?_eq_some_iff.mp h).1
    rw [List.getElem?_set_self hlt, h]
  · rw [List.getElem?_set_ne hk]
theorem ae_hr_set {kA : Nat → ClassId} {ws : va_W} {h : ae_H} {k a : Nat} {c0 c : ae_C} {e0 e : va_E} (hh : ae_hr kA ws h) (hk : ae_hg h k = some c0) (hw : ws[k]? = some (a, e0)) (hc : ae_cr kA (ae_ad kA ws) c e) : ae_hr kA (ws.set k (a, e)) (ae_hs h k c) := by
  obtain ⟨h1, h2, h3⟩ := hh
  refine ⟨by rw [List.length_set]; exact h1, h2, fun j c' hj => ?_⟩
  have hj2 := ae_hg_lt hj
  rw [ae_hg_hs (ae_hg_lt hk) hj2] at hj
  rw [ae_ad_set hw]
  have hkl : k < ws.length := (List.getElem?_eq_some_iff.mp hw).1
  split at hj
  · next q =>
    subst q
    cases hj
    exact ⟨a, e, by rw [List.getElem?_set_self hkl], hc⟩
  · next q =>
    obtain ⟨a', e', g1, g2⟩ := h3 j c' hj
    exact ⟨a', e', by rw [List.getElem?_set_ne (fun z => q z.symm)]; exact g1, g2⟩
theorem ae_px_push {kA : Nat → ClassId} {ws : va_W} (hl : ws.length < 256) (q : Nat × va_E) : ae_px (ae_ad kA ws) (ae_ad kA (ws ++ [q])) := fun k a h => by
  unfold ae_ad at h ⊢
  rcases Nat.lt_or_ge k ws.length with hk | hk
  · rw [List.getElem?_append_left hk]; exact h
  · rw [List.getElem?_eq_none hk] at h
    cases hb : Nat.ble 256 k with
    | false => rw [hb] at h; cases h
    | true =>
      have := Nat.le_of_ble_eq_true hb
      rw [hb] at h
      rw [List.getElem?_eq_none (by rw [List.length_append]; show ws.length + 1 ≤ k; omega)]
      exact h
theorem ae_hr_push {kA : Nat → ClassId} {ws : va_W} {h : ae_H} {q : Nat} {c : ae_C} {e : va_E} (hh : ae_hr kA ws h) (hl : h.1 < 256) (hc : ae_cr kA (ae_ad kA ws) c e) : ae_hr kA (ws ++ [(q, e)]) (ae_hp h c) ∧ ae_ad kA (ws ++ [(q, e)]) h.1 = some q := by
  obtain ⟨h1, h2, h3⟩ := hh
  have hp := ae_px_push (kA := kA) (by rw [h1]; exact hl) (q, e)
  have hat : (ws ++ [(q, e)])[h.1]? = some (q, e) := by rw [← h1]; simp
  refine ⟨⟨by rw [List.length_append, h1]; rfl, hl, fun j c' hj => ?_⟩, ae_ad_at hat⟩
  have hj2 := ae_hg_lt hj
  rw [ae_hg_hp hl hj2] at hj
  split at hj
  · next z =>
    subst z
    cases hj
    exact ⟨q, e, hat, hc.up hp⟩
  · obtain ⟨a', e', g1, g2⟩ := h3 j c' hj
    have hl2 : j < ws.length := (List.getElem?_eq_some_iff.mp g1).1
    exact ⟨a', e', by rw [List.getElem?_append_left hl2]; exact g1, g2.up hp⟩
