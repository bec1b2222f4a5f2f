/-! VALUES, TYPES, HEAPS. A value: kind (0 int, 1 a thing of a type, 2 null, 3 a thing of a type or null, 4 long, 5 the answer of lcmp, 6 what stands outside), type, form -/
abbrev sv_V : Type := Nat × Nat × sv_L
/-- a field's type: kind (as of values), least, greatest, the type of the thing -/
abbrev sv_ft : Type := Nat × Int × Int × Nat
/-- a type: kind (0 object, 1 row of ints, bytes, booleans, 2 row of longs, 3 row of things), class or tag, length, least, greatest, mask or the things' type, the fields -/
abbrev sv_T : Type := Nat × Nat × Nat × Int × Int × Nat × List sv_ft
def sv_u (x : Int) : Nat := (x % 4294967296).toNat
def sv_ul (x : Int) : Nat := (x % 18446744073709551616).toNat
def sv_g (z : Nat) : Int := if z < 2147483648 then (z : Int) else (z : Int) - 4294967296
def sv_I (x : Int) : Prop := -2147483648 ≤ x ∧ x < 2147483648
def sv_J (x : Int) : Prop := -9223372036854775808 ≤ x ∧ x < 9223372036854775808
theorem sv_u_lt (x : Int) : sv_u x < 4294967296 := by unfold sv_u; omega
theorem sv_ul_lt (x : Int) : sv_ul x < 18446744073709551616 := by unfold sv_ul; omega
theorem sv_g_I {z : Nat} (h : z < 4294967296) : sv_I (sv_g z) := by unfold sv_I sv_g; split <;> omega
theorem sv_u_g {z : Nat} (h : z < 4294967296) : sv_u (sv_g z) = z := by unfold sv_u sv_g; split <;> omega
theorem sv_g_u {x : Int} (h : sv_I x) : sv_g (sv_u x) = x := by unfold sv_I at h; unfold sv_g sv_u; split <;> omega
theorem sv_u_nn {x : Int} (h : 0 ≤ x) (h2 : x < 4294967296) : sv_u x = x.toNat := by unfold sv_u; rw [Int.emod_eq_of_lt h h2]
theorem sv_u_cong {x y : Int} (h : x % 4294967296 = y % 4294967296) : sv_u x = sv_u y := by unfold sv_u; rw [h]
/-- the code of a comparison's answer -/
def sv_cc (d : Int) : Nat := if d < 0 then 4294967295 else if d = 0 then 0 else 1
section
variable (ty : Nat → Option Nat)
def sv_vk (ρ : Nat → Int) (n : Nat) (v : sv_V) (c : ae_V) : Prop := sv_wf n v.2.2 ∧ match v.1 with
  | 0 => c = .inl (.inl (sv_u (sv_ev ρ v.2.2))) ∧ sv_I (sv_ev ρ v.2.2)
  | 1 => ∃ k : Nat, sv_ev ρ v.2.2 = k ∧ c = .inr (.inr (some k)) ∧ ty k = some v.2.1
  | 2 => c = .inr (.inr none)
  | 3 => (sv_ev ρ v.2.2 = -1 ∧ c = .inr (.inr none)) ∨ ∃ k : Nat, sv_ev ρ v.2.2 = k ∧ c = .inr (.inr (some k)) ∧ ty k = some v.2.1
  | 4 => c = .inr (.inl (sv_ul (sv_ev ρ v.2.2))) ∧ sv_J (sv_ev ρ v.2.2)
  | 5 => c = .inl (.inl (sv_cc (sv_ev ρ v.2.2)))
  | 6 => c = .inr (.inr (some v.2.1))
  | _ => False
def sv_fk (t : sv_ft) (c : ae_V) : Prop := match t.1 with
  | 0 => ∃ x : Int, c = .inl (.inl (sv_u x)) ∧ sv_I x ∧ t.2.1 ≤ x ∧ x ≤ t.2.2.1
  | 1 => ∃ k : Nat, c = .inr (.inr (some k)) ∧ ty k = some t.2.2.2
  | 3 => c = .inr (.inr none) ∨ ∃ k : Nat, c = .inr (.inr (some k)) ∧ ty k = some t.2.2.2
  | 4 => ∃ x : Int, c = .inr (.inl (sv_ul x)) ∧ sv_J x
  | _ => False
def sv_mb (m : Nat) (x : Int) : Prop := m = 0 ∨ (0 ≤ x ∧ m.testBit x.toNat = true)
def sv_ok (h : ae_H) (k : Nat) (T : sv_T) : Prop := match T.1 with
  | 0 => ∃ fs, ae_hg h k = some (.inr (T.2.1, fs)) ∧ fs.length = T.2.2.2.2.2.2.length ∧ ∀ (j : Nat) (t : sv_ft) (c : ae_V), T.2.2.2.2.2.2[j]? = some t → fs[j]? = some c → sv_fk ty t c
  | 1 => ∃ A, ae_hg h k = some (.inl (T.2.1, T.2.2.1, .inl A)) ∧ ∀ i, i < T.2.2.1 → T.2.2.2.1 ≤ sv_g (ae_rd 32 A i) ∧ sv_g (ae_rd 32 A i) ≤ T.2.2.2.2.1 ∧ sv_mb T.2.2.2.2.2.1 (sv_g (ae_rd 32 A i))
  | 2 => ∃ A, ae_hg h k = some (.inl (3, T.2.2.1, .inl A))
  | 3 => ∃ l, ae_hg h k = some (.inl (4, T.2.2.1, .inr (.inr l))) ∧ l.length = T.2.2.1 ∧ ∀ r ∈ l, ∃ k2 : Nat, r = some k2 ∧ ty k2 = some T.2.2.2.2.2.1
  | _ => False
variable (tt : List sv_T)
def sv_hk (h : ae_H) : Prop := ∀ k t, ty k = some t → ∃ T, tt[t]? = some T ∧ sv_ok ty h k T
/-- what a method may have changed: fields by type and place, rows by type and 0 -/
def sv_fr (mods : List (Nat × Nat)) (h h' : ae_H) : Prop := ∀ k t, ty k = some t → ∀ c, ae_hg h k = some c → match c with
  | .inl _ => (t, 0) ∉ mods → ae_hg h' k = some c
  | .inr (ci, fs) => ∃ fs', ae_hg h' k = some (.inr (ci, fs')) ∧ ∀ j, (t, j) ∉ mods → fs'[j]? = fs[j]?
abbrev sv_F : Type := (Nat × Nat × Nat) × sv_V
abbrev sv_M : Type := Nat × Nat × sv_L × sv_L
/-- a field of a thing that is known: symbol, type, place -/
def sv_Fk (ρ : Nat → Int) (n : Nat) (h : ae_H) (q : sv_F) : Prop := q.1.1 < n ∧ ∃ (k : Nat) (ci : Nat) (fs : List ae_V) (c : ae_V), ρ q.1.1 = k ∧ ty k = some q.1.2.1 ∧ ae_hg h k = some (.inr (ci, fs)) ∧ fs[q.1.2.2]? = some c ∧ sv_vk ty ρ n q.2 c
/-- a place of a row that is known: symbol, type, index, value -/
def sv_Mk (ρ : Nat → Int) (n : Nat) (h : ae_H) (q : sv_M) : Prop := q.1 < n ∧ sv_wf n q.2.2.1 ∧ sv_wf n q.2.2.2 ∧ ∃ (k tag len A i : Nat), ρ q.1 = k ∧ ty k = some q.2.1 ∧ ae_hg h k = some (.inl (tag, len, .inl A)) ∧ sv_ev ρ q.2.2.1 = i ∧ i < len ∧ sv_ev ρ q.2.2.2 = sv_g (ae_rd 32 A i)
def sv_sk (ρ : Nat → Int) (n : Nat) : List sv_V → List ae_V → Prop
  | [], cs => cs = []
  | v :: vs, cs => ∃ c cs', cs = c :: cs' ∧ sv_vk ty ρ n v c ∧ sv_sk ρ n vs cs'
def sv_lk (ρ : Nat → Int) (n : Nat) (vs : List (Nat × sv_V)) (cs : ae_L) : Prop := ∀ i v, ae_lk vs i = some v → ∃ c, ae_lk cs i = some c ∧ sv_vk ty ρ n v c
end
section
variable {ty : Nat → Option Nat} {ρ ρ' : Nat → Int} {n n' : Nat} {h : ae_H}
theorem sv_wf_up (hn : n ≤ n') {e : sv_L} (hw : sv_wf n e) : sv_wf n' e := sv_wl_up hn hw
theorem sv_vk.up (he : ∀ s, s < n → ρ' s = ρ s) (hn : n ≤ n') {v : sv_V} {c : ae_V} (hv : sv_vk ty ρ n v c) : sv_vk ty ρ' n' v c := by
  obtain ⟨hw, hv⟩ := hv
  refine ⟨sv_wf_up hn hw, ?_⟩
  rw [sv_ev_up he hw]; exact hv
theorem sv_sk.up (he : ∀ s, s < n → ρ' s = ρ s) (hn : n ≤ n') : ∀ {vs : List sv_V} {cs : List ae_V}, sv_sk ty ρ n vs cs → sv_sk ty ρ' n' vs cs
  | [], _, hv => hv
  | _ :: _, _, ⟨c, cs', e, h1, h2⟩ => ⟨c, cs', e, h1.up he hn, sv_sk.up he hn h2⟩
theorem sv_lk.up (he : ∀ s, s < n → ρ' s = ρ s) (hn : n ≤ n') {vs : List (Nat × sv_V)} {cs : ae_L} (hv : sv_lk ty ρ n vs cs) : sv_lk ty ρ' n' vs cs := fun i v hi => by
  obtain ⟨c, h1, h2⟩ := hv i v hi
  exact ⟨c, h1, h2.up he hn⟩
theorem sv_Fk.up (he : ∀ s, s < n → ρ' s = ρ s) (hn : n ≤ n') {q : sv_F} (hq : sv_Fk ty ρ n h q) : sv_Fk ty ρ' n' h q := by
  obtain ⟨h0, k, ci, fs, c, h1, h2, h3, h4, h5⟩ := hq
  exact ⟨Nat.lt_of_lt_of_le h0 hn, k, ci, fs, c, (he _ h0).trans h1, h2, h3, h4, h5.up he hn⟩
theorem sv_Mk.up (he : ∀ s, s < n → ρ' s = ρ s) (hn : n ≤ n') {q : sv_M} (hq : sv_Mk ty ρ n h q) : sv_Mk ty ρ' n' h q := by
  obtain ⟨h0, w1, w2, k, tag, len, A, i, h1, h2, h3, h4, h5, h6⟩ := hq
  exact ⟨Nat.lt_of_lt_of_le h0 hn, sv_wf_up hn w1, sv_wf_up hn w2, k, tag, len, A, i, (he _ h0).trans h1, h2, h3, (sv_ev_up he w1).trans h4, h5, (sv_ev_up he w2).trans h6⟩
end
