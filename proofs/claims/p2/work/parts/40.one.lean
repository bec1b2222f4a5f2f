/-! THE VERIFIER'S STEPS: what neither touches the heap nor calls -/
noncomputable def sx_bin (f : sv_A → sv_L → sv_L → (sv_A → sv_L → Bool) → Bool) (S : sv_S) (K : sv_S → Bool) : Bool := match S.2.2.1 with
  | (0, _, y) :: (0, _, x) :: rest => f S.1 x y fun a e => K (a, S.2.1, (0, 0, e) :: rest, S.2.2.2)
  | _ => false
noncomputable def sx_psh (S : sv_S) (v : sv_V) (K : sv_S → Bool) : Bool := K (S.1, S.2.1, v :: S.2.2.1, S.2.2.2)
/-- any long -/
noncomputable def sx_lng (S : sv_S) (rest : List sv_V) (K : sv_S → Bool) : Bool := sv_nw S.1 (-9223372036854775808) 9223372036854775807 fun a e => K (a, S.2.1, (4, 0, e) :: rest, S.2.2.2)
def sx_st1 (lv : List (Nat × sv_V)) (i : Nat) (v : sv_V) : List (Nat × sv_V) := (i, v) :: lv.filter (fun q => !(q.1 == i) && !(q.1 + 1 == i && q.2.1 == 4))
def sx_st2 (lv : List (Nat × sv_V)) (i : Nat) (v : sv_V) : List (Nat × sv_V) := (i, v) :: lv.filter (fun q => !(q.1 == i) && (!(q.1 == i + 1) && !(q.1 + 1 == i && q.2.1 == 4)))
section
variable {ty : Nat → Option Nat} {tt : List sv_T} {op : Nat → ae_H → Nat → Nat → Int → Int → Int → Int → Prop} {ρ0 : Nat → Int} {n0 : Nat} {mods : List (Nat × Nat)} {h0 : ae_H} {ρ : Nat → Int} {S : sv_S} {lv : ae_L} {st : List ae_V} {h : ae_H}
theorem sv_cat {n : Nat} {v : sv_V} {c : ae_V} (hv : sv_vk ty ρ n v c) : (ae_cat c = 2 ↔ v.1 = 4) ∧ (ae_cat c = 1 ∨ ae_cat c = 2) := by
  obtain ⟨-, hv⟩ := hv
  obtain ⟨kd, t, e⟩ := v
  match kd, hv with
  | 0, hv => rw [hv.1]; exact ⟨⟨fun z => (by cases z), fun z => (by cases z)⟩, Or.inl rfl⟩
  | 1, ⟨k, h1, h2, h3⟩ => rw [h2]; exact ⟨⟨fun z => (by cases z), fun z => (by cases z)⟩, Or.inl rfl⟩
  | 2, hv => rw [show c = _ from hv]; exact ⟨⟨fun z => (by cases z), fun z => (by cases z)⟩, Or.inl rfl⟩
  | 3, hv =>
    rcases hv with ⟨-, h2⟩ | ⟨k, h1, h2, h3⟩
    · rw [h2]; exact ⟨⟨fun z => (by cases z), fun z => (by cases z)⟩, Or.inl rfl⟩
    · rw [h2]; exact ⟨⟨fun z => (by cases z), fun z => (by cases z)⟩, Or.inl rfl⟩
  | 4, hv => rw [hv.1]; exact ⟨⟨fun _ => rfl, fun _ => rfl⟩, Or.inr rfl⟩
  | 5, hv => rw [show c = _ from hv]; exact ⟨⟨fun z => (by cases z), fun z => (by cases z)⟩, Or.inl rfl⟩
  | 6, hv => rw [show c = _ from hv]; exact ⟨⟨fun z => (by cases z), fun z => (by cases z)⟩, Or.inl rfl⟩
  | n + 7, hv => exact hv.elim
theorem sv_lk_flt {n : Nat} (f : Nat → Bool → Bool) : ∀ {vs : List (Nat × sv_V)} {cs : ae_L}, sv_lk ty ρ n vs cs → sv_lk ty ρ n (vs.filter (fun q => f q.1 (q.2.1 == 4))) (cs.filter (fun q => f q.1 (ae_cat q.2 == 2)))
  | [], cs, hv => by rw [show cs = [] from hv]; rfl
  | v :: vs, _, ⟨c, cs', e, h1, h2⟩ => by
    subst e
    have ih := sv_lk_flt f h2
    have hc : (ae_cat c == 2) = (v.2.1 == 4) := by
      have := (sv_cat h1).1
      by_cases z : v.2.1 = 4
      · rw [this.mpr z, z]; rfl
      · have z2 : ¬ ae_cat c = 2 := fun q => z (this.mp q)
        rw [beq_false_of_ne z, beq_false_of_ne z2]
    rw [List.filter_cons, List.filter_cons]
    show sv_lk ty ρ n (if f v.1 (v.2.1 == 4) = true then _ else _) (if f v.1 (ae_cat c == 2) = true then _ else _)
    rw [hc]
    split
    · exact ⟨c, _, rfl, h1, ih⟩
    · exact ih
theorem sv_lk_st1 {n : Nat} {vs : List (Nat × sv_V)} {cs : ae_L} (hl : sv_lk ty ρ n vs cs) (i : Nat) {v : sv_V} {c : ae_V} (hv : sv_vk ty ρ n v c) : sv_lk ty ρ n (sx_st1 vs i v) (ae_st1 cs i c) :=
  ⟨c, _, rfl, hv, sv_lk_flt (fun a b => !(a == i) && !(a + 1 == i && b)) hl⟩
theorem sv_lk_st2 {n : Nat} {vs : List (Nat × sv_V)} {cs : ae_L} (hl : sv_lk ty ρ n vs cs) (i : Nat) {v : sv_V} {c : ae_V} (hv : sv_vk ty ρ n v c) : sv_lk ty ρ n (sx_st2 vs i v) (ae_st2 cs i c) :=
  ⟨c, _, rfl, hv, sv_lk_flt (fun a b => !(a == i) && (!(a == i + 1) && !(a + 1 == i && b))) hl⟩
theorem sv_lk_get {n i : Nat} {v : sv_V} : ∀ {vs : List (Nat × sv_V)} {cs : ae_L}, sv_lk ty ρ n vs cs → ae_lk vs i = some v → ∃ c, ae_lk cs i = some c ∧ sv_vk ty ρ n v c
  | [], _, _, hg => by cases hg
  | q :: vs, _, ⟨c, cs', e, h1, h2⟩, hg => by
    subst e
    have hg : cond (Nat.beq q.1 i) (some q.2) (ae_lk vs i) = some v := hg
    show ∃ d, cond (Nat.beq q.1 i) (some c) (ae_lk cs' i) = some d ∧ _
    cases hb : Nat.beq q.1 i with
    | true => rw [hb, cond_true] at hg; cases hg; exact ⟨c, rfl, h1⟩
    | false => rw [hb, cond_false] at hg; exact sv_lk_get h2 hg
/-- an int result on the stack -/
theorem sv_R_int {z : Nat} {K : sv_S → Bool} {rest : List sv_V} {crest : List ae_V} (hR : sv_R ty tt op ρ0 n0 mods h0 ρ S lv st h) (hr : sv_sk ty ρ S.1.1 rest crest) (hs : sv_res ρ S.1 (fun a e => K (a, S.2.1, (0, 0, e) :: rest, S.2.2.2)) z) : ∃ ρ2 S2, K S2 = true ∧ sv_R ty tt op ρ0 n0 mods h0 ρ2 S2 lv (ae_i z :: crest) h := by
  obtain ⟨ha, ⟨hn, h00⟩, hl, -, hh, ht⟩ := hR
  obtain ⟨ρ2, a2, e2, k2, r2, n2, u2, w2, i2, z2⟩ := hs
  refine ⟨ρ2, _, k2, r2, ⟨by show n0 ≤ a2.1; omega, fun s hs => (u2 s (by omega)).trans (h00 s hs)⟩, hl.up u2 n2, ⟨_, _, rfl, ⟨w2, ?_, i2⟩, hr.up u2 n2⟩, hh.up u2 n2, ht⟩
  rw [z2]; rfl
/-- a value on the stack that is worth what the machine has there -/
theorem sv_R_psh {v : sv_V} {c : ae_V} {rest : List sv_V} {crest : List ae_V} (hR : sv_R ty tt op ρ0 n0 mods h0 ρ S lv st h) (hr : sv_sk ty ρ S.1.1 rest crest) (hv : sv_vk ty ρ S.1.1 v c) : sv_R ty tt op ρ0 n0 mods h0 ρ (S.1, S.2.1, v :: rest, S.2.2.2) lv (c :: crest) h := by
  obtain ⟨ha, hn, hl, -, hh, ht⟩ := hR
  exact ⟨ha, hn, hl, ⟨c, crest, rfl, hv, hr⟩, hh, ht⟩
theorem sv_R_stk {rest : List sv_V} {crest : List ae_V} (hR : sv_R ty tt op ρ0 n0 mods h0 ρ S lv st h) (hr : sv_sk ty ρ S.1.1 rest crest) : sv_R ty tt op ρ0 n0 mods h0 ρ (S.1, S.2.1, rest, S.2.2.2) lv crest h := by
  obtain ⟨ha, hn, hl, -, hh, ht⟩ := hR
  exact ⟨ha, hn, hl, hr, hh, ht⟩
/-- more is known of numbers -/
theorem sv_R_ar {a2 : sv_A} {rest : List sv_V} {crest : List ae_V} (hR : sv_R ty tt op ρ0 n0 mods h0 ρ S lv st h) (hr : sv_sk ty ρ S.1.1 rest crest) (ha : sv_ak ρ a2) (he : a2.1 = S.1.1) : sv_R ty tt op ρ0 n0 mods h0 ρ (a2, S.2.1, rest, S.2.2.2) lv crest h := by
  obtain ⟨-, hn, hl, -, hh, ht⟩ := hR
  refine ⟨ha, ?_, ?_, ?_, ?_, ht⟩
  · show n0 ≤ a2.1 ∧ _; rw [he]; exact hn
  · show sv_lk ty ρ a2.1 _ _; rw [he]; exact hl
  · show sv_sk ty ρ a2.1 _ _; rw [he]; exact hr
  · show sv_Hk ty op ρ a2.1 _ _ _ _; rw [he]; exact hh
theorem sv_R_lng {z : Nat} {K : sv_S → Bool} {rest : List sv_V} {crest : List ae_V} (hR : sv_R ty tt op ρ0 n0 mods h0 ρ S lv st h) (hr : sv_sk ty ρ S.1.1 rest crest) (hz : z < 18446744073709551616) (hs : sx_lng S rest K = true) : ∃ ρ2 S2, K S2 = true ∧ sv_R ty tt op ρ0 n0 mods h0 ρ2 S2 lv (ae_j z :: crest) h := by
  obtain ⟨ha, ⟨hn, h00⟩, hl, -, hh, ht⟩ := hR
  unfold sx_lng at hs
  have hv : ∃ v : Int, sv_J v ∧ sv_ul v = z := by
    by_cases q : z < 9223372036854775808
    · exact ⟨z, by unfold sv_J; omega, by have := sv_ulc (z : Int); omega⟩
    · exact ⟨(z : Int) - 18446744073709551616, by unfold sv_J; omega, by have := sv_ulc ((z : Int) - 18446744073709551616); omega⟩
  obtain ⟨v, hJ, hz⟩ := hv
  obtain ⟨hlt, a2, k2, r2, e2, v2⟩ := sv_nw_ok (v := v) ha (by unfold sv_J at hJ; omega) (by unfold sv_J at hJ; omega) hs
  have hup := sv_up_lt (ρ := ρ) (v := v) hlt
  have hle : S.1.1 ≤ a2.1 := by omega
  refine ⟨_, _, k2, r2, ⟨by show n0 ≤ a2.1; omega, fun s hs => (hup s (by omega)).trans (h00 s hs)⟩, hl.up hup hle, ⟨_, _, rfl, ⟨by show sv_wf a2.1 _; rw [e2]; exact sv_wf1 _, ?_, ?_⟩, hr.up hup hle⟩, hh.up hup hle, ht⟩
  · rw [v2, hz]; rfl
  · rw [v2]; exact hJ
end
