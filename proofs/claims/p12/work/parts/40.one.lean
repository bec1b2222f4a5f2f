/-! THE VERIFIER'S STEPS: what neither touches the heap nor calls -/
noncomputable def sx_bin (f : sv_A → sv_L → sv_L → (sv_A → sv_L → Bool) → Bool) (S : sv_S) (K : sv_S → Bool) : Bool := match S.2.2.1 with
  | (0, _, y) :: (0, _, x) :: rest => f S.1 x y fun a e => K (a, S.2.1, (0, 0, e) :: rest, S.2.2.2)
  | _ => false
noncomputable def sx_psh (S : sv_S) (v : sv_V) (K : sv_S → Bool) : Bool := K (S.1, S.2.1, v :: S.2.2.1, S.2.2.2)
/-- any long -/
noncomputable def sx_lng (S : sv_S) (rest : List sv_V) (K : sv_S → Bool) : Bool := sv_nw S.1 (-9223372036854775808) 9223372036854775807 fun a e => K (a, S.2.1, (4, 0, e) :: rest, S.2.2.2)
/-- does a long begin at the place ahead -/
noncomputable def sx_lg (lv : List (Nat × sv_V)) (i : Nat) : Bool := match ae_lk lv (Nat.sub i 1) with
  | some v => Nat.beq v.1 4
  | none => false
noncomputable def sx_st1 (lv : List (Nat × sv_V)) (i : Nat) (v : sv_V) : List (Nat × sv_V) := (i, v) :: sv_flt (fun q => not (or (Nat.beq q.1 i) (and (Nat.beq (Nat.succ q.1) i) (sx_lg lv i)))) lv
noncomputable def sx_st2 (lv : List (Nat × sv_V)) (i : Nat) (v : sv_V) : List (Nat × sv_V) := (i, v) :: sv_flt (fun q => not (or (or (Nat.beq q.1 i) (Nat.beq q.1 (Nat.succ i))) (and (Nat.beq (Nat.succ q.1) i) (sx_lg lv i)))) lv
section
variable {ty : Nat → Option Nat} {tt : List sv_T} {op : Nat → ae_H → Nat → Nat → Int → Int → Int → Int → Prop} {ρ0 : Nat → Int} {n0 : Nat} {mods : List (Nat × Nat)} {h0 : ae_H} {ρ : Nat → Int} {S : sv_S} {lv : ae_L} {st : List ae_V} {h : ae_H}
theorem sv_cat {n : Nat} {v : sv_V} {c : ae_V} (hv : sv_vk ty ρ n v c) : (ae_cat c = 2 ↔ v.1 = 4) ∧ (ae_cat c = 1 ∨ ae_cat c = 2) := by
  obtain ⟨-, hv⟩ := hv
  obtain ⟨kd, t, e⟩ := v
  match kd, hv with
  | 0, hv => rw [hv.1]; exact ⟨⟨fun z => (by cases z), fun z => (by cases z)⟩, Or.inl rfl⟩
  | 1, ⟨k, h1, h2, h3⟩ => rw [h2]; exact ⟨⟨fun z => (by cases z), fun z => (by cases z)⟩, Or.inl rfl⟩
  | 2, hv => rw [show c = _ from hv]; exact ⟨⟨fun z => (by cases z), fun z => (by cases z)⟩, Or.inl rfl⟩
  | 3, hv =>
    rcases hv with ⟨-, h2⟩ | ⟨k, h1, h2, h3⟩
    · rw [h2]; exact ⟨⟨fun z => (by cases z), fun z => (by cases z)⟩, Or.inl rfl⟩
    · rw [h2]; exact ⟨⟨fun z => (by cases z), fun z => (by cases z)⟩, Or.inl rfl⟩
  | 4, hv => rw [hv.1]; exact ⟨⟨fun _ => rfl, fun _ => rfl⟩, Or.inr rfl⟩
  | 5, hv => rw [show c = _ from hv]; exact ⟨⟨fun z => (by cases z), fun z => (by cases z)⟩, Or.inl rfl⟩
  | 6, hv => rw [show c = _ from hv]; exact ⟨⟨fun z => (by cases z), fun z => (by cases z)⟩, Or.inl rfl⟩
  | n + 7, hv => exact hv.elim
theorem sv_lk_fi {α : Type} {f : Nat → Bool} : ∀ {l : List (Nat × α)} {i : Nat} {v : α}, ae_lk (sv_flt (fun q => f q.1) l) i = some v → ae_lk l i = some v ∧ f i = true
  | [], i, v, hh => by cases hh
  | q :: l, i, v, hh => by
    have hh : ae_lk (cond (f q.1) (q :: sv_flt (fun q => f q.1) l) (sv_flt (fun q => f q.1) l)) i = some v := hh
    show cond (Nat.beq q.1 i) (some q.2) (ae_lk l i) = some v ∧ _
    cases hf : f q.1 with
    | true =>
      rw [hf, cond_true] at hh
      have hh : cond (Nat.beq q.1 i) (some q.2) (ae_lk (sv_flt (fun q => f q.1) l) i) = some v := hh
      cases hb : Nat.beq q.1 i with
      | true => rw [hb, cond_true] at hh; rw [cond_true]; exact ⟨hh, by rw [← Nat.eq_of_beq_eq_true hb]; exact hf⟩
      | false => rw [hb, cond_false] at hh; rw [cond_false]; exact sv_lk_fi hh
    | false =>
      rw [hf, cond_false] at hh
      obtain ⟨g1, g2⟩ := sv_lk_fi hh
      cases hb : Nat.beq q.1 i with
      | true =>
        rw [Nat.eq_of_beq_eq_true hb, g2] at hf; cases hf
      | false => rw [cond_false]; exact ⟨g1, g2⟩
theorem ae_lk_fi {α : Type} {p : Nat × α → Bool} : ∀ {l : List (Nat × α)} {i : Nat} {c : α}, ae_lk l i = some c → p (i, c) = true → ae_lk (l.filter p) i = some c
  | [], i, c, hh, _ => by cases hh
  | q :: l, i, c, hh, hp => by
    have hh : cond (Nat.beq q.1 i) (some q.2) (ae_lk l i) = some c := hh
    rw [List.filter_cons]
    cases hb : Nat.beq q.1 i with
    | true =>
      rw [hb, cond_true] at hh
      have e : q = (i, c) := Prod.ext (Nat.eq_of_beq_eq_true hb) (Option.some.inj hh)
      rw [e, hp, if_pos rfl]
      show cond (Nat.beq i i) (some c) _ = _
      rw [Nat.beq_refl, cond_true]
    | false =>
      rw [hb, cond_false] at hh
      split
      · show cond (Nat.beq q.1 i) (some q.2) (ae_lk (l.filter p) i) = _
        rw [hb, cond_false]; exact ae_lk_fi hh hp
      · exact ae_lk_fi hh hp
theorem sv_lk_c {n : Nat} {vs vs2 : List (Nat × sv_V)} {cs cs2 : ae_L} {i : Nat} {v : sv_V} {c : ae_V} (hv : sv_vk ty ρ n v c) (hl : sv_lk ty ρ n vs2 cs2) (e1 : vs = (i, v) :: vs2) (e2 : cs = (i, c) :: cs2) : sv_lk ty ρ n vs cs := fun j w hj => by
  subst e1 e2
  have hj : cond (Nat.beq i j) (some v) (ae_lk vs2 j) = some w := hj
  show ∃ d, cond (Nat.beq i j) (some c) (ae_lk cs2 j) = some d ∧ _
  cases hb : Nat.beq i j with
  | true => rw [hb, cond_true] at hj; cases hj; exact ⟨c, rfl, hv⟩
  | false => rw [hb, cond_false] at hj; exact hl j w hj
theorem sv_lg_ok {n : Nat} {vs : List (Nat × sv_V)} {cs : ae_L} (hl : sv_lk ty ρ n vs cs) {i j : Nat} {w : sv_V} {d : ae_V} (hj : ae_lk vs j = some w) (hd : sv_vk ty ρ n w d) (hne : (and (Nat.beq (Nat.succ j) i) (sx_lg vs i)) = false) : (j + 1 == i && ae_cat d == 2) = false := by
  by_cases e : j + 1 = i
  · subst e
    rw [Nat.beq_refl, Bool.true_and] at hne
    unfold sx_lg at hne
    rw [show Nat.sub (j + 1) 1 = j from rfl, hj] at hne
    have := sv_cat hd
    have h1 : ¬ ae_cat d = 2 := fun z => by
      have hne : Nat.beq w.1 4 = false := hne
      rw [this.1.mp z] at hne; cases hne
    rw [beq_false_of_ne h1, Bool.and_false]
  · rw [beq_false_of_ne e, Bool.false_and]
theorem sv_lk_st1 {n : Nat} {vs : List (Nat × sv_V)} {cs : ae_L} (hl : sv_lk ty ρ n vs cs) (i : Nat) {v : sv_V} {c : ae_V} (hv : sv_vk ty ρ n v c) : sv_lk ty ρ n (sx_st1 vs i v) (ae_st1 cs i c) := by
  refine sv_lk_c hv (fun j w hj => ?_) rfl rfl
  obtain ⟨h1, h2⟩ := sv_lk_fi (f := fun x => not (or (Nat.beq x i) (and (Nat.beq (Nat.succ x) i) (sx_lg vs i)))) hj
  rw [Bool.not_eq_true', Bool.or_eq_false_iff] at h2
  obtain ⟨d, g1, g2⟩ := hl j w h1
  refine ⟨d, ae_lk_fi g1 ?_, g2⟩
  have hne : j ≠ i := fun z => by rw [z, Nat.beq_refl] at h2; exact absurd h2.1 (by decide)
  show (!(j == i) && !(j + 1 == i && ae_cat d == 2)) = true
  rw [beq_false_of_ne hne, sv_lg_ok hl h1 g2 h2.2]; rfl
theorem sv_lk_st2 {n : Nat} {vs : List (Nat × sv_V)} {cs : ae_L} (hl : sv_lk ty ρ n vs cs) (i : Nat) {v : sv_V} {c : ae_V} (hv : sv_vk ty ρ n v c) : sv_lk ty ρ n (sx_st2 vs i v) (ae_st2 cs i c) := by
  refine sv_lk_c hv (fun j w hj => ?_) rfl rfl
  obtain ⟨h1, h2⟩ := sv_lk_fi (f := fun x => not (or (or (Nat.beq x i) (Nat.beq x (Nat.succ i))) (and (Nat.beq (Nat.succ x) i) (sx_lg vs i)))) hj
  rw [Bool.not_eq_true', Bool.or_eq_false_iff, Bool.or_eq_false_iff] at h2
  obtain ⟨d, g1, g2⟩ := hl j w h1
  refine ⟨d, ae_lk_fi g1 ?_, g2⟩
  have hne : j ≠ i := fun z => by rw [z, Nat.beq_refl] at h2; exact absurd h2.1.1 (by decide)
  have hne2 : j ≠ i + 1 := fun z => by rw [z, Nat.beq_refl] at h2; exact absurd h2.1.2 (by decide)
  show (!(j == i) && (!(j == i + 1) && !(j + 1 == i && ae_cat d == 2))) = true
  rw [beq_false_of_ne hne, beq_false_of_ne hne2, sv_lg_ok hl h1 g2 h2.2]; rfl
theorem sv_lk_get {n i : Nat} {v : sv_V} {vs : List (Nat × sv_V)} {cs : ae_L} (hl : sv_lk ty ρ n vs cs) (hg : ae_lk vs i = some v) : ∃ c, ae_lk cs i = some c ∧ sv_vk ty ρ n v c := hl i v hg
/-- an int result on the stack -/
theorem sv_R_int {z : Nat} {K : sv_S → Bool} {rest : List sv_V} {crest : List ae_V} (hR : sv_R ty tt op ρ0 n0 mods h0 ρ S lv st h) (hr : sv_sk ty ρ S.1.1 rest crest) (hs : sv_res ρ S.1 (fun a e => K (a, S.2.1, (0, 0, e) :: rest, S.2.2.2)) z) : ∃ ρ2 S2, K S2 = true ∧ sv_R ty tt op ρ0 n0 mods h0 ρ2 S2 lv (ae_i z :: crest) h := by
  obtain ⟨ha, ⟨hn, h00⟩, hl, -, hh, ht⟩ := hR
  obtain ⟨ρ2, a2, e2, k2, r2, n2, u2, w2, i2, z2⟩ := hs
  refine ⟨ρ2, _, k2, r2, ⟨by show n0 ≤ a2.1; omega, fun s hs => (u2 s (by omega)).trans (h00 s hs)⟩, hl.up u2 n2, ⟨_, _, rfl, ⟨w2, ?_, i2⟩, hr.up u2 n2⟩, hh.up u2 n2, ht⟩
  rw [z2]; rfl
/-- a value on the stack that is worth what the machine has there -/
theorem sv_R_psh {v : sv_V} {c : ae_V} {rest : List sv_V} {crest : List ae_V} (hR : sv_R ty tt op ρ0 n0 mods h0 ρ S lv st h) (hr : sv_sk ty ρ S.1.1 rest crest) (hv : sv_vk ty ρ S.1.1 v c) : sv_R ty tt op ρ0 n0 mods h0 ρ (S.1, S.2.1, v :: rest, S.2.2.2) lv (c :: crest) h := by
  obtain ⟨ha, hn, hl, -, hh, ht⟩ := hR
  exact ⟨ha, hn, hl, ⟨c, crest, rfl, hv, hr⟩, hh, ht⟩
theorem sv_R_stk {rest : List sv_V} {crest : List ae_V} (hR : sv_R ty tt op ρ0 n0 mods h0 ρ S lv st h) (hr : sv_sk ty ρ S.1.1 rest crest) : sv_R ty tt op ρ0 n0 mods h0 ρ (S.1, S.2.1, rest, S.2.2.2) lv crest h := by
  obtain ⟨ha, hn, hl, -, hh, ht⟩ := hR
  exact ⟨ha, hn, hl, hr, hh, ht⟩
/-- more is known of numbers -/
theorem sv_R_ar {a2 : sv_A} {rest : List sv_V} {crest : List ae_V} (hR : sv_R ty tt op ρ0 n0 mods h0 ρ S lv st h) (hr : sv_sk ty ρ S.1.1 rest crest) (ha : sv_ak ρ a2) (he : a2.1 = S.1.1) : sv_R ty tt op ρ0 n0 mods h0 ρ (a2, S.2.1, rest, S.2.2.2) lv crest h := by
  obtain ⟨-, hn, hl, -, hh, ht⟩ := hR
  refine ⟨ha, ?_, ?_, ?_, ?_, ht⟩
  · show n0 ≤ a2.1 ∧ _; rw [he]; exact hn
  · show sv_lk ty ρ a2.1 _ _; rw [he]; exact hl
  · show sv_sk ty ρ a2.1 _ _; rw [he]; exact hr
  · show sv_Hk ty op ρ a2.1 _ _ _ _; rw [he]; exact hh
theorem sv_R_lng {z : Nat} {K : sv_S → Bool} {rest : List sv_V} {crest : List ae_V} (hR : sv_R ty tt op ρ0 n0 mods h0 ρ S lv st h) (hr : sv_sk ty ρ S.1.1 rest crest) (hz : z < 18446744073709551616) (hs : sx_lng S rest K = true) : ∃ ρ2 S2, K S2 = true ∧ sv_R ty tt op ρ0 n0 mods h0 ρ2 S2 lv (ae_j z :: crest) h := by
  obtain ⟨ha, ⟨hn, h00⟩, hl, -, hh, ht⟩ := hR
  unfold sx_lng at hs
  have hv : ∃ v : Int, sv_J v ∧ sv_ul v = z := by
    by_cases q : z < 9223372036854775808
    · exact ⟨z, by unfold sv_J; omega, by have := sv_ulc (z : Int); omega⟩
    · exact ⟨(z : Int) - 18446744073709551616, by unfold sv_J; omega, by have := sv_ulc ((z : Int) - 18446744073709551616); omega⟩
  obtain ⟨v, hJ, hz⟩ := hv
  obtain ⟨hlt, a2, k2, r2, e2, v2⟩ := sv_nw_ok (v := v) ha (by unfold sv_J at hJ; omega) (by unfold sv_J at hJ; omega) hs
  have hup := sv_up_lt (ρ := ρ) (v := v) hlt
  have hle : S.1.1 ≤ a2.1 := by omega
  refine ⟨_, _, k2, r2, ⟨by show n0 ≤ a2.1; omega, fun s hs => (hup s (by omega)).trans (h00 s hs)⟩, hl.up hup hle, ⟨_, _, rfl, ⟨by show sv_wf a2.1 _; rw [e2]; exact sv_wf1 _, ?_, ?_⟩, hr.up hup hle⟩, hh.up hup hle, ht⟩
  · rw [v2, hz]; rfl
  · rw [v2]; exact hJ
end
