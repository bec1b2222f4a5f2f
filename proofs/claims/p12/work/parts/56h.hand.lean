/-! A METHOD AGAINST ITS CONTRACT, some cuts walked by hand -/
noncomputable def sx_meth2 (tt : List sv_T) (od : Nat → List (Nat × Nat)) (ct : Nat → List sv_C) (C : sv_C) (cuts : List sv_cu) (sps : List sv_sp) (fuel : Nat) (fl hand : List Nat) : Bool :=
  and (sx_pb C.2.2.1) (and (sx_al (fun P => Nat.ble C.2.2.1.2.1.length P.2.1.length) C.2.2.2) (and (sx_al (fun c : sv_sp => Nat.ble C.2.2.1.2.1.length c.2.1.2.1.length) sps) (and (sx_al (fun c => and (sx_pb c.2.1) (and (Nat.ble C.2.2.1.2.1.length c.2.1.2.1.length) (sx_al (fun q => Nat.blt q.1 c.2.1.2.1.length) c.2.2.1.2))) cuts) (and (sx_run tt od C.2.1 ct fuel C.1 0 fl (sv_ini C.2.2.1) (sx_rt tt C) (sx_cut tt C.2.2.1.2.1.length none cuts sps)) (sx_al (fun c => or (sx_fr hand c.1) (sx_run tt od C.2.1 ct fuel C.1 c.1 (c.1 :: c.2.2.2) (sv_ini c.2.1) (sx_rt tt C) (sx_cut tt C.2.2.1.2.1.length (some c.2.2.1) cuts sps))) cuts)))))
/-- what is owed for a cut that is walked by hand -/
def sv_hnd (ty : Nat → Option Nat) (tt : List sv_T) (op : Nat → ae_H → Nat → Nat → Int → Int → Int → Int → Prop) (C : sv_C) (cuts : List sv_cu) (c : sv_cu) : Prop := ∀ (ρ : Nat → Int) (lv : ae_L) (h : ae_H) (Q : ae_R → Prop), sv_hk ty tt h → sv_Pk ty op ρ c.2.1 lv h →
  (∀ c2 ∈ cuts, ∀ (ρ2 : Nat → Int) (lv2 : ae_L) (h2 : ae_H), sv_Pk ty op ρ2 c2.2.1 lv2 h2 → (∀ s, s < C.2.2.1.2.1.length → ρ2 s = ρ s) → sv_Tk ty tt C.2.1 h h2 → sv_ev ρ2 c2.2.2.1 < sv_ev ρ c.2.2.1 → 0 < sv_ev ρ c.2.2.1 → sv_G Q C.1 c2.1 lv2 [] h2) →
  (∀ r, sv_post ty tt op C ρ h r → Q r) → sv_G Q C.1 c.1 lv [] h
section
variable {ty : Nat → Option Nat} {tt : List sv_T} {op : Nat → ae_H → Nat → Nat → Int → Int → Int → Int → Prop} {od : Nat → List (Nat × Nat)} {ct : Nat → List sv_C} {C : sv_C}
theorem sx_meth2_ok {cuts : List sv_cu} {sps : List sv_sp} {fuel : Nat} {fl hand : List Nat} (hty : ∀ q t, ty q = some t → q < 256) (ho : sv_opk ty op od) (hct : ∀ mj, ∀ C ∈ ct mj, C.1 = mj ∧ sv_ctk ty tt op C) (hh : ∀ c ∈ cuts, sx_fr hand c.1 = true → sv_hnd ty tt op C cuts c) (hs : sx_meth2 tt od ct C cuts sps fuel fl hand = true) : sv_ctk ty tt op C := by
  unfold sx_meth2 at hs
  simp only [Bool.and_eq_true] at hs
  obtain ⟨s1, s2, s3, s4, s5, s6⟩ := hs
  have hl : ∀ P ∈ C.2.2.2, C.2.2.1.2.1.length ≤ P.2.1.length := fun P hP => Nat.le_of_ble_eq_true (sx_al_ok s2 P hP)
  have hp : ∀ c ∈ sps, C.2.2.1.2.1.length ≤ c.2.1.2.1.length := fun c hc => Nat.le_of_ble_eq_true (sx_al_ok s3 c hc)
  have hc4 : ∀ c ∈ cuts, sx_pb c.2.1 = true ∧ C.2.2.1.2.1.length ≤ c.2.1.2.1.length ∧ sv_wf c.2.1.2.1.length c.2.2.1 := fun c hc => by
    have := sx_al_ok s4 c hc
    simp only [Bool.and_eq_true] at this
    exact ⟨this.1, Nat.le_of_ble_eq_true this.2.1, fun q hq => Nat.le_of_ble_eq_true (sx_al_ok this.2.2 q hq)⟩
  have hcN : ∀ c ∈ cuts, C.2.2.1.2.1.length ≤ c.2.1.2.1.length := fun c hc => (hc4 c hc).2.1
  intro ρ lv h hk hP
  have key : ∀ (m : Nat) (c : sv_cu), c ∈ cuts → ∀ (ρ' : Nat → Int) (lv' : ae_L) (h' : ae_H), sv_Pk ty op ρ' c.2.1 lv' h' → (∀ s, s < C.2.2.1.2.1.length → ρ' s = ρ s) → sv_Tk ty tt C.2.1 h h' → (sv_ev ρ' c.2.2.1).toNat = m → sv_G (sv_post ty tt op C ρ h) C.1 c.1 lv' [] h' := by
    intro m
    induction m using Nat.strongRecOn with
    | ind m ih =>
      intro c hc ρ' lv' h' hPk hag hT hm
      have h6 := sx_al_ok s6 c hc
      rw [Bool.or_eq_true] at h6
      rcases h6 with h6 | h6
      · refine hh c hc h6 ρ' lv' h' _ hT.1 hPk (fun c2 hc2 ρ2 lv2 h2 q1 q2 q3 g1 g2 => ?_) (fun r hr => ?_)
        · exact ih _ (by omega) c2 hc2 ρ2 lv2 h2 q1 (fun s hs => (q2 s hs).trans (hag s hs)) ⟨q3.1, hT.2.tr q3.2⟩ rfl
        · obtain ⟨P, hP1, ρ2, a1, a2, a3, a4⟩ := hr
          exact ⟨P, hP1, ρ2, fun s hs => (a1 s hs).trans (hag s hs), a2, ⟨a3.1, hT.2.tr a3.2⟩, a4⟩
      · obtain ⟨b1, b2, b3⟩ := hc4 c hc
        obtain ⟨hR, hper⟩ := sv_ini_ok (ρ0 := sv_per c.2.1.2.1.length ρ') (n0 := c.2.1.2.1.length) b1 hPk (Nat.le_refl _) (fun s hs => by
          have hN : c.2.1.2.1.length ≤ 512 := by
            unfold sx_pb at b1
            rw [Bool.and_eq_true] at b1
            exact Nat.le_of_ble_eq_true b1.1
          exact (sv_per_lt hN ρ' s hs).symm) hT
        refine sx_run_ok hty ho hct fuel _ _ C.1 c.1 _ _ _ _ _ lv' [] h' _ h6 hR (fun S ρ2 lv2 st2 h2 v cc hrt r2 hro => ?_) (fun pc f S ρ2 lv2 st2 h2 hcu hf r2 => ?_)
        · exact sx_rt_ok hty b2 hl (fun s hs => (hper s (by omega)).trans (hag s hs)) r2 hro hrt
        · obtain ⟨c2, hc2, e2, ρ3, q1, q2, q3, q4⟩ := sx_cut_ok hty b2 hcN hp hcu r2 hf
          obtain ⟨g1, g2⟩ := q4 _ rfl b3
          have e3 : sv_ev (sv_per c.2.1.2.1.length ρ') c.2.2.1 = sv_ev ρ' c.2.2.1 := sv_ev_up hper b3
          rw [e3] at g1 g2
          subst e2 q3
          exact ih _ (by omega) c2 hc2 ρ3 lv2 h2 q1 (fun s hs => ((q2 s hs).trans (hper s (by omega))).trans (hag s hs)) r2.2.2.2.2.2 rfl
  obtain ⟨hR, hper⟩ := sv_ini_ok (ρ0 := ρ) (n0 := C.2.2.1.2.1.length) (mods := C.2.1) (h0 := h) (tt := tt) s1 hP (Nat.le_refl _) (fun s hs => rfl) ⟨hk, sv_fr.rf h⟩
  refine sx_run_ok hty ho hct fuel _ _ C.1 0 _ _ _ _ _ lv [] h _ s5 hR (fun S ρ2 lv2 st2 h2 v cc hrt r2 hro => ?_) (fun pc f S ρ2 lv2 st2 h2 hcu hf r2 => ?_)
  · exact sx_rt_ok hty (Nat.le_refl _) hl (fun s hs => rfl) r2 hro hrt
  · obtain ⟨c2, hc2, e2, ρ3, q1, q2, q3, -⟩ := sx_cut_ok hty (Nat.le_refl _) hcN hp hcu r2 hf
    subst e2 q3
    exact key _ c2 hc2 ρ3 lv2 h2 q1 q2 r2.2.2.2.2.2 rfl
end
/-! A METHOD WITH MANY CUTS: in pieces -/
noncomputable def sx_m1 (tt : List sv_T) (od : Nat → List (Nat × Nat)) (ct : Nat → List sv_C) (C : sv_C) (cuts : List sv_cu) (sps : List sv_sp) (fuel : Nat) (fl : List Nat) : Bool :=
  and (sx_pb C.2.2.1) (and (sx_al (fun P => Nat.ble C.2.2.1.2.1.length P.2.1.length) C.2.2.2) (and (sx_al (fun c : sv_sp => Nat.ble C.2.2.1.2.1.length c.2.1.2.1.length) sps) (and (sx_al (fun c => and (sx_pb c.2.1) (and (Nat.ble C.2.2.1.2.1.length c.2.1.2.1.length) (sx_al (fun q => Nat.blt q.1 c.2.1.2.1.length) c.2.2.1.2))) cuts) (sx_run tt od C.2.1 ct fuel C.1 0 fl (sv_ini C.2.2.1) (sx_rt tt C) (sx_cut tt C.2.2.1.2.1.length none cuts sps)))))
noncomputable def sx_mc (tt : List sv_T) (od : Nat → List (Nat × Nat)) (ct : Nat → List sv_C) (C : sv_C) (cuts : List sv_cu) (sps : List sv_sp) (fuel : Nat) (l : List sv_cu) : Bool := sx_al (fun c => sx_run tt od C.2.1 ct fuel C.1 c.1 (c.1 :: c.2.2.2) (sv_ini c.2.1) (sx_rt tt C) (sx_cut tt C.2.2.1.2.1.length (some c.2.2.1) cuts sps)) l
theorem sx_al_app {α : Type} {p : α → Bool} : ∀ {l m : List α}, sx_al p l = true → sx_al p m = true → sx_al p (l ++ m) = true
  | [], _, _, h => h
  | x :: l, m, h1, h2 => by
    have h1 : and (p x) (sx_al p l) = true := h1
    rw [Bool.and_eq_true] at h1
    show and (p x) (sx_al p (l ++ m)) = true
    rw [Bool.and_eq_true]
    exact ⟨h1.1, sx_al_app h1.2 h2⟩
theorem sx_mc_app {tt : List sv_T} {od : Nat → List (Nat × Nat)} {ct : Nat → List sv_C} {C : sv_C} {cuts : List sv_cu} {sps : List sv_sp} {fuel : Nat} {l m : List sv_cu} (h1 : sx_mc tt od ct C cuts sps fuel l = true) (h2 : sx_mc tt od ct C cuts sps fuel m = true) : sx_mc tt od ct C cuts sps fuel (l ++ m) = true := sx_al_app h1 h2
theorem sx_m_of {tt : List sv_T} {od : Nat → List (Nat × Nat)} {ct : Nat → List sv_C} {C : sv_C} {cuts : List sv_cu} {sps : List sv_sp} {fuel : Nat} {fl : List Nat} (h1 : sx_m1 tt od ct C cuts sps fuel fl = true) (h2 : sx_mc tt od ct C cuts sps fuel cuts = true) : sx_meth tt od ct C cuts sps fuel fl = true := by
  unfold sx_m1 at h1
  unfold sx_mc at h2
  unfold sx_meth
  simp only [Bool.and_eq_true] at h1 ⊢
  obtain ⟨a, b, c, d, e⟩ := h1
  exact ⟨a, b, c, d, e, h2⟩
