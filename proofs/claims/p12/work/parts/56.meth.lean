/-! A METHOD AGAINST ITS CONTRACT. A cut: place, pattern, what falls, places that may be passed once from there; a splitter: place, pattern, form -/
abbrev sv_cu : Type := Nat × sv_P × sv_L × List Nat
abbrev sv_sp : Type := Nat × sv_P × sv_L
noncomputable def sx_id (n : Nat) : sv_mp := Nat.rec (motive := fun _ => sv_mp) [] (fun k ih => (k, (0, [(k, 1)])) :: ih) n
theorem sx_id_s (n s : Nat) : ae_lk (sx_id (n + 1)) s = cond (Nat.beq n s) (some (0, [(n, 1)])) (ae_lk (sx_id n) s) := rfl
theorem sx_id_lt : ∀ {n s : Nat} {e : sv_L}, ae_lk (sx_id n) s = some e → s < n ∧ e = (0, [(s, 1)])
  | 0, s, e, h => by cases h
  | n + 1, s, e, h => by
    rw [sx_id_s] at h
    cases hb : Nat.beq n s with
    | true =>
      rw [hb, cond_true] at h
      have := Nat.eq_of_beq_eq_true hb
      subst this
      cases h
      exact ⟨Nat.lt_succ_self _, rfl⟩
    | false =>
      rw [hb, cond_false] at h
      obtain ⟨h1, h2⟩ := sx_id_lt h
      exact ⟨by omega, h2⟩
theorem sx_id_get : ∀ {n s : Nat}, s < n → ae_lk (sx_id n) s = some (0, [(s, 1)])
  | n + 1, s, h => by
    rw [sx_id_s]
    cases hb : Nat.beq n s with
    | true => rw [Nat.eq_of_beq_eq_true hb]; rfl
    | false =>
      have : n ≠ s := fun z => by rw [z, Nat.beq_refl] at hb; cases hb
      rw [cond_false]
      exact sx_id_get (by omega)
def sx_em (st : List sv_V) : Bool := match st with
  | [] => true
  | _ => false
noncomputable def sx_ms (src : Option sv_L) (a : sv_A) (mp : sv_mp) (e : sv_L) : Bool := match src with
  | none => true
  | some m => sv_sb mp e fun t => and (sx_gt a m t) (sx_gt a m (0, []))
def sx_rc (v o : Option sv_V) : Bool := match v, o with
  | none, none => true
  | some _, some _ => true
  | _, _ => false
noncomputable def sx_atc (tt : List sv_T) (Np : Nat) (src : Option sv_L) (S : sv_S) (c : sv_cu) : Bool := sx_mat tt c.2.1 (sx_id Np) S fun S2 mp => and (sx_em S2.2.2.1) (and (sx_ck tt mp c.2.1 S2) (sx_ms src S2.1 mp c.2.2.1))
noncomputable def sx_atl (tt : List sv_T) (Np pc : Nat) (src : Option sv_L) (cuts : List sv_cu) (S : sv_S) : Bool := sx_an (fun c => and (Nat.beq c.1 pc) (sx_atc tt Np src S c)) cuts
noncomputable def sx_cut (tt : List sv_T) (Np : Nat) (src : Option sv_L) (cuts : List sv_cu) (sps : List sv_sp) (pc : Nat) : Option (sv_S → Bool) := cond (sx_an (fun c => Nat.beq c.1 pc) cuts) (some fun S => cond (sx_an (fun c => Nat.beq c.1 pc) sps) (sx_an (fun c => and (Nat.beq c.1 pc) (sx_mat tt c.2.1 (sx_id Np) S fun S2 mp => sv_sb mp c.2.2 fun g => and (sv_as S2.1 g fun a => sx_atl tt Np pc src cuts (a, S2.2)) (sv_ma (-1) g (-1, []) fun g2 => sv_as S2.1 g2 fun a => sx_atl tt Np pc src cuts (a, S2.2)))) sps) (sx_atl tt Np pc src cuts S)) none
def sx_rv (v : Option sv_V) : List (Nat × sv_V) := match v with
  | some w => [(1000, w)]
  | none => []
noncomputable def sx_rt (tt : List sv_T) (C : sv_C) (S : sv_S) (v : Option sv_V) : Bool := sx_an (fun P => sx_mat tt P (sx_id C.2.2.1.2.1.length) (S.1, sx_rv v ++ S.2.1, [], S.2.2.2) fun S2 mp => and (sx_ck tt mp P S2) (and (sx_al (fun q => Nat.beq q.1 1000) P.2.2.2.1) (sx_rc v (ae_lk P.2.2.2.1 1000)))) C.2.2.2
noncomputable def sx_meth (tt : List sv_T) (od : Nat → List (Nat × Nat)) (ct : Nat → List sv_C) (C : sv_C) (cuts : List sv_cu) (sps : List sv_sp) (fuel : Nat) (fl : List Nat) : Bool :=
  and (sx_pb C.2.2.1) (and (sx_al (fun P => Nat.ble C.2.2.1.2.1.length P.2.1.length) C.2.2.2) (and (sx_al (fun c : sv_sp => Nat.ble C.2.2.1.2.1.length c.2.1.2.1.length) sps) (and (sx_al (fun c => and (sx_pb c.2.1) (and (Nat.ble C.2.2.1.2.1.length c.2.1.2.1.length) (sx_al (fun q => Nat.blt q.1 c.2.1.2.1.length) c.2.2.1.2))) cuts) (and (sx_run tt od C.2.1 ct fuel C.1 0 fl (sv_ini C.2.2.1) (sx_rt tt C) (sx_cut tt C.2.2.1.2.1.length none cuts sps)) (sx_al (fun c => sx_run tt od C.2.1 ct fuel C.1 c.1 (c.1 :: c.2.2.2) (sv_ini c.2.1) (sx_rt tt C) (sx_cut tt C.2.2.1.2.1.length (some c.2.2.1) cuts sps)) cuts)))))
section
variable {ty : Nat → Option Nat} {tt : List sv_T} {op : Nat → ae_H → Nat → Nat → Int → Int → Int → Int → Prop} {od : Nat → List (Nat × Nat)} {ct : Nat → List sv_C} {C : sv_C} {ρ ρ0 ρ2 : Nat → Int} {n0 : Nat} {mods : List (Nat × Nat)} {h0 h : ae_H} {S : sv_S} {lv : ae_L} {st : List ae_V}
theorem sx_id_mk {n N m : Nat} (h1 : m ≤ n) (h2 : m ≤ N) : sv_mk n N (sx_id m) := fun s e he => by
  obtain ⟨g1, g2⟩ := sx_id_lt he
  subst g2
  exact ⟨by omega, fun q hq => by cases List.mem_singleton.mp hq; show s < n; omega⟩
theorem sv_rm_id {n : Nat} {mp : sv_mp} (hx : ∀ s g, ae_lk (sx_id n) s = some g → ae_lk mp s = some g) : ∀ s, s < n → sv_rm ρ mp s = ρ s := fun s hs => by
  unfold sv_rm
  rw [hx s _ (sx_id_get hs)]
  show (0 : Int) + (1 * ρ s + 0) = ρ s
  omega
theorem sx_atc_ok {Np : Nat} {src : Option sv_L} {c : sv_cu} (hty : ∀ q t, ty q = some t → q < 256) (hn : Np ≤ n0) (hc : Np ≤ c.2.1.2.1.length) (hR : sv_R ty tt op ρ0 n0 mods h0 ρ2 S lv st h) (hs : sx_atc tt Np src S c = true) : ∃ ρ', sv_Pk ty op ρ' c.2.1 lv h ∧ (∀ s, s < Np → ρ' s = ρ0 s) ∧ st = [] ∧ ∀ m, src = some m → sv_wf n0 m → sv_ev ρ' c.2.2.1 < sv_ev ρ0 m ∧ 0 < sv_ev ρ0 m := by
  unfold sx_atc at hs
  obtain ⟨ρ3, S3, mp, k3, r3, m3, n3, u3, x3, t3, l3⟩ := sx_mat_ok hty hR (sx_id_mk (Nat.le_trans hn hR.2.1.1) hc) hs
  have k3 : and (sx_em S3.2.2.1) (and (sx_ck tt mp c.2.1 S3) (sx_ms src S3.1 mp c.2.2.1)) = true := k3
  rw [Bool.and_eq_true, Bool.and_eq_true] at k3
  obtain ⟨q1, q2, q3⟩ := k3
  have hag := r3.2.1
  refine ⟨sv_rm ρ3 mp, sx_ck_ok m3 r3 q2, fun s hs => (sv_rm_id x3 s hs).trans (hag.2 s (by omega)), ?_, fun m hm hw => ?_⟩
  · have hk := r3.2.2.2.1
    unfold sx_em at q1
    split at q1
    · next e => rw [e] at hk; exact hk
    · cases q1
  · subst hm
    have q3 : (sv_sb mp c.2.2.1 fun t => and (sx_gt S3.1 m t) (sx_gt S3.1 m (0, []))) = true := q3
    obtain ⟨t, k1, k2, k4, k5⟩ := sv_sb_ok m3 ρ3 q3
    rw [Bool.and_eq_true] at k1
    have g1 := sx_gt_ok r3.1 k1.1
    have g2 := sx_gt_ok r3.1 k1.2
    rw [sv_ev0] at g2
    have e1 : sv_ev ρ3 m = sv_ev ρ0 m := sv_ev_up hag.2 hw
    rw [e1] at g1 g2
    rw [← k2]
    exact ⟨g1, g2⟩
theorem sx_atl_ok {Np pc : Nat} {src : Option sv_L} {cuts : List sv_cu} (hty : ∀ q t, ty q = some t → q < 256) (hn : Np ≤ n0) (hc : ∀ c ∈ cuts, Np ≤ c.2.1.2.1.length) (hR : sv_R ty tt op ρ0 n0 mods h0 ρ2 S lv st h) (hs : sx_atl tt Np pc src cuts S = true) : ∃ c ∈ cuts, c.1 = pc ∧ ∃ ρ', sv_Pk ty op ρ' c.2.1 lv h ∧ (∀ s, s < Np → ρ' s = ρ0 s) ∧ st = [] ∧ ∀ m, src = some m → sv_wf n0 m → sv_ev ρ' c.2.2.1 < sv_ev ρ0 m ∧ 0 < sv_ev ρ0 m := by
  obtain ⟨c, hcm, hh⟩ := sx_an_ok hs
  rw [Bool.and_eq_true] at hh
  exact ⟨c, hcm, Nat.eq_of_beq_eq_true hh.1, sx_atc_ok hty hn (hc c hcm) hR hh.2⟩
theorem sx_cut_ok {Np pc : Nat} {src : Option sv_L} {cuts : List sv_cu} {sps : List sv_sp} {f : sv_S → Bool} (hty : ∀ q t, ty q = some t → q < 256) (hn : Np ≤ n0) (hc : ∀ c ∈ cuts, Np ≤ c.2.1.2.1.length) (hp : ∀ c ∈ sps, Np ≤ c.2.1.2.1.length) (hf : sx_cut tt Np src cuts sps pc = some f) (hR : sv_R ty tt op ρ0 n0 mods h0 ρ2 S lv st h) (hs : f S = true) : ∃ c ∈ cuts, c.1 = pc ∧ ∃ ρ', sv_Pk ty op ρ' c.2.1 lv h ∧ (∀ s, s < Np → ρ' s = ρ0 s) ∧ st = [] ∧ ∀ m, src = some m → sv_wf n0 m → sv_ev ρ' c.2.2.1 < sv_ev ρ0 m ∧ 0 < sv_ev ρ0 m := by
  unfold sx_cut at hf
  cases h1 : sx_an (fun c : sv_cu => Nat.beq c.1 pc) cuts with
  | false => rw [h1, cond_false] at hf; cases hf
  | true =>
    rw [h1, cond_true] at hf
    cases hf
    have hs : cond (sx_an (fun c : sv_sp => Nat.beq c.1 pc) sps) (sx_an (fun c : sv_sp => and (Nat.beq c.1 pc) (sx_mat tt c.2.1 (sx_id Np) S fun S2 mp => sv_sb mp c.2.2 fun g => and (sv_as S2.1 g fun a => sx_atl tt Np pc src cuts (a, S2.2)) (sv_ma (-1) g (-1, []) fun g2 => sv_as S2.1 g2 fun a => sx_atl tt Np pc src cuts (a, S2.2)))) sps) (sx_atl tt Np pc src cuts S) = true := hs
    cases h2 : sx_an (fun c : sv_sp => Nat.beq c.1 pc) sps with
    | false => rw [h2, cond_false] at hs; exact sx_atl_ok hty hn hc hR hs
    | true =>
      rw [h2, cond_true] at hs
      obtain ⟨c, hcm, hh⟩ := sx_an_ok hs
      rw [Bool.and_eq_true] at hh
      obtain ⟨ρ3, S3, mp, k3, r3, m3, n3, u3, x3, t3, l3⟩ := sx_mat_ok hty hR (sx_id_mk (Nat.le_trans hn hR.2.1.1) (hp c hcm)) hh.2
      have k3 : (sv_sb mp c.2.2 fun g => and (sv_as S3.1 g fun a => sx_atl tt Np pc src cuts (a, S3.2)) (sv_ma (-1) g (-1, []) fun g2 => sv_as S3.1 g2 fun a => sx_atl tt Np pc src cuts (a, S3.2))) = true := k3
      obtain ⟨g, k1, k2, k4, k5⟩ := sv_sb_ok m3 ρ3 k3
      rw [Bool.and_eq_true, sv_ma_f] at k1
      by_cases hg : 0 ≤ sv_ev ρ3 g
      · obtain ⟨a, q1, q2, q3⟩ := sv_as_ok r3.1 k4 hg k1.1
        exact sx_atl_ok hty hn hc (S := (a, S3.2)) (sv_R_ar r3 r3.2.2.2.1 q2 q3) q1
      · obtain ⟨a, q1, q2, q3⟩ := sv_as_ok r3.1 (sv_mf_wf k4 (sv_wf0 _ _)) (by rw [sv_mf_ev, sv_ev0]; omega) k1.2
        exact sx_atl_ok hty hn hc (S := (a, S3.2)) (sv_R_ar r3 r3.2.2.2.1 q2 q3) q1
theorem sx_rt_ok {v : Option sv_V} {c : Option ae_V} (hty : ∀ q t, ty q = some t → q < 256) (hn : C.2.2.1.2.1.length ≤ n0) (hl : ∀ P ∈ C.2.2.2, C.2.2.1.2.1.length ≤ P.2.1.length) (h00 : ∀ s, s < C.2.2.1.2.1.length → ρ0 s = ρ s) (hR : sv_R ty tt op ρ0 n0 C.2.1 h0 ρ2 S lv st h) (hro : sv_ro ty ρ2 S.1.1 v c) (hs : sx_rt tt C S v = true) : sv_post ty tt op C ρ h0 (c, h) := by
  obtain ⟨P, hPm, hs⟩ := sx_an_ok hs
  obtain ⟨ha, hag, hlv, hk, hh, ht⟩ := hR
  have hRa : sv_R ty tt op ρ0 n0 C.2.1 h0 ρ2 (S.1, sx_rv v ++ S.2.1, [], S.2.2.2) (sv_rl c ++ lv) [] h := by
    refine ⟨ha, hag, ?_, rfl, hh, ht⟩
    match v, c, hro with
    | none, none, _ => exact hlv
    | some w, some c, hv => exact sv_lk_c hv hlv rfl rfl
  obtain ⟨ρ3, S3, mp, k3, r3, m3, n3, u3, x3, t3, l3⟩ := sx_mat_ok hty hRa (sx_id_mk (Nat.le_trans hn hag.1) (hl P hPm)) hs
  have k3 : and (sx_ck tt mp P S3) (and (sx_al (fun q => Nat.beq q.1 1000) P.2.2.2.1) (sx_rc v (ae_lk P.2.2.2.1 1000))) = true := k3
  rw [Bool.and_eq_true, Bool.and_eq_true] at k3
  obtain ⟨p1, p2, p3, p4⟩ := sx_ck_ok m3 r3 k3.1
  have hnn : ae_lk P.2.2.2.1 1000 = none → c = none := fun hnone => by
    have k4 := k3.2.2
    rw [hnone] at k4
    cases v with
    | none =>
      cases c with
      | none => rfl
      | some c => exact hro.elim
    | some w => cases k4
  refine ⟨P, hPm, sv_rm ρ3 mp, fun s hs => ((sv_rm_id x3 s hs).trans (r3.2.1.2 s (by omega))).trans (h00 s hs), ⟨p1, p2, fun i w hw => ?_, p4⟩, ht, hnn⟩
  have e1 : i = 1000 := Nat.eq_of_beq_eq_true (sx_al_ok k3.2.1 (i, w) (ae_lk_mem hw))
  subst e1
  obtain ⟨d, d1, d2⟩ := p3 1000 w hw
  have k4 := k3.2.2
  rw [hw] at k4
  cases v with
  | none => cases k4
  | some v =>
    cases c with
    | none => exact hro.elim
    | some c => exact ⟨d, d1, d2⟩
theorem sx_meth_ok {cuts : List sv_cu} {sps : List sv_sp} {fuel : Nat} {fl : List Nat} (hty : ∀ q t, ty q = some t → q < 256) (ho : sv_opk ty op od) (hct : ∀ mj, ∀ C ∈ ct mj, C.1 = mj ∧ sv_ctk ty tt op C) (hs : sx_meth tt od ct C cuts sps fuel fl = true) : sv_ctk ty tt op C := by
  unfold sx_meth at hs
  simp only [Bool.and_eq_true] at hs
  obtain ⟨s1, s2, s3, s4, s5, s6⟩ := hs
  have hl : ∀ P ∈ C.2.2.2, C.2.2.1.2.1.length ≤ P.2.1.length := fun P hP => Nat.le_of_ble_eq_true (sx_al_ok s2 P hP)
  have hp : ∀ c ∈ sps, C.2.2.1.2.1.length ≤ c.2.1.2.1.length := fun c hc => Nat.le_of_ble_eq_true (sx_al_ok s3 c hc)
  have hc4 : ∀ c ∈ cuts, sx_pb c.2.1 = true ∧ C.2.2.1.2.1.length ≤ c.2.1.2.1.length ∧ sv_wf c.2.1.2.1.length c.2.2.1 := fun c hc => by
    have := sx_al_ok s4 c hc
    simp only [Bool.and_eq_true] at this
    exact ⟨this.1, Nat.le_of_ble_eq_true this.2.1, fun q hq => Nat.le_of_ble_eq_true (sx_al_ok this.2.2 q hq)⟩
  have hcN : ∀ c ∈ cuts, C.2.2.1.2.1.length ≤ c.2.1.2.1.length := fun c hc => (hc4 c hc).2.1
  intro ρ lv h hk hP
  have key : ∀ (m : Nat) (c : sv_cu), c ∈ cuts → ∀ (ρ' : Nat → Int) (lv' : ae_L) (h' : ae_H), sv_Pk ty op ρ' c.2.1 lv' h' → (∀ s, s < C.2.2.1.2.1.length → ρ' s = ρ s) → sv_Tk ty tt C.2.1 h h' → (sv_ev ρ' c.2.2.1).toNat = m → sv_G (sv_post ty tt op C ρ h) C.1 c.1 lv' [] h' := by
    intro m
    induction m using Nat.strongRecOn with
    | ind m ih =>
      intro c hc ρ' lv' h' hPk hag hT hm
      obtain ⟨b1, b2, b3⟩ := hc4 c hc
      obtain ⟨hR, hper⟩ := sv_ini_ok (ρ0 := sv_per c.2.1.2.1.length ρ') (n0 := c.2.1.2.1.length) b1 hPk (Nat.le_refl _) (fun s hs => by
        have hN : c.2.1.2.1.length ≤ 512 := by
          unfold sx_pb at b1
          rw [Bool.and_eq_true] at b1
          exact Nat.le_of_ble_eq_true b1.1
        exact (sv_per_lt hN ρ' s hs).symm) hT
      refine sx_run_ok hty ho hct fuel _ _ C.1 c.1 _ _ _ _ _ lv' [] h' _ (sx_al_ok s6 c hc) hR (fun S ρ2 lv2 st2 h2 v cc hrt r2 hro => ?_) (fun pc f S ρ2 lv2 st2 h2 hcu hf r2 => ?_)
      · exact sx_rt_ok hty b2 hl (fun s hs => (hper s (by omega)).trans (hag s hs)) r2 hro hrt
      · obtain ⟨c2, hc2, e2, ρ3, q1, q2, q3, q4⟩ := sx_cut_ok hty b2 hcN hp hcu r2 hf
        obtain ⟨g1, g2⟩ := q4 _ rfl b3
        have e3 : sv_ev (sv_per c.2.1.2.1.length ρ') c.2.2.1 = sv_ev ρ' c.2.2.1 := sv_ev_up hper b3
        rw [e3] at g1 g2
        subst e2 q3
        exact ih _ (by omega) c2 hc2 ρ3 lv2 h2 q1 (fun s hs => ((q2 s hs).trans (hper s (by omega))).trans (hag s hs)) r2.2.2.2.2.2 rfl
  obtain ⟨hR, hper⟩ := sv_ini_ok (ρ0 := ρ) (n0 := C.2.2.1.2.1.length) (mods := C.2.1) (h0 := h) (tt := tt) s1 hP (Nat.le_refl _) (fun s hs => rfl) ⟨hk, sv_fr.rf h⟩
  refine sx_run_ok hty ho hct fuel _ _ C.1 0 _ _ _ _ _ lv [] h _ s5 hR (fun S ρ2 lv2 st2 h2 v cc hrt r2 hro => ?_) (fun pc f S ρ2 lv2 st2 h2 hcu hf r2 => ?_)
  · exact sx_rt_ok hty (Nat.le_refl _) hl (fun s hs => rfl) r2 hro hrt
  · obtain ⟨c2, hc2, e2, ρ3, q1, q2, q3, -⟩ := sx_cut_ok hty (Nat.le_refl _) hcN hp hcu r2 hf
    subst e2 q3
    exact key _ c2 hc2 ρ3 lv2 h2 q1 q2 r2.2.2.2.2.2 rfl
end
