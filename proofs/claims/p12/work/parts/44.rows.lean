/-! ROWS -/
noncomputable def sv_dvl (s : Int) (l : List (Nat × Int)) : (List (Nat × Int) → Bool) → Bool → Bool := List.rec (motive := fun _ => (List (Nat × Int) → Bool) → Bool → Bool) (fun K _ => K []) (fun q _ ih K E => cond (sv_iz (q.2 % s)) (sv_fi (q.2 / s) fun z => ih (fun r => K ((q.1, z) :: r)) E) E) l
theorem sv_dvl_ok {s : Int} : ∀ (l : List (Nat × Int)) {K : List (Nat × Int) → Bool} {E : Bool}, sv_dvl s l K E = true → E = true ∨ ∃ r, K r = true ∧ (∀ ρ, s * sv_sm ρ r = sv_sm ρ l) ∧ (∀ n, sv_wl n l → sv_wl n r)
  | [], K, E, h => Or.inr ⟨[], h, fun ρ => by show s * 0 = 0; simp, fun n hw => hw⟩
  | q :: l, K, E, h => by
    have h : cond (sv_iz (q.2 % s)) (sv_fi (q.2 / s) fun z => sv_dvl s l (fun r => K ((q.1, z) :: r)) E) E = true := h
    cases hz : sv_iz (q.2 % s) with
    | false => rw [hz, cond_false] at h; exact Or.inl h
    | true =>
      rw [hz, cond_true, sv_fi_eq] at h
      rcases sv_dvl_ok l h with h | ⟨r, h1, h2, h3⟩
      · exact Or.inl h
      · refine Or.inr ⟨_, h1, fun ρ => ?_, fun n hw x hx => ?_⟩
        · show s * (q.2 / s * ρ q.1 + sv_sm ρ r) = q.2 * ρ q.1 + sv_sm ρ l
          have := Int.mul_ediv_add_emod q.2 s
          rw [sv_iz_iff.mp hz] at this
          rw [Int.mul_add, h2, ← Int.mul_assoc]
          have e : s * (q.2 / s) = q.2 := by omega
          rw [e]
        · rcases List.mem_cons.mp hx with z | z
          · subst z; exact hw q (List.mem_cons_self ..)
          · exact h3 n (fun y hy => hw y (List.mem_cons_of_mem _ hy)) x z
/-- a form divided by a stride -/
noncomputable def sx_qd (s : Nat) (d : sv_L) (K : sv_L → Bool) (E : Bool) : Bool := cond (Nat.beq s 1) (K d) (cond (sv_iz (d.1 % Int.ofNat s)) (sv_fi (d.1 / Int.ofNat s) fun c => sv_dvl (Int.ofNat s) d.2 (fun l => K (c, l)) E) E)
theorem sx_qd_ok {s : Nat} {d : sv_L} {K : sv_L → Bool} {E : Bool} (h : sx_qd s d K E = true) : E = true ∨ ∃ r, K r = true ∧ (∀ ρ, (s : Int) * sv_ev ρ r = sv_ev ρ d) ∧ (∀ n, sv_wf n d → sv_wf n r) := by
  unfold sx_qd at h
  cases h1 : Nat.beq s 1 with
  | true =>
    rw [h1, cond_true] at h
    have := Nat.eq_of_beq_eq_true h1
    subst this
    exact Or.inr ⟨d, h, fun ρ => by simp, fun n hw => hw⟩
  | false =>
    rw [h1, cond_false] at h
    cases hz : sv_iz (d.1 % Int.ofNat s) with
    | false => rw [hz, cond_false] at h; exact Or.inl h
    | true =>
      rw [hz, cond_true, sv_fi_eq] at h
      rcases sv_dvl_ok d.2 h with h | ⟨r, g1, g2, g3⟩
      · exact Or.inl h
      · refine Or.inr ⟨_, g1, fun ρ => ?_, fun n hw => g3 n hw⟩
        show (s : Int) * (d.1 / (s : Int) + sv_sm ρ r) = d.1 + sv_sm ρ d.2
        have := Int.mul_ediv_add_emod d.1 (s : Int)
        have hz2 : d.1 % (s : Int) = 0 := sv_iz_iff.mp hz
        rw [hz2] at this
        have g2 : (s : Int) * sv_sm ρ r = sv_sm ρ d.2 := g2 ρ
        rw [Int.mul_add, g2]
        omega
/-- r lies between two forms -/
noncomputable def sx_bt (lo hi r : sv_L) (a : sv_A) (K : sv_A → Bool) : Bool := sv_ma (-1) lo r fun f => sv_as a f fun a => sv_ma (-1) r hi fun f => sv_as a f K
theorem sx_bt_ok {ρ : Nat → Int} {lo hi r : sv_L} {a : sv_A} {K : sv_A → Bool} (ha : sv_ak ρ a) (w1 : sv_wf a.1 lo) (w2 : sv_wf a.1 hi) (w3 : sv_wf a.1 r) (h1 : sv_ev ρ lo ≤ sv_ev ρ r) (h2 : sv_ev ρ r ≤ sv_ev ρ hi) (h : sx_bt lo hi r a K = true) : ∃ a2, K a2 = true ∧ sv_ak ρ a2 ∧ a2.1 = a.1 := by
  unfold sx_bt at h
  simp only [sv_ma_f] at h
  obtain ⟨a2, k2, r2, e2⟩ := sv_as_ok ha (sv_mf_wf w1 w3) (by rw [sv_mf_ev]; omega) h
  obtain ⟨a3, k3, r3, e3⟩ := sv_as_ok r2 (by rw [e2]; exact sv_mf_wf w3 w2) (by rw [sv_mf_ev]; omega) k2
  exact ⟨a3, k3, r3, e3.trans e2⟩
/-- is j at least zero and below e -/
noncomputable def sx_bl (a : sv_A) (j e : sv_L) : Bool := and (sv_p 3 a j) (sv_ma (-1) j e fun g => sv_ac (-1) g fun g => sv_p 3 a g)
theorem sx_bl_ok {ρ : Nat → Int} {a : sv_A} {j e : sv_L} (ha : sv_ak ρ a) (h : sx_bl a j e = true) : 0 ≤ sv_ev ρ j ∧ sv_ev ρ j < sv_ev ρ e := by
  unfold sx_bl at h
  rw [Bool.and_eq_true, sv_ma_f] at h
  obtain ⟨g, g1, -, g3⟩ := sv_ac_ok (-1) (sv_mf (-1) j e)
  rw [g3] at h
  have h1 := sv_p_ok ha h.1
  have h2 := sv_p_ok ha h.2
  rw [g1, sv_mf_ev] at h2
  omega
/-- the facts of kind 1: by the places that are known of the first row -/
noncomputable def sx_fm (q : sv_Q) (d r : sv_L) (Mm : List sv_M) : sv_A → (sv_A → Bool) → Bool := List.rec (motive := fun _ => sv_A → (sv_A → Bool) → Bool) (fun a K => K a) (fun m _ ih a K => cond (and (Nat.beq m.1 q.2.1.1) (and (Nat.beq m.2.1 q.2.1.2) (and (sv_same m.2.2.2 d) (sx_bl a m.2.2.1 q.2.2.2.2.2.1)))) (sx_bt q.2.2.2.2.2.2.1 q.2.2.2.2.2.2.2 r a fun a => ih a K) (ih a K)) Mm
noncomputable def sx_fa (s : Nat) (i r : sv_L) (Mm : List sv_M) (Q : List sv_Q) : sv_A → (sv_A → Bool) → Bool := List.rec (motive := fun _ => sv_A → (sv_A → Bool) → Bool) (fun a K => K a) (fun q _ ih a K => match q.1 with
  | 0 => cond (Nat.beq q.2.1.1 s) (sv_ma (-1) q.2.2.2.2.1 i fun d => sx_qd q.2.2.2.1 d (fun j => cond (sx_bl a j q.2.2.2.2.2.1) (sx_bt q.2.2.2.2.2.2.1 q.2.2.2.2.2.2.2 r a fun a => ih a K) (ih a K)) (ih a K)) (ih a K)
  | 1 => cond (Nat.beq q.2.2.1.1 s) (sv_ma (-1) q.2.2.2.2.1 i fun d => sx_fm q d r Mm a fun a => ih a K) (ih a K)
  | _ => ih a K) Q
section
variable {ty : Nat → Option Nat} {tt : List sv_T} {op : Nat → ae_H → Nat → Nat → Int → Int → Int → Int → Prop} {ρ : Nat → Int} {h : ae_H}
theorem sx_fm_ok {s k tag len A I n : Nat} {q : sv_Q} {d i r : sv_L} (hq1 : q.1 = 1) (hq : sv_Qk ty op ρ n h q) (hqs : q.2.2.1.1 = s) (hs : ρ s = k) (hg : ae_hg h k = some (.inl (tag, len, .inl A))) (hI : sv_ev ρ i = I) (hlt : I < len) (hr : sv_ev ρ r = sv_g (ae_rd 32 A I)) (wr : sv_wf n r) (hd : sv_ev ρ d = sv_ev ρ i - sv_ev ρ q.2.2.2.2.1) :
    ∀ (Mm : List sv_M), (∀ m ∈ Mm, sv_Mk ty ρ n h m) → ∀ (a : sv_A) (K : sv_A → Bool), sv_ak ρ a → a.1 = n → sx_fm q d r Mm a K = true → ∃ a2, K a2 = true ∧ sv_ak ρ a2 ∧ a2.1 = a.1
  | [], _, a, K, ha, _, h => ⟨a, h, ha, rfl⟩
  | m :: Mm, hM, a, K, ha, hn, h9 => by
    have h9 : cond (and (Nat.beq m.1 q.2.1.1) (and (Nat.beq m.2.1 q.2.1.2) (and (sv_same m.2.2.2 d) (sx_bl a m.2.2.1 q.2.2.2.2.2.1)))) (sx_bt q.2.2.2.2.2.2.1 q.2.2.2.2.2.2.2 r a fun a => sx_fm q d r Mm a K) (sx_fm q d r Mm a K) = true := h9
    have ih := sx_fm_ok hq1 hq hqs hs hg hI hlt hr wr hd Mm (fun x hx => hM x (List.mem_cons_of_mem _ hx))
    cases hc : and (Nat.beq m.1 q.2.1.1) (and (Nat.beq m.2.1 q.2.1.2) (and (sv_same m.2.2.2 d) (sx_bl a m.2.2.1 q.2.2.2.2.2.1))) with
    | false => rw [hc, cond_false] at h9; exact ih a K ha hn h9
    | true =>
      rw [hc, cond_true] at h9
      rw [Bool.and_eq_true, Bool.and_eq_true, Bool.and_eq_true] at hc
      obtain ⟨c1, c2, c3, c4⟩ := hc
      have c1 := Nat.eq_of_beq_eq_true c1
      have c3 := sv_same_ok c3
      obtain ⟨b1, b2⟩ := sx_bl_ok ha c4
      obtain ⟨m0, w1, w2, km, tm, lm, Am, im, m1, m2, m3, m4, m5, m6⟩ := hM m (List.mem_cons_self ..)
      obtain ⟨⟨r1, r2, x1, x2, x3, x4⟩, k1, k2, z1, z2, z3, z4, z5⟩ := hq
      rw [hq1] at z5
      rw [c1] at m1
      rw [hqs] at z3
      have e1 : km = k1 := by omega
      have e2 : k = k2 := by omega
      subst e1 e2
      obtain ⟨f1, f2⟩ := z5 tm lm Am tag len A m3 hg im I (by omega) m5 (by rw [← m6, c3, hd, hI]; omega) hlt
      subst hn
      obtain ⟨a2, k2, r2, e2⟩ := sx_bt_ok ha x3 x4 wr (by rw [hr]; exact f1) (by rw [hr]; exact f2) h9
      obtain ⟨a3, k3, r3, e3⟩ := ih a2 K r2 e2 k2
      exact ⟨a3, k3, r3, e3.trans e2⟩
theorem sx_fa_ok {s k tag len A I n : Nat} {i r : sv_L} {Mm : List sv_M} (hM : ∀ m ∈ Mm, sv_Mk ty ρ n h m) (hs : ρ s = k) (hg : ae_hg h k = some (.inl (tag, len, .inl A))) (wi : sv_wf n i) (hI : sv_ev ρ i = I) (hlt : I < len) (hr : sv_ev ρ r = sv_g (ae_rd 32 A I)) (wr : sv_wf n r) :
    ∀ (Q : List sv_Q), (∀ q ∈ Q, sv_Qk ty op ρ n h q) → ∀ (a : sv_A) (K : sv_A → Bool), sv_ak ρ a → a.1 = n → sx_fa s i r Mm Q a K = true → ∃ a2, K a2 = true ∧ sv_ak ρ a2 ∧ a2.1 = a.1
  | [], _, a, K, ha, _, h => ⟨a, h, ha, rfl⟩
  | q :: Q, hQ, a, K, ha, hn, h9 => by
    have ih := sx_fa_ok hM hs hg wi hI hlt hr wr Q (fun x hx => hQ x (List.mem_cons_of_mem _ hx))
    have hq := hQ q (List.mem_cons_self ..)
    obtain ⟨kd, r1, r2, sd, f1, f2, f3, f4⟩ := q
    match kd, hq, h9 with
    | 0, hq, h9 =>
      have h9 : cond (Nat.beq r1.1 s) (sv_ma (-1) f1 i fun d => sx_qd sd d (fun j => cond (sx_bl a j f2) (sx_bt f3 f4 r a fun a => sx_fa s i r Mm Q a K) (sx_fa s i r Mm Q a K)) (sx_fa s i r Mm Q a K)) (sx_fa s i r Mm Q a K) = true := h9
      cases hc : Nat.beq r1.1 s with
      | false => rw [hc, cond_false] at h9; exact ih a K ha hn h9
      | true =>
        rw [hc, cond_true, sv_ma_f] at h9
        rcases sx_qd_ok h9 with h9 | ⟨j, h9, j1, j2⟩
        · exact ih a K ha hn h9
        · cases hb : sx_bl a j f2 with
          | false => rw [hb, cond_false] at h9; exact ih a K ha hn h9
          | true =>
            rw [hb, cond_true] at h9
            obtain ⟨b1, b2⟩ := sx_bl_ok ha hb
            obtain ⟨⟨q1, q2, x1, x2, x3, x4⟩, k1, k2, z1, z2, z3, z4, z5⟩ := hq
            have c1 : r1.1 = s := Nat.eq_of_beq_eq_true hc
            have z1 : ρ r1.1 = k1 := z1
            rw [c1] at z1
            have e1 : k1 = k := by omega
            subst e1
            have hj := j1 ρ
            rw [sv_mf_ev] at hj
            obtain ⟨g1, g2⟩ := z5 tag len A hg (sv_ev ρ j).toNat I (by show ((sv_ev ρ j).toNat : Int) < sv_ev ρ f2; omega) (by
              show (I : Int) = (sd : Int) * ((sv_ev ρ j).toNat : Int) + sv_ev ρ f1
              rw [Int.toNat_of_nonneg b1, hj, hI]; omega) hlt
            subst hn
            obtain ⟨a2, k2, r2, e2⟩ := sx_bt_ok ha x3 x4 wr (by rw [hr]; exact g1) (by rw [hr]; exact g2) h9
            obtain ⟨a3, k3, r3, e3⟩ := ih a2 K r2 e2 k2
            exact ⟨a3, k3, r3, e3.trans e2⟩
    | 1, hq, h9 =>
      have h9 : cond (Nat.beq r2.1 s) (sv_ma (-1) f1 i fun d => sx_fm (1, r1, r2, sd, f1, f2, f3, f4) d r Mm a fun a => sx_fa s i r Mm Q a K) (sx_fa s i r Mm Q a K) = true := h9
      cases hc : Nat.beq r2.1 s with
      | false => rw [hc, cond_false] at h9; exact ih a K ha hn h9
      | true =>
        rw [hc, cond_true, sv_ma_f] at h9
        obtain ⟨a2, k2, r2, e2⟩ := sx_fm_ok rfl hq (Nat.eq_of_beq_eq_true hc) hs hg hI hlt hr wr (by rw [sv_mf_ev]; show -1 * sv_ev ρ f1 + sv_ev ρ i = sv_ev ρ i - sv_ev ρ f1; omega) Mm hM a _ ha hn h9
        obtain ⟨a3, k3, r3, e3⟩ := ih a2 K r2 (e2.trans hn) k2
        exact ⟨a3, k3, r3, e3.trans e2⟩
    | m + 2, hq, h9 => exact ih a K ha hn h9
end
noncomputable def sx_ml (s : Nat) (i : sv_L) (Mm : List sv_M) : Option sv_L := List.rec (motive := fun _ => Option sv_L) none (fun q _ ih => cond (and (Nat.beq q.1 s) (sv_same q.2.2.1 i)) (some q.2.2.2) ih) Mm
theorem sx_ml_ok {s : Nat} {i x : sv_L} : ∀ {Mm : List sv_M}, sx_ml s i Mm = some x → ∃ t, (s, t, i, x) ∈ Mm
  | [], h => by cases h
  | q :: Mm, h => by
    have g : cond (and (Nat.beq q.1 s) (sv_same q.2.2.1 i)) (some q.2.2.2) (sx_ml s i Mm) = some x := h
    clear h
    cases hc : and (Nat.beq q.1 s) (sv_same q.2.2.1 i) with
    | false =>
      rw [hc, cond_false] at g
      obtain ⟨t, ht⟩ := sx_ml_ok g
      exact ⟨t, List.mem_cons_of_mem _ ht⟩
    | true =>
      rw [hc, cond_true] at g
      have g := Option.some.inj g
      rw [Bool.and_eq_true] at hc
      obtain ⟨s', t, i', x'⟩ := q
      have e1 : s' = s := Nat.eq_of_beq_eq_true hc.1
      have e2 : i' = i := sv_same_ok hc.2
      have e3 : x' = x := g
      subst e1 e2 e3
      exact ⟨t, List.mem_cons_self ..⟩
