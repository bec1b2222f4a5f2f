/-! THE RUNS: the reference -/
def rn_fr (m m' : dc_M) : Prop := ∀ (k : Nat) (i : Int), ¬ (161 ≤ k ∧ k ≤ 167) → ¬ (k = 114 ∧ (i = 79 ∨ i = 80 ∨ i = 81)) → m' k i = m k i
theorem rn_fr.rf {m : dc_M} : rn_fr m m := fun _ _ _ _ => rfl
theorem rn_fr.tr {a b c : dc_M} (h : rn_fr a b) (g : rn_fr b c) : rn_fr a c := fun k i h1 h2 => (g k i h1 h2).trans (h k i h1 h2)
theorem rn_fr.up {a m m1 : dc_M} {k : Nat} {i v : Int} (h : rn_fr a m) (e : m1 = dc_up m k i v) (hk : 161 ≤ k ∧ k ≤ 167) : rn_fr a m1 := fun k' i' h1 h2 => by rw [e, dc_up_k (by omega)]; exact h k' i' h1 h2
theorem rm_fr.n {a b : dc_M} (h : rm_fr a b) : rn_fr a b := fun k i h1 h2 => h k i (by omega) (by omega) (by omega) (by omega) h2
theorem r0_J.fn {m m' : dc_M} {J : pj_J} (hJ : r0_J m J) (f : rn_fr m m') : r0_J m' J := by
  obtain ⟨a1, a2, a3, a4⟩ := hJ
  have g : ∀ (k : Nat) (i : Int), 152 ≤ k → k ≤ 159 → m' k i = m k i := fun k i h1 h2 => f k i (by omega) (by omega)
  refine ⟨fun i hi => ?_, fun o p1 p3 => (g 154 _ (by decide) (by decide)).trans (a2 o p1 p3), (g 155 0 (by decide) (by decide)).trans a3, fun i hi => ?_⟩
  · rw [g 152 _ (by decide) (by decide), g 153 _ (by decide) (by decide)]; exact a1 i hi
  · rw [g 156 _ (by decide) (by decide), g 157 _ (by decide) (by decide), g 158 _ (by decide) (by decide), g 159 _ (by decide) (by decide)]; exact a4 i hi
def rn_en (x : Int) : Int := if 1000 ≤ x then 100 else x
/-- what plan() answers, and leaves -/
def rn_R (J : pj_J) (v : Int) (m' : dc_M) : Prop := ∃ F P, pl_T J (2 ^ J.2.2.length) F P ∧ ((F (2 ^ J.2.2.length - 1) < 1000 ∧ v = F (2 ^ J.2.2.length - 1)) ∨ (1000 ≤ F (2 ^ J.2.2.length - 1) ∧ v = -1)) ∧ ∀ s : Nat, 1 ≤ s → s < 2 ^ J.2.2.length → P s ≠ 0 → m' 166 (s : Nat) = ((P s : Nat) : Int)
def rn_T (J : pj_J) (m : dc_M) (set : Nat) (F : Nat → Int) (P : Nat → Nat) : Prop := pl_T J set F P ∧ (∀ s : Nat, s < set → m 165 (s : Nat) = rn_en (F s)) ∧ (∀ s : Nat, 1 ≤ s → s < set → P s ≠ 0 → m 166 (s : Nat) = ((P s : Nat) : Int)) ∧ ∀ q : Nat, 1 ≤ q → q < set → (m 167 (q : Nat) = 0 ↔ ¬ pl_fit J q)
theorem rn_plan {J : pj_J} (ok : pj_ok J) {m : dc_M} {v : Int} {m' : dc_M} (h : D_261 m v m') (hJ : r0_J m J) : rn_R J v m' ∧ rn_fr m m' := by
  have l8 := ok.2.2.2.1
  obtain ⟨all1, all2⟩ := sm_all J.2.2.length l8
  have two := pl_two J.2.2.length
  obtain ⟨all, ea⟩ : ∃ all : Nat, all = 2 ^ J.2.2.length - 1 := ⟨_, rfl⟩
  have key : ∀ c : Nat, (∀ (set : Nat) (l3 l4 : Int) (m : dc_M) (F : Nat → Int) (P : Nat → Nat), LM_261 c 20 ((all : Nat) : Int) ((set : Nat) : Int) l3 l4 m v m' → 1 ≤ set → set ≤ all + 1 → r0_J m J → rn_T J m set F P → rn_R J v m' ∧ rn_fr m m') ∧ (∀ (set q0 : Nat) (m : dc_M) (F : Nat → Int) (P : Nat → Nat), LM_261 c 52 ((all : Nat) : Int) ((set : Nat) : Int) ((pl_le set : Nat) : Int) ((q0 : Nat) : Int) m v m' → 1 ≤ set → set ≤ all → 1 ≤ q0 → q0 ≤ set + 1 → r0_J m J → rn_T J m set F P → (m 167 ((set : Nat) : Int) = 0 ↔ ¬ pl_fit J set) → ((m 165 ((set : Nat) : Int) = 100 ∧ ∀ q, pl_cand J set q → q < q0 → 1000 ≤ F (set - q)) ∨ (∃ p : Nat, pl_cand J set p ∧ p < q0 ∧ m 165 ((set : Nat) : Int) = F (set - p) + 1 ∧ m 166 ((set : Nat) : Int) = ((p : Nat) : Int) ∧ F (set - p) < 1000 ∧ ∀ q, pl_cand J set q → q < q0 → F (set - p) < F (set - q) ∨ (F (set - p) = F (set - q) ∧ p ≤ q))) → rn_R J v m' ∧ rn_fr m m') := by
    intro c
    induction c with
    | zero => exact ⟨fun set l3 l4 m F P h => h.elim, fun set q0 m F P h => h.elim⟩
    | succ c ih =>
      obtain ⟨ih1, ih2⟩ := ih
      refine ⟨fun set l3 l4 m F P h s1 sa hJ hT => ?_, fun set q0 m F P h s1 sa q1 qs hJ hT hfs inv => ?_⟩
      · obtain ⟨hP, h5, h6, h7⟩ := hT
        have hb := pl_T_b (by omega) hP
        replace h := lm_261_20.mp h
        rcases h with ⟨d1, -, h⟩ | ⟨d1, v1, m1, h1, -, m2, e2, -, m3, e3, h⟩
        · have es : set = all + 1 := by omega
          subst es
          rw [h5 all (by omega)] at h
          have hq := hb all (by omega)
          have k8 := pl_cn_b all (by omega)
          have fin : (F all < 1000 ∧ v = F all) ∨ (1000 ≤ F all ∧ v = -1) := by
            unfold rn_en at h
            rcases h with ⟨d2, -, ev, em⟩ | ⟨d2, ev, em⟩
            · split at d2
              · exfalso; omega
              · next z => rw [if_neg z] at ev; exact Or.inl ⟨by omega, ev⟩
            · split at d2
              · next z => exact Or.inr ⟨z, ev⟩
              · exfalso; have := hq.2.1 (by omega); omega
          have em : m' = m := by
            rcases h with ⟨-, -, -, em⟩ | ⟨-, -, em⟩
            · exact em
            · exact em
          rw [em]
          refine ⟨⟨F, P, by rw [show 2 ^ J.2.2.length = all + 1 by omega]; exact hP, by rw [← ea]; exact fin, fun s p1 p2 => h6 s p1 (by omega)⟩, rn_fr.rf⟩
        · have hs : set < 256 := by omega
          obtain ⟨q, f1⟩ := rm_make ok hs h1 hJ
          have le := sm_leI set hs s1
          rw [le.1] at h
          have v01 : v1 = 0 ∨ v1 = 1 := by
            rcases q with ⟨z, -⟩ | ⟨z, -⟩
            · exact Or.inr z
            · exact Or.inl z
          rw [dc_z_eq v01] at e2
          have F3 : rn_fr m m3 := (f1.n.up e2 (by decide)).up e3 (by decide)
          have g1 : ∀ (k : Nat) (i : Int), 165 ≤ k → m1 k i = m k i := fun k i hk => f1 k i (by omega) (by omega) (by omega) (by omega) (by omega)
          have fin := ih2 set (pl_le set) m3 F P h s1 (by omega) le.2.2.1 (by omega) (hJ.fn F3) ⟨hP, fun s hs => by rw [e3, dc_up_i (by omega), e2, dc_up_k (by decide), g1 165 _ (by decide)]; exact h5 s hs, fun s p1 p2 p3 => by rw [e3, dc_up_k (by decide), e2, dc_up_k (by decide), g1 166 _ (by decide)]; exact h6 s p1 p2 p3, fun q p1 p2 => by rw [e3, dc_up_k (by decide), e2, dc_up_i (by omega), g1 167 _ (by decide)]; exact h7 q p1 p2⟩ (by
            rw [e3, dc_up_k (by decide), e2, dc_up_s]
            rcases q with ⟨y, fit, -⟩ | ⟨y, nf⟩
            · exact ⟨fun x => by exfalso; omega, fun x => absurd fit x⟩
            · exact ⟨fun _ => nf, fun _ => y⟩) (Or.inl ⟨by rw [e3, dc_up_s], fun q hq hl => absurd (sm_leq set hs q hl) hq.1.2.2.2⟩)
          exact ⟨fin.1, F3.tr fin.2⟩
      · have hs : set < 256 := by omega
        have le := sm_leI set hs s1
        have hT0 := hT
        obtain ⟨hP, h5, h6, h7⟩ := hT
        have hb := pl_T_b (by omega) hP
        replace h := lm_261_52.mp h
        rcases h with ⟨d1, h⟩ | ⟨d1, h⟩
        · have eq0 : q0 = set + 1 := by omega
          rw [dc_w_eq (z := ((set : Nat) : Int) + 1) (by unfold sv_I; clear h; omega), show ((set : Nat) : Int) + 1 = ((set + 1 : Nat) : Int) from rfl] at h
          have fin : ∀ (p : Nat) (l : Int), pl_best J F set p l → m 165 ((set : Nat) : Int) = rn_en (if p = 0 then 1000 else l + 1) → (p ≠ 0 → m 166 ((set : Nat) : Int) = ((p : Nat) : Int)) → rn_R J v m' ∧ rn_fr m m' := by
            intro p l b e1 e2
            refine ih1 (set + 1) 0 0 m _ _ h (by omega) (by omega) hJ ⟨pl_T_ext hP s1 b rfl, fun s hs => ?_, fun s p1 p2 p3 => ?_, fun q p1 p2 => ?_⟩
            · show m 165 (s : Nat) = rn_en (if s = set then (if p = 0 then 1000 else l + 1) else F s)
              by_cases z : s = set
              · rw [if_pos z, z]; exact e1
              · rw [if_neg z]; exact h5 s (by omega)
            · have p3 : (if s = set then p else P s) ≠ 0 := p3
              show m 166 (s : Nat) = (((if s = set then p else P s : Nat)) : Int)
              by_cases z : s = set
              · rw [if_pos z] at p3 ⊢
                rw [z]; exact e2 p3
              · rw [if_neg z] at p3 ⊢
                exact h6 s p1 (by omega) p3
            · by_cases z : q = set
              · rw [z]; exact hfs
              · exact h7 q p1 (by omega)
          rcases inv with ⟨a1, a2⟩ | ⟨p, b1, b2, b3, b4, b5, b6⟩
          · exact fin 0 1000 (Or.inl ⟨rfl, rfl, fun q hq => a2 q hq (by have := hq.1; omega)⟩) (by rw [if_pos rfl, a1]; rfl) (fun z => absurd rfl z)
          · have pc := b1.1
            have k := (hb (set - p) (by omega)).2.1 b5
            have k8 := pl_cn_b (set - p) (by omega)
            exact fin p (F (set - p)) (Or.inr ⟨b1, rfl, b5, fun q hq => b6 q hq (by have := hq.1; omega)⟩) (by
              unfold rn_en
              rw [if_neg (by omega : ¬ p = 0), if_neg (by omega)]; exact b3) (fun _ => b4)
        · have hq0 : q0 ≤ set := by omega
          rw [dc_w_eq (z := ((q0 : Nat) : Int) + 1) (by unfold sv_I; clear h; omega), show ((q0 : Nat) : Int) + 1 = ((q0 + 1 : Nat) : Int) from rfl] at h
          have skip : LM_261 c 52 ((all : Nat) : Int) ((set : Nat) : Int) ((pl_le set : Nat) : Int) ((q0 + 1 : Nat) : Int) m v m' → (pl_cand J set q0 → m 165 ((set : Nat) : Int) ≤ rn_en (F (set - q0)) + 1) → rn_R J v m' ∧ rn_fr m m' := by
            intro h hn
            refine ih2 set (q0 + 1) m F P h s1 sa (by omega) (by omega) hJ hT0 hfs ?_
            rcases inv with ⟨a1, a2⟩ | ⟨p, b1, b2, b3, b4, b5, b6⟩
            · refine Or.inl ⟨a1, fun q hq hl => ?_⟩
              by_cases z : q = q0
              · subst z
                have y := hn hq
                have pc := hq.1
                have k := (hb (set - q) (by omega)).2.1
                have k8 := pl_cn_b (set - q) (by omega)
                unfold rn_en at y
                split at y
                · assumption
                · exfalso; have := k (by omega); omega
              · exact a2 q hq (by omega)
            · refine Or.inr ⟨p, b1, by omega, b3, b4, b5, fun q hq hl => ?_⟩
              by_cases z : q = q0
              · subst z
                have y := hn hq
                unfold rn_en at y
                split at y
                · exact Or.inl (by omega)
                · by_cases w : F (set - p) = F (set - q)
                  · exact Or.inr ⟨w, by omega⟩
                  · exact Or.inl (by omega)
              · exact b6 q hq (by omega)
          rw [sm_subI (by omega) hs, sm_andI (by omega) le.2.2.2] at h
          rcases h with ⟨d2, h⟩ | ⟨d2, h⟩
          · refine skip h (fun z => absurd ?_ d2)
            rw [z.1.2.2.1, Nat.sub_self]; rfl
          · have al : q0 &&& set ≤ q0 := Nat.and_le_left
            have sub : q0 &&& set = q0 := by omega
            rcases h with ⟨d3, h⟩ | ⟨d3, -, h⟩
            · exact skip h (fun z => absurd (by omega) z.1.2.2.2)
            · rcases h with ⟨d4, h⟩ | ⟨d4, -, -, h⟩
              · refine skip h (fun z => absurd z.2 ?_)
                by_cases e : q0 = set
                · subst e; exact hfs.mp d4
                · exact (h7 q0 q1 (by omega)).mp d4
              · have fit : pl_fit J q0 := by
                  by_cases e : q0 = set
                  · subst e; exact Classical.byContradiction (fun z => d4 (hfs.mpr z))
                  · exact Classical.byContradiction (fun z => d4 ((h7 q0 q1 (by omega)).mpr z))
                have cand : pl_cand J set q0 := ⟨⟨q1, hq0, sub, by omega⟩, fit⟩
                rw [sm_subI hs (by omega), Nat.and_comm, sub, h5 (set - q0) (by omega)] at h
                have hq := hb (set - q0) (by omega)
                have k8 := pl_cn_b (set - q0) (by omega)
                have en : 0 ≤ rn_en (F (set - q0)) ∧ rn_en (F (set - q0)) ≤ 100 := by
                  unfold rn_en
                  split
                  · exact ⟨by decide, by decide⟩
                  · have := hq.2.1 (by omega); exact ⟨hq.1, by omega⟩
                rw [dc_w_eq (z := rn_en (F (set - q0)) + 1) (by unfold sv_I; clear h; omega)] at h
                rcases h with ⟨d5, -, -, m2, e2, -, m3, e3, h⟩ | ⟨d5, h⟩
                · have b100 : m 165 ((set : Nat) : Int) ≤ 100 := by
                    rcases inv with ⟨a1, -⟩ | ⟨p, b1, b2, b3, b4, b5, b6⟩
                    · omega
                    · have pc := b1.1
                      have := (hb (set - p) (by omega)).2.1 b5
                      have := pl_cn_b (set - p) (by omega)
                      omega
                  have ne : rn_en (F (set - q0)) = F (set - q0) ∧ F (set - q0) < 1000 := by
                    by_cases w : 1000 ≤ F (set - q0)
                    · exfalso
                      have : rn_en (F (set - q0)) = 100 := if_pos w
                      omega
                    · exact ⟨if_neg w, by omega⟩
                  rw [ne.1] at e2 d5
                  have F3 : rn_fr m m3 := (rn_fr.rf.up e2 (by decide)).up e3 (by decide)
                  have fin := ih2 set (q0 + 1) m3 F P h s1 sa (by omega) (by omega) (hJ.fn F3) ⟨hP, fun s hs => by rw [e3, dc_up_k (by decide), e2, dc_up_i (by omega)]; exact h5 s hs, fun s p1 p2 p3 => by rw [e3, dc_up_i (by omega), e2, dc_up_k (by decide)]; exact h6 s p1 p2 p3, fun q p1 p2 => by rw [e3, dc_up_k (by decide), e2, dc_up_k (by decide)]; exact h7 q p1 p2⟩ (by rw [e3, dc_up_k (by decide), e2, dc_up_k (by decide)]; exact hfs) (Or.inr ⟨q0, cand, by omega, by rw [e3, dc_up_k (by decide), e2, dc_up_s], by rw [e3, dc_up_s], ne.2, fun q hq hl => by
                    by_cases z : q = q0
                    · subst z; exact Or.inr ⟨rfl, Nat.le_refl _⟩
                    · rcases inv with ⟨a1, a2⟩ | ⟨p, b1, b2, b3, b4, b5, b6⟩
                      · have := a2 q hq (by omega)
                        exact Or.inl (by omega)
                      · rcases b6 q hq (by omega) with y | ⟨y, -⟩
                        · exact Or.inl (by omega)
                        · exact Or.inl (by omega)⟩)
                  exact ⟨fin.1, F3.tr fin.2⟩
                · exact skip h (fun _ => by omega)
  obtain ⟨-, -, m1, e1, c, h⟩ := h
  have f1 : rn_fr m m1 := rn_fr.rf.up e1 (by decide)
  rw [hJ.2.2.1, all1, ← ea] at h
  obtain ⟨y1, y2⟩ := (key c).1 1 0 0 m1 (fun _ => 0) (fun _ => 0) h (Nat.le_refl _) (by omega) (hJ.fn f1) ⟨⟨rfl, fun s p1 p2 => by omega⟩, fun s hs => by rw [show s = 0 by omega, e1]; exact dc_up_s, fun s p1 p2 => by omega, fun q p1 p2 => by omega⟩
  exact ⟨y1, f1.tr y2⟩
/-- the reference's part(r) -/
theorem rn_part {J : pj_J} (ok : pj_ok J) {r : Int} {m : dc_M} {v : Int} {m' : dc_M} (h : D_263 r m v m') (hJ : r0_J m J) : (∃ F P, pl_T J (2 ^ J.2.2.length) F P ∧ ((F (2 ^ J.2.2.length - 1) < 1000 ∧ ((0 ≤ r ∧ r < F (2 ^ J.2.2.length - 1) ∧ v = ((P (pl_ch P r.toNat (2 ^ J.2.2.length - 1)) : Nat) : Int)) ∨ (¬ (0 ≤ r ∧ r < F (2 ^ J.2.2.length - 1)) ∧ v = -1))) ∨ (1000 ≤ F (2 ^ J.2.2.length - 1) ∧ v = -1))) ∧ rn_fr m m' := by
  have l8 := ok.2.2.2.1
  obtain ⟨all1, all2⟩ := sm_all J.2.2.length l8
  have two := pl_two J.2.2.length
  obtain ⟨v1, m1, h1, v2, m2, h2, h⟩ := h
  obtain ⟨⟨F, P, hT, hv, hP⟩, f1⟩ := rn_plan ok h1 hJ
  have hb := pl_T_b (by omega) hT (2 ^ J.2.2.length - 1) (by omega)
  have k8 := pl_cn_b (2 ^ J.2.2.length - 1) all2
  obtain ⟨x2, y2⟩ := rz_in h2
  subst x2
  have v1b : dc_w (v1 - 1) = v1 - 1 := by
    rcases hv with ⟨a, b⟩ | ⟨a, b⟩
    · have := hb.2.1 a
      exact dc_w_eq (by unfold sv_I; omega)
    · rw [b]; decide
  rw [v1b] at y2
  rcases h with ⟨c1, -, c, h⟩ | ⟨c1, ev, em⟩
  · have hr : 0 ≤ r ∧ r ≤ v1 - 1 := by
      rcases y2 with ⟨z, -⟩ | ⟨-, z⟩
      · exact absurd z c1
      · exact z
    rcases hv with ⟨a, b⟩ | ⟨a, b⟩
    · have g155 : m2 155 0 = (J.2.2.length : Int) := (f1 155 0 (by decide) (by decide)).trans hJ.2.2.1
      rw [g155, all1] at h
      have key : ∀ (c k : Nat) (l2 : Int), LM_263 r c 32 l2 ((pl_ch P k (2 ^ J.2.2.length - 1) : Nat) : Int) ((k : Nat) : Int) m2 v m' → (k : Int) ≤ r → v = ((P (pl_ch P r.toNat (2 ^ J.2.2.length - 1)) : Nat) : Int) ∧ m' = m2 := by
        intro c
        induction c with
        | zero => intro k l2 h; exact h.elim
        | succ c ih =>
          intro k l2 h hk
          obtain ⟨n1, cd⟩ := pl_ch_P (by omega) hT (by omega) a (r := k) (by omega)
          have i1 := (pl_ch_F (by omega) hT (by omega) a k (by omega)).1
          have pc := cd.1
          have e166 := hP _ n1 i1 (by omega)
          replace h := lm_263_32.mp h
          rw [e166] at h
          rcases h with ⟨d1, -, ev, em⟩ | ⟨d1, -, h⟩
          · have : k = r.toNat := by omega
            rw [← this]
            exact ⟨ev, em⟩
          · rw [dc_w_eq (z := ((k : Nat) : Int) + 1) (by unfold sv_I; clear h; omega), show ((k : Nat) : Int) + 1 = ((k + 1 : Nat) : Int) from rfl, sm_subI (by omega) (by omega), Nat.and_comm, pc.2.2.1, ← pl_ch_s] at h
            exact ih (k + 1) l2 h (by omega)
      obtain ⟨q1, q2⟩ := key c 0 v1 h hr.1
      rw [q2]
      exact ⟨⟨F, P, hT, Or.inl ⟨a, Or.inl ⟨hr.1, by omega, q1⟩⟩⟩, f1⟩
    · exfalso; omega
  · have hr : ¬ (0 ≤ r ∧ r ≤ v1 - 1) := by
      rcases y2 with ⟨-, z⟩ | ⟨z, -⟩
      · exact z
      · exfalso; omega
    rw [em]
    rcases hv with ⟨a, b⟩ | ⟨a, b⟩
    · exact ⟨⟨F, P, hT, Or.inl ⟨a, Or.inr ⟨by omega, ev⟩⟩⟩, f1⟩
    · exact ⟨⟨F, P, hT, Or.inr ⟨a, ev⟩⟩, f1⟩
/-! in pairs -/
theorem pn_runs {J : pj_J} (ok : pj_ok J) {m0 m1 mm : dc_M} {v v' : Int} {m2 : dc_M} (hC : cn_R J m0) (hc : D_164 m0 v mm) (h : D_261 m1 v' m2) (hR : r0_J m1 J) : v' = v := by
  obtain ⟨F, P, hT, a⟩ := hC
  obtain ⟨⟨F', P', hT', b, -⟩, -⟩ := rn_plan ok h hR
  have two := pl_two J.2.2.length
  have e := (pl_T_u hT hT' (2 ^ J.2.2.length - 1) (by omega)).1
  rw [hc.1]
  rcases a with ⟨a1, a2, -⟩ | ⟨a1, a2⟩
  · rcases b with ⟨b1, b2⟩ | ⟨b1, b2⟩
    · rw [a2, b2, e]
    · exfalso; omega
  · rcases b with ⟨b1, b2⟩ | ⟨b1, b2⟩
    · exfalso; omega
    · rw [a2, b2]
/-- the part that the class has, and the reference finds -/
theorem pn_part {J : pj_J} (ok : pj_ok J) {r : Int} {m0 m1 : dc_M} {v' : Int} {m2 : dc_M} (hC : cn_R J m0) (h : D_263 r m1 v' m2) (hR : r0_J m1 J) : ((0 ≤ r ∧ r < m0 46 1 ∧ m0 47 r = v' ∧ ∃ q : Nat, v' = (q : Nat) ∧ q < 256 ∧ pl_fit J q) ∨ (¬ (0 ≤ r ∧ r < m0 46 1) ∧ v' = -1)) ∧ rn_fr m1 m2 := by
  obtain ⟨F, P, hT, a⟩ := hC
  obtain ⟨⟨F', P', hT', b⟩, f⟩ := rn_part ok h hR
  refine ⟨?_, f⟩
  have l8 := ok.2.2.2.1
  have all2 := (sm_all J.2.2.length l8).2
  have two := pl_two J.2.2.length
  have U := pl_T_u hT hT'
  have e := (U (2 ^ J.2.2.length - 1) (by omega)).1
  have ch : F (2 ^ J.2.2.length - 1) < 1000 → ∀ k : Nat, (k : Int) ≤ F (2 ^ J.2.2.length - 1) → pl_ch P k (2 ^ J.2.2.length - 1) = pl_ch P' k (2 ^ J.2.2.length - 1) := by
    intro hF k
    induction k with
    | zero => intro _; rfl
    | succ k ih =>
      intro hk
      have i := ih (by omega)
      rw [pl_ch_s, pl_ch_s, ← i]
      obtain ⟨n1, -⟩ := pl_ch_P (by omega) hT (by omega) hF (r := k) (by omega)
      have i1 := (pl_ch_F (by omega) hT (by omega) hF k (by omega)).1
      rw [(U _ i1).2 n1]
  rcases a with ⟨a1, a2, a3⟩ | ⟨a1, a2⟩
  · rcases b with ⟨b1, b2⟩ | ⟨b1, -⟩
    · rw [a2, e]
      rcases b2 with ⟨c1, c2, c3⟩ | ⟨c1, c2⟩
      · have hr : ((r.toNat : Nat) : Int) = r := by omega
        have q := a3 r.toNat (by omega)
        rw [hr] at q
        obtain ⟨n1, cd⟩ := pl_ch_P (by omega) hT (by omega) a1 (r := r.toNat) (by omega)
        have i1 := pl_ch_F (by omega) hT (by omega) a1 r.toNat (by omega)
        have ec := ch a1 r.toNat (by omega)
        have ep := (U _ i1.1).2 n1
        rw [ec] at ep q cd
        have pc := cd.1
        rw [ep] at q
        refine Or.inl ⟨c1, c2, q.trans c3.symm, _, c3, ?_, ?_⟩
        · rw [← ep]; rw [ec] at i1; omega
        · rw [← ep]; exact cd.2
      · exact Or.inr ⟨c1, c2⟩
    · exfalso; omega
  · rcases b with ⟨b1, -⟩ | ⟨b1, b2⟩
    · exfalso; omega
    · rw [a2]
      exact Or.inr ⟨by omega, b2⟩
theorem pn_has {r : Int} {m0 : dc_M} {v1 : Int} {m3 : dc_M} (h1 : D_79 r m0 v1 m3) : m3 = m0 ∧ ((v1 = 0 ∧ ¬ (0 ≤ r ∧ r < m0 46 1)) ∨ (v1 = 1 ∧ 0 ≤ r ∧ r < m0 46 1)) := by
  rcases h1 with ⟨c, ev, em⟩ | ⟨c, h1⟩
  · exact ⟨em, Or.inl ⟨ev, by omega⟩⟩
  · rcases h1 with ⟨c2, ev, em⟩ | ⟨c2, ev, em⟩
    · exact ⟨em, Or.inl ⟨ev, by omega⟩⟩
    · exact ⟨em, Or.inr ⟨ev, by omega, by omega⟩⟩
theorem pn_wants {J : pj_J} (ok : pj_ok J) {r : Int} {m0 m1 mm : dc_M} {v v' : Int} {m2 : dc_M} (hC : cn_R J m0) (hc : D_165 r m0 v mm) (h : D_263 r m1 v' m2) (hR : r0_J m1 J) : v' = v := by
  obtain ⟨q, -⟩ := pn_part ok hC h hR
  obtain ⟨v1, m3, h1, hc⟩ := hc
  obtain ⟨e3, p1⟩ := pn_has h1
  subst e3
  rcases hc with ⟨d1, ev, em⟩ | ⟨d1, -, ev, em⟩
  · rcases q with ⟨a1, a2, -⟩ | ⟨a1, a2⟩
    · exfalso; omega
    · rw [ev, a2]
  · rcases q with ⟨a1, a2, a3, -⟩ | ⟨a1, a2⟩
    · rw [ev, a3]
    · exfalso; omega
/-- the reference's JOB, whatever happens elsewhere -/
theorem r0_J.go {m m' : dc_M} {J : pj_J} (hJ : r0_J m J) (g : ∀ (k : Nat) (i : Int), 152 ≤ k → k ≤ 159 → m' k i = m k i) : r0_J m' J := by
  obtain ⟨a1, a2, a3, a4⟩ := hJ
  refine ⟨fun i hi => ?_, fun o p1 p3 => (g 154 _ (by decide) (by decide)).trans (a2 o p1 p3), (g 155 0 (by decide) (by decide)).trans a3, fun i hi => ?_⟩
  · rw [g 152 _ (by decide) (by decide), g 153 _ (by decide) (by decide)]; exact a1 i hi
  · rw [g 156 _ (by decide) (by decide), g 157 _ (by decide) (by decide), g 158 _ (by decide) (by decide), g 159 _ (by decide) (by decide)]; exact a4 i hi
/-- the board of a run: as many wires -/
theorem pn_make {J : pj_J} (ok : pj_ok J) {r : Int} {m0 m1 mm : dc_M} {v v' : Int} {m2 : dc_M} (hC : cn_R J m0) (hk : (m0 0 10).toNat = 96 ∨ (m0 0 10).toNat = 105) (ht : cm_tb (m0 0 8).toNat) (hJ : cj_J m0 (m0 0 10).toNat J) (hc : D_166 r m0 v mm) (h : D_265 r m1 v' m2) (hR : r0_J m1 J) : v' = v := by
  obtain ⟨m3, e3, v4, m4, h4, h⟩ := h
  have R3 : r0_J m3 J := hR.go (fun k i k1 k2 => by rw [e3, dc_up_k (by omega)])
  obtain ⟨q, f4⟩ := pn_part ok hC h4 R3
  clear h4
  obtain ⟨v1, m5, h1, hc⟩ := hc
  obtain ⟨e5, p1⟩ := pn_has h1
  clear h1
  subst e5
  rcases hc with ⟨d1, -, v6, m6, h6, ev, em⟩ | ⟨d1, ev, em⟩
  · rcases q with ⟨a1, a2, a3, s, a4, a5, a6⟩ | ⟨a1, a2⟩
    · rw [a3, a4] at h6
      obtain ⟨y6, f6, -⟩ := cm_make ht hk ok a5 h6 hJ
      clear h6
      have L6 : cz_W m6 (m5 0 8).toNat (pl_mk J s).1 := by
        rcases y6 with ⟨-, -, w⟩ | ⟨-, nf⟩
        · exact w
        · exact absurd a6 nf
      have g6 : m6 0 8 = m5 0 8 := f6 0 8 (by decide) (by decide) (by decide) (by clear h; omega) (by clear h; omega) (by clear h; omega)
      have e1 : v = ((pl_mk J s).1.length : Int) := by rw [ev, g6]; exact L6.1
      rcases h with ⟨c1, v7, m7, h7, -, m8, e8, c, h⟩ | ⟨c1, -⟩
      · rw [a4] at h7
        obtain ⟨y7, -⟩ := rm_make ok a5 h7 (R3.fn f4)
        have L7 : rm_L m7 (pl_mk J s).1 := by
          rcases y7 with ⟨-, -, w⟩ | ⟨-, nf⟩
          · exact w
          · exact absurd a6 nf
        have key : ∀ (c : Nat) (l2 l3 : Int) (m : dc_M), LM_265 r c 35 l2 l3 m v' m2 → v' = m 114 79 := by
          intro c
          induction c with
          | zero => intro l2 l3 m h; exact h.elim
          | succ c ih =>
            intro l2 l3 m h
            replace h := lm_265_35.mp h
            rcases h with ⟨-, ev, -⟩ | ⟨-, -, -, m9, e9, -, -, m10, e10, h⟩
            · exact ev
            · rw [ih _ _ _ h, e10, dc_up_k (by decide), e9, dc_up_k (by decide)]
        rw [key _ _ _ _ h, e8, dc_up_k (by decide), e1]
        exact L7.1
      · exfalso; omega
    · exfalso; clear h h6; omega
  · rcases q with ⟨a1, a2, -⟩ | ⟨a1, a2⟩
    · exfalso; clear h; omega
    · rcases h with ⟨c1, -⟩ | ⟨c1, ev2, -⟩
      · exfalso; omega
      · rw [ev, ev2]
