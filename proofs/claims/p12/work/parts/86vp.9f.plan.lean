/-! THE RUNS: how a set is parted -/
theorem sm_next : ∀ (n set one q : Nat), set < 2 ^ n → one &&& set = one → q &&& set = q → q < one → q ≤ (one - 1) &&& set
  | 0, set, one, q, hs, ho, hq, h => by
    have e : set = 0 := by
      have : (2 : Nat) ^ 0 = 1 := rfl
      omega
    subst e
    rw [Nat.and_zero] at ho
    omega
  | n + 1, set, one, q, hs, ho, hq, h => by
    have o2 : one / 2 &&& set / 2 = one / 2 := by rw [← Nat.and_div_two, ho]
    have q2 : q / 2 &&& set / 2 = q / 2 := by rw [← Nat.and_div_two, hq]
    have qm := Nat.and_mod_two_eq_one (a := q) (b := set)
    rw [hq] at qm
    have D : ((one - 1) &&& set) / 2 = (one - 1) / 2 &&& set / 2 := Nat.and_div_two
    have M := Nat.and_mod_two_eq_one (a := one - 1) (b := set)
    generalize (one - 1) &&& set = X at D M ⊢
    by_cases e : one % 2 = 1
    · rw [show (one - 1) / 2 = one / 2 by omega, o2] at D
      omega
    · have hs2 : set / 2 < 2 ^ n := by
        rw [Nat.pow_succ] at hs
        omega
      have IH := sm_next n (set / 2) (one / 2) (q / 2) hs2 o2 q2 (by omega)
      rw [show (one - 1) / 2 = one / 2 - 1 by omega] at D
      rw [← D] at IH
      have e1 : (one - 1) % 2 = 1 := by omega
      by_cases e3 : q % 2 = 1
      · have y := qm.mp e3
        have z := M.mpr ⟨e1, y.2⟩
        omega
      · omega
def pl_le (set : Nat) : Nat := set &&& (256 - set)
/-- a part of the set that has its least want and may be one run -/
def pl_cand (J : pj_J) (set q : Nat) : Prop := (1 ≤ q ∧ q ≤ set ∧ q &&& set = q ∧ q &&& pl_le set ≠ 0) ∧ pl_fit J q
def pl_best (J : pj_J) (F : Nat → Int) (set p : Nat) (l : Int) : Prop := (p = 0 ∧ l = 1000 ∧ ∀ q, pl_cand J set q → 1000 ≤ F (set - q)) ∨ (pl_cand J set p ∧ l = F (set - p) ∧ l < 1000 ∧ ∀ q, pl_cand J set q → l < F (set - q) ∨ (l = F (set - q) ∧ p ≤ q))
theorem pl_best_u {J : pj_J} {F F' : Nat → Int} {set p p' : Nat} {l l' : Int} (h : pl_best J F set p l) (h' : pl_best J F' set p' l') (e : ∀ s, s < set → F s = F' s) : p = p' ∧ l = l' := by
  have lt : ∀ q, pl_cand J set q → set - q < set := fun q hq => by have := hq.1; omega
  rcases h with ⟨a1, a2, a3⟩ | ⟨b1, b2, b3, b4⟩
  · rcases h' with ⟨c1, c2, -⟩ | ⟨d1, d2, d3, -⟩
    · exact ⟨a1.trans c1.symm, a2.trans c2.symm⟩
    · have := a3 p' d1
      rw [e _ (lt p' d1)] at this
      exfalso; omega
  · rcases h' with ⟨c1, c2, c3⟩ | ⟨d1, d2, d3, d4⟩
    · have := c3 p b1
      rw [← e _ (lt p b1)] at this
      exfalso; omega
    · have x := b4 p' d1
      have y := d4 p b1
      rw [e _ (lt p' d1)] at x
      rw [← e _ (lt p b1)] at y
      constructor <;> omega
/-- the table of sets below n -/
def pl_T (J : pj_J) (n : Nat) (F : Nat → Int) (P : Nat → Nat) : Prop := F 0 = 0 ∧ ∀ set, 1 ≤ set → set < n → ∃ l, pl_best J F set (P set) l ∧ F set = (if P set = 0 then 1000 else l + 1)
theorem pl_T_u {J : pj_J} {n : Nat} {F F' : Nat → Int} {P P' : Nat → Nat} (h : pl_T J n F P) (h' : pl_T J n F' P') : ∀ set, set < n → F set = F' set ∧ (1 ≤ set → P set = P' set) := by
  intro set
  induction set using Nat.strongRecOn with
  | ind set ih =>
    intro hn
    by_cases h0 : set = 0
    · subst h0
      exact ⟨h.1.trans h'.1.symm, fun z => absurd z (by decide)⟩
    · obtain ⟨l, b, e⟩ := h.2 set (by omega) hn
      obtain ⟨l', b', e'⟩ := h'.2 set (by omega) hn
      obtain ⟨q1, q2⟩ := pl_best_u b b' (fun s hs => (ih s hs (by omega)).1)
      exact ⟨by rw [e, e', q1, q2], fun _ => q1⟩
theorem pl_T_ext {J : pj_J} {set p : Nat} {F : Nat → Int} {P : Nat → Nat} {l x : Int} (h : pl_T J set F P) (s1 : 1 ≤ set) (b : pl_best J F set p l) (ex : x = (if p = 0 then 1000 else l + 1)) : pl_T J (set + 1) (fun s => if s = set then x else F s) (fun s => if s = set then p else P s) := by
  have bx : ∀ {set2 p2 : Nat} {l2 : Int}, set2 ≤ set → pl_best J F set2 p2 l2 → pl_best J (fun s => if s = set then x else F s) set2 p2 l2 := by
    intro set2 p2 l2 hle hb2
    have ee : ∀ q : Nat, 1 ≤ q → (fun s => if s = set then x else F s) (set2 - q) = F (set2 - q) := fun q hq => if_neg (by omega)
    rcases hb2 with ⟨a1, a2, a3⟩ | ⟨b1, b2, b3, b4⟩
    · exact Or.inl ⟨a1, a2, fun q hq => by rw [ee q hq.1.1]; exact a3 q hq⟩
    · exact Or.inr ⟨b1, by rw [ee _ b1.1.1]; exact b2, b3, fun q hq => by rw [ee q hq.1.1]; exact b4 q hq⟩
  refine ⟨by show (if 0 = set then x else F 0) = 0; rw [if_neg (by omega)]; exact h.1, fun s p1 p2 => ?_⟩
  by_cases z : s = set
  · subst z
    refine ⟨l, ?_, ?_⟩
    · show pl_best J _ s (if s = s then p else P s) l
      rw [if_pos rfl]; exact bx (Nat.le_refl _) b
    · show (if s = s then x else F s) = (if (if s = s then p else P s) = 0 then 1000 else l + 1)
      rw [if_pos rfl, if_pos rfl]; exact ex
  · obtain ⟨l2, b2, e5⟩ := h.2 s p1 (by omega)
    refine ⟨l2, ?_, ?_⟩
    · show pl_best J _ s (if s = set then p else P s) l2
      rw [if_neg z]; exact bx (by omega) b2
    · show (if s = set then x else F s) = (if (if s = set then p else P s) = 0 then 1000 else l2 + 1)
      rw [if_neg z, if_neg z]; exact e5
/-- f holds below n -/
noncomputable def sm_row (f : Nat → Bool) (n : Nat) : Bool := Nat.rec (motive := fun _ => Bool) true (fun k ih => and (f k) ih) n
theorem sm_row_ok {f : Nat → Bool} : ∀ {n : Nat}, sm_row f n = true → ∀ k, k < n → f k = true
  | 0, _, k, hk => absurd hk (Nat.not_lt_zero k)
  | n + 1, h, k, hk => by
    have h : and (f n) (sm_row f n) = true := h
    rw [Bool.and_eq_true] at h
    by_cases e : k = n
    · rw [e]; exact h.1
    · exact sm_row_ok h.2 k (by omega)
theorem pl_cn_sub : ∀ a : Nat, a < 256 → ∀ b : Nat, b < 256 → b &&& a = b → b &&& pl_le a ≠ 0 → pl_cn (a - b) + 1 ≤ pl_cn a := by
  have h : sm_row (fun a => sm_row (fun b => or (not (Nat.beq (Nat.land b a) b)) (or (Nat.beq (Nat.land b (pl_le a)) 0) (Nat.ble (Nat.succ (pl_cn (Nat.sub a b))) (pl_cn a)))) 256) 256 = true := by decide +kernel
  intro a ha b hb e ne
  have q : or (not (Nat.beq (b &&& a) b)) (or (Nat.beq (b &&& pl_le a) 0) (Nat.ble (pl_cn (a - b) + 1) (pl_cn a))) = true := sm_row_ok (sm_row_ok h a ha) b hb
  rw [e, Nat.beq_refl] at q
  have q : or (Nat.beq (b &&& pl_le a) 0) (Nat.ble (pl_cn (a - b) + 1) (pl_cn a)) = true := q
  rw [Bool.or_eq_true] at q
  rcases q with q | q
  · exact absurd (Nat.eq_of_beq_eq_true q) ne
  · exact Nat.le_of_ble_eq_true q
theorem pl_cn_b : ∀ a : Nat, a < 256 → pl_cn a ≤ 8 := by decide +kernel
theorem pl_T_b {J : pj_J} {n : Nat} (hn : n ≤ 256) {F : Nat → Int} {P : Nat → Nat} (h : pl_T J n F P) : ∀ set, set < n → 0 ≤ F set ∧ (F set < 1000 → F set ≤ pl_cn set) ∧ F set ≤ 1000 := by
  intro set
  induction set using Nat.strongRecOn with
  | ind set ih =>
    intro hs
    by_cases h0 : set = 0
    · subst h0
      rw [h.1]
      exact ⟨by decide, fun _ => by decide, by decide⟩
    · obtain ⟨l, b, e⟩ := h.2 set (by omega) hs
      rcases b with ⟨a1, a2, -⟩ | ⟨b1, b2, b3, -⟩
      · rw [e, if_pos a1]
        exact ⟨by decide, fun z => absurd z (by decide), by decide⟩
      · have c := b1.1
        have q := ih (set - P set) (by omega) (by omega)
        have k := pl_cn_sub set (by omega) (P set) (by omega) c.2.2.1 c.2.2.2
        rw [e, if_neg (by omega)]
        rw [b2] at b3 ⊢
        have := q.2.1 b3
        exact ⟨by omega, fun _ => by omega, by omega⟩
/-- the parts, one behind another -/
def pl_ch (P : Nat → Nat) : Nat → Nat → Nat
  | 0, left => left
  | r + 1, left => pl_ch P r (left - P left)
theorem pl_ch_s (P : Nat → Nat) : ∀ (r left : Nat), pl_ch P (r + 1) left = pl_ch P r left - P (pl_ch P r left)
  | 0, left => rfl
  | r + 1, left => pl_ch_s P r (left - P left)
/-- what is left behind r parts -/
theorem pl_ch_F {J : pj_J} {n : Nat} (hn : n ≤ 256) {F : Nat → Int} {P : Nat → Nat} (h : pl_T J n F P) {all : Nat} (ha : all < n) (hF : F all < 1000) : ∀ r : Nat, (r : Int) ≤ F all → pl_ch P r all < n ∧ pl_ch P r all ≤ all ∧ F (pl_ch P r all) = F all - r := by
  intro r
  induction r with
  | zero => intro _; exact ⟨ha, Nat.le_refl _, by show F all = F all - ((0 : Nat) : Int); omega⟩
  | succ r ih =>
    intro hr
    obtain ⟨i1, i2, i3⟩ := ih (by omega)
    rw [pl_ch_s]
    by_cases h0 : pl_ch P r all = 0
    · rw [h0, h.1] at i3; exfalso; omega
    · obtain ⟨l, b, e⟩ := h.2 _ (by omega) i1
      rcases b with ⟨a1, -⟩ | ⟨b1, b2, b3, -⟩
      · rw [e, if_pos a1] at i3; exfalso; omega
      · have c := b1.1
        rw [e, if_neg (by omega), b2] at i3
        exact ⟨by omega, by omega, by omega⟩
theorem pl_ch_P {J : pj_J} {n : Nat} (hn : n ≤ 256) {F : Nat → Int} {P : Nat → Nat} (h : pl_T J n F P) {all : Nat} (ha : all < n) (hF : F all < 1000) {r : Nat} (hr : (r : Int) < F all) : 1 ≤ pl_ch P r all ∧ pl_cand J (pl_ch P r all) (P (pl_ch P r all)) := by
  obtain ⟨i1, i2, i3⟩ := pl_ch_F hn h ha hF r (by omega)
  by_cases h0 : pl_ch P r all = 0
  · rw [h0, h.1] at i3; exfalso; omega
  · obtain ⟨l, b, e⟩ := h.2 _ (by omega) i1
    rcases b with ⟨a1, -⟩ | ⟨b1, -⟩
    · rw [e, if_pos a1] at i3; exfalso; omega
    · exact ⟨by omega, b1⟩
/-! sets as ints -/
theorem sm_and : ∀ a : Nat, a < 256 → ∀ b : Nat, b < 256 → a &&& b < 256 ∧ a &&& (4294967295 - b) = a - (a &&& b) := by
  have h : sm_row (fun a => sm_row (fun b => and (Nat.ble (Nat.succ (Nat.land a b)) 256) (Nat.beq (Nat.land a (Nat.sub 4294967295 b)) (Nat.sub a (Nat.land a b)))) 256) 256 = true := by decide +kernel
  intro a ha b hb
  have q : and (Nat.ble (Nat.succ (a &&& b)) 256) (Nat.beq (a &&& (4294967295 - b)) (a - (a &&& b))) = true := sm_row_ok (sm_row_ok h a ha) b hb
  rw [Bool.and_eq_true] at q
  exact ⟨Nat.le_of_ble_eq_true q.1, Nat.eq_of_beq_eq_true q.2⟩
theorem sm_u {a : Nat} (h : a < 256) : sv_u ((a : Nat) : Int) = a := sv_u_nat (by omega)
theorem sm_g {a : Nat} (h : a < 256) : sv_g a = (a : Int) := by unfold sv_g; rw [if_pos (by omega)]
theorem sm_andI {a b : Nat} (ha : a < 256) (hb : b < 256) : sv_g (sv_u (a : Nat) &&& sv_u (b : Nat)) = ((a &&& b : Nat) : Int) := by
  rw [sm_u ha, sm_u hb, sm_g (sm_and a ha b hb).1]
theorem sm_not {b : Nat} (hb : b < 256) : sv_u (-(b : Int) - 1) = 4294967295 - b := by
  have h := sv_uc (-(b : Int) - 1)
  omega
theorem sm_subI {a b : Nat} (ha : a < 256) (hb : b < 256) : sv_g (sv_u (a : Nat) &&& sv_u (-(b : Int) - 1)) = ((a - (a &&& b) : Nat) : Int) := by
  rw [sm_u ha, sm_not hb, (sm_and a ha b hb).2, sm_g (by omega)]
theorem sm_leI : ∀ set : Nat, set < 256 → 1 ≤ set → sv_g (sv_u (set : Nat) &&& sv_u (dc_w (-((set : Nat) : Int)))) = ((pl_le set : Nat) : Int) ∧ pl_le set ≤ set ∧ 1 ≤ pl_le set ∧ pl_le set < 256 := by decide +kernel
theorem sm_leq : ∀ set : Nat, set < 256 → ∀ q : Nat, q < pl_le set → q &&& pl_le set = 0 := by
  have key : ∀ set : Nat, set < 256 → ∀ q : Nat, q < 256 → q < pl_le set → q &&& pl_le set = 0 := by
    have h : sm_row (fun s => sm_row (fun q => or (Nat.ble (pl_le s) q) (Nat.beq (Nat.land q (pl_le s)) 0)) 256) 256 = true := by decide +kernel
    intro s hs q hq lt
    have k : or (Nat.ble (pl_le s) q) (Nat.beq (q &&& pl_le s) 0) = true := sm_row_ok (sm_row_ok h s hs) q hq
    rw [Bool.or_eq_true] at k
    rcases k with k | k
    · exact absurd lt (Nat.not_lt.mpr (Nat.le_of_ble_eq_true k))
    · exact Nat.eq_of_beq_eq_true k
  intro set hs q hq
  have := sm_and set hs (256 - set)
  refine key set hs q ?_ hq
  by_cases h0 : set = 0
  · subst h0
    exact absurd hq (Nat.not_lt_zero q)
  · have := (sm_leI set hs (by omega)).2.2.2
    omega
theorem sm_all : ∀ n : Nat, n ≤ 8 → dc_w (sv_g (ae_shl (sv_u 1) (sv_u (n : Nat))) - 1) = ((2 ^ n - 1 : Nat) : Int) ∧ 2 ^ n - 1 < 256 := by
  have key : ∀ n : Nat, n < 9 → dc_w (sv_g (ae_shl (sv_u 1) (sv_u (n : Nat))) - 1) = ((2 ^ n - 1 : Nat) : Int) ∧ 2 ^ n - 1 < 256 := by decide +kernel
  exact fun n hn => key n (by omega)
/-! the class -/
/-- the class's search for the best first part -/
theorem cn_first {J : pj_J} {set : Nat} (hs : set < 256) (h1 : 1 ≤ set) {F : Nat → Int} {m : dc_M} {v : Int} {m' : dc_M} (h : D_81 (set : Nat) m v m') (hF : ∀ s : Nat, s < set → m 49 (s : Nat) = F s) (hb : ∀ s : Nat, s < set → F s ≤ 1000) (hf : ∀ q : Nat, 1 ≤ q → q ≤ set → (m 48 (q : Nat) = 0 ↔ ¬ pl_fit J q)) : m' = m ∧ ∃ (p : Nat) (l : Int), v = (p : Nat) ∧ pl_best J F set p l := by
  have le := sm_leI set hs h1
  have key : ∀ (c : Nat) (one : Nat) (best l4 : Int), LM_81 (set : Nat) c 15 ((pl_le set : Nat) : Int) best l4 (one : Nat) m v m' → one ≤ set → one &&& set = one → ((l4 = 1000 ∧ ∀ q, pl_cand J set q → one < q → 1000 ≤ F (set - q)) ∨ (∃ p : Nat, best = (p : Nat) ∧ l4 < 1000 ∧ pl_cand J set p ∧ one < p ∧ l4 = F (set - p) ∧ ∀ q, pl_cand J set q → one < q → l4 < F (set - q) ∨ (l4 = F (set - q) ∧ p ≤ q))) → m' = m ∧ ∃ (p : Nat) (l : Int), v = (p : Nat) ∧ pl_best J F set p l := by
    intro c
    induction c with
    | zero => intro one best l4 h; exact h.elim
    | succ c ih =>
      intro one best l4 h ho hos inv
      replace h := lm_81_15.mp h
      rcases h with ⟨c1, h⟩ | ⟨c1, h⟩
      · have e0 : one = 0 := by omega
        subst e0
        rcases h with ⟨c2, ev, em⟩ | ⟨c2, ev, em⟩
        · refine ⟨em, 0, 1000, ev, Or.inl ⟨rfl, rfl, fun q hq => ?_⟩⟩
          rcases inv with ⟨a1, a2⟩ | ⟨p, b1, b2, b3, b4, b5, b6⟩
          · exact a2 q hq (by have := hq.1; omega)
          · exfalso; omega
        · refine ⟨em, ?_⟩
          rcases inv with ⟨a1, a2⟩ | ⟨p, b1, b2, b3, b4, b5, b6⟩
          · exfalso; omega
          · exact ⟨p, l4, ev.trans b1, Or.inr ⟨b3, b5, b2, fun q hq => b6 q hq (by have := hq.1; omega)⟩⟩
      · have o1 : 1 ≤ one := by omega
        have w : dc_w ((one : Nat) - 1) = ((one - 1 : Nat) : Int) := by rw [dc_w_eq (by unfold sv_I; omega)]; omega
        have nx : sv_g (sv_u (dc_w ((one : Nat) - 1)) &&& sv_u (set : Nat)) = (((one - 1) &&& set : Nat) : Int) := by rw [w]; exact sm_andI (by omega) hs
        have nb : (one - 1) &&& set ≤ one - 1 := Nat.and_le_left
        have nss : ((one - 1) &&& set) &&& set = (one - 1) &&& set := by rw [Nat.and_assoc, Nat.and_self]
        have ns : ∀ q, pl_cand J set q → (one - 1) &&& set < q → q ≠ one → one < q := fun q hq h2 h3 => by
          have c := hq.1
          by_cases z : q < one
          · have := sm_next 8 set one q (by have : (2 : Nat) ^ 8 = 256 := rfl; omega) hos c.2.2.1 z
            omega
          · omega
        -- one is no better
        have skip : LM_81 (set : Nat) c 15 ((pl_le set : Nat) : Int) best l4 (sv_g (sv_u (dc_w ((one : Nat) - 1)) &&& sv_u (set : Nat))) m v m' → (pl_cand J set one → (l4 < F (set - one))) → m' = m ∧ ∃ (p : Nat) (l : Int), v = (p : Nat) ∧ pl_best J F set p l := by
          intro h hn
          rw [nx] at h
          refine ih _ best l4 h (by omega) nss ?_
          rcases inv with ⟨a1, a2⟩ | ⟨p, b1, b2, b3, b4, b5, b6⟩
          · refine Or.inl ⟨a1, fun q hq hl => ?_⟩
            by_cases z : q = one
            · subst z
              have := hn hq
              omega
            · exact a2 q hq (ns q hq hl z)
          · refine Or.inr ⟨p, b1, b2, b3, by omega, b5, fun q hq hl => ?_⟩
            by_cases z : q = one
            · subst z
              exact Or.inl (hn hq)
            · exact b6 q hq (ns q hq hl z)
        rw [sm_andI (by omega) le.2.2.2] at h
        rcases h with ⟨c2, h⟩ | ⟨c2, -, h⟩
        · exact skip h (fun z => absurd (by omega) z.1.2.2.2)
        · rcases h with ⟨c3, h⟩ | ⟨c3, -, h⟩
          · exact skip h (fun z => absurd z.2 ((hf one o1 ho).mp c3))
          · have fit : pl_fit J one := Classical.byContradiction (fun z => c3 ((hf one o1 ho).mpr z))
            have cand : pl_cand J set one := ⟨⟨o1, ho, hos, by omega⟩, fit⟩
            have sb : sv_g (sv_u (set : Nat) &&& sv_u (-((one : Nat) : Int) - 1)) = ((set - one : Nat) : Int) := by
              rw [sm_subI hs (by omega), Nat.and_comm, hos]
            rw [sb, hF (set - one) (by omega)] at h
            have hb1 := hb (set - one) (by omega)
            rcases h with ⟨c4, h⟩ | ⟨c4, -, h⟩
            · exact skip h (fun _ => by omega)
            · rw [nx] at h
              refine ih _ ((one : Nat) : Int) (F (set - one)) h (by omega) nss ?_
              by_cases z1 : F (set - one) = 1000
              · refine Or.inl ⟨z1, fun q hq hl => ?_⟩
                by_cases z : q = one
                · subst z; omega
                · rcases inv with ⟨a1, a2⟩ | ⟨p, b1, b2, -⟩
                  · exact a2 q hq (ns q hq hl z)
                  · exfalso; omega
              · refine Or.inr ⟨one, rfl, by omega, cand, by omega, rfl, fun q hq hl => ?_⟩
                by_cases z : q = one
                · subst z; exact Or.inr ⟨rfl, Nat.le_refl _⟩
                · have g := ns q hq hl z
                  rcases inv with ⟨a1, a2⟩ | ⟨p, b1, b2, b3, b4, b5, b6⟩
                  · have := a2 q hq g
                    exact Or.inl (by omega)
                  · rcases b6 q hq g with y | ⟨y, -⟩
                    · exact Or.inl (by omega)
                    · by_cases x : F (set - one) = l4
                      · exact Or.inr ⟨by omega, by omega⟩
                      · exact Or.inl (by omega)
  obtain ⟨c, h⟩ := h
  rw [le.1] at h
  exact key c set 0 1000 h (Nat.le_refl _) (Nat.and_self set) (Or.inl ⟨rfl, fun q hq hl => by have := hq.1; omega⟩)
/-- the class's table below set -/
def cn_T (J : pj_J) (m : dc_M) (set : Nat) (F : Nat → Int) (P : Nat → Nat) : Prop := pl_T J set F P ∧ (∀ s : Nat, s < set → m 49 (s : Nat) = F s) ∧ ∀ q : Nat, 1 ≤ q → q < set → (m 48 (q : Nat) = 0 ↔ ¬ pl_fit J q)
/-- what partWants leaves: the runs, and the parts -/
def cn_R (J : pj_J) (m : dc_M) : Prop := ∃ F P, pl_T J (2 ^ J.2.2.length) F P ∧ ((F (2 ^ J.2.2.length - 1) < 1000 ∧ m 46 1 = F (2 ^ J.2.2.length - 1) ∧ ∀ r : Nat, (r : Int) < F (2 ^ J.2.2.length - 1) → m 47 (r : Nat) = ((P (pl_ch P r (2 ^ J.2.2.length - 1)) : Nat) : Int)) ∨ (1000 ≤ F (2 ^ J.2.2.length - 1) ∧ m 46 1 = -1))
theorem pl_two (n : Nat) : 1 ≤ 2 ^ n := Nat.two_pow_pos n
theorem cn_greedy {J : pj_J} (ok : pj_ok J) {F : Nat → Int} {P : Nat → Nat} {all : Nat} (hall : all < 256) (hT : pl_T J (all + 1) F P) (hFa : F all < 1000) : ∀ (c r : Nat) (l2 : Int) (m : dc_M) (v : Int) (m' : dc_M) (k1 : Nat), LM_80 k1 c 82 l2 ((pl_ch P r all : Nat) : Int) m v m' → (r : Int) ≤ F all → m 46 1 = (r : Nat) → (∀ s : Nat, s < all + 1 → m 49 (s : Nat) = F s) → (∀ q : Nat, 1 ≤ q → q < all + 1 → (m 48 (q : Nat) = 0 ↔ ¬ pl_fit J q)) → (∀ i : Nat, i < r → m 47 (i : Nat) = ((P (pl_ch P i all) : Nat) : Int)) → m' 46 1 = F all ∧ (∀ i : Nat, (i : Int) < F all → m' 47 (i : Nat) = ((P (pl_ch P i all) : Nat) : Int)) ∧ m' 49 0 = m 49 0 := by
  have hb := pl_T_b (by omega) hT
  have c8 := pl_cn_b all hall
  have fa := hb all (by omega)
  intro c
  induction c with
  | zero => intro r l2 m v m' k1 h; exact h.elim
  | succ c ih =>
    intro r l2 m v m' k1 h hr e1 hF hf hp
    obtain ⟨g1, g2, g3⟩ := pl_ch_F (by omega) hT (by omega) hFa r hr
    replace h := lm_80_82.mp h
    rw [e1] at h
    rcases h with ⟨d1, -, em⟩ | ⟨d1, h⟩
    · have e0 : pl_ch P r all = 0 := by omega
      rw [e0, hT.1] at g3
      rw [em]
      exact ⟨by omega, fun i hi => hp i (by omega), rfl⟩
    · rcases h with ⟨d2, -⟩ | ⟨d2, h⟩
      · exfalso; omega
      · have ne : 1 ≤ pl_ch P r all := by omega
        obtain ⟨l, b, e⟩ := hT.2 _ ne g1
        have rlt : (r : Int) < F all := by
          rcases b with ⟨a1, -⟩ | ⟨b1, b2, b3, -⟩
          · rw [e, if_pos a1] at g3; omega
          · have q := (hb (pl_ch P r all - P (pl_ch P r all)) (by omega)).1
            have := b1.1
            rw [e, if_neg (by omega), b2] at g3
            omega
        have cd := (pl_ch_P (by omega) hT (by omega) hFa rlt).2
        rcases h with ⟨d3, -⟩ | ⟨d3, v1, m1, h1, h⟩
        · exfalso; omega
        · obtain ⟨em1, p, l', ev, b'⟩ := cn_first (J := J) (by omega) ne h1 (fun s hs => hF s (by omega)) (fun s hs => (hb s (by omega)).2.2) (fun q q1 q2 => hf q q1 (by omega))
          subst em1
          have ep : p = P (pl_ch P r all) := (pl_best_u b' b (fun _ _ => rfl)).1
          rw [ep] at ev
          have pc := cd.1
          rw [e1] at h
          obtain ⟨-, m2, e2, h⟩ := h
          rcases h with ⟨d4, m3, e3, h⟩ | ⟨d4, -⟩
          · rw [ev] at e2 h
            have f3 : ∀ (k : Nat) (i : Int), k ≠ 46 → k ≠ 47 → m3 k i = m1 k i := fun k i k1 k2 => by rw [e3, dc_up_k k1, e2, dc_up_k k2]
            have sb : sv_g (sv_u ((pl_ch P r all : Nat) : Int) &&& sv_u (-((P (pl_ch P r all) : Nat) : Int) - 1)) = ((pl_ch P (r + 1) all : Nat) : Int) := by
              rw [sm_subI (by omega) (by omega), Nat.and_comm, pc.2.2.1, pl_ch_s]
            rw [sb] at h
            have m21 : m2 46 1 = (r : Int) := by rw [e2, dc_up_k (by decide), e1]
            have fin := ih (r + 1) l2 m3 v m' k1 h (by omega) (by rw [e3, dc_up_s, m21, dc_w_eq (by unfold sv_I; clear h h1; omega)]; rfl) (fun s hs => (f3 49 _ (by decide) (by decide)).trans (hF s hs)) (fun q q1 q2 => by rw [f3 48 _ (by decide) (by decide)]; exact hf q q1 q2) (fun i hi => by
              rw [e3, dc_up_k (by decide), e2]
              by_cases z : i = r
              · rw [z, dc_up_s]
              · rw [dc_up_i (by omega)]; exact hp i (by omega))
            rw [f3 49 0 (by decide) (by decide)] at fin
            exact fin
          · exfalso; rw [ev] at d4; omega
/-- the class's partWants -/
theorem cn_part {k1 : Nat} (hk : k1 = 96 ∨ k1 = 105) {J : pj_J} (ok : pj_ok J) {m : dc_M} {v : Int} {m' : dc_M} (h : D_80 k1 m v m') (hJ : cj_J m k1 J) (h0 : m 49 0 = 0) : cn_R J m' ∧ m' 49 0 = 0 := by
  have l8 := ok.2.2.2.1
  obtain ⟨all1, all2⟩ := sm_all J.2.2.length l8
  have two := pl_two J.2.2.length
  obtain ⟨all, ea⟩ : ∃ all : Nat, all = 2 ^ J.2.2.length - 1 := ⟨_, rfl⟩
  have key : ∀ (c set : Nat) (m : dc_M) (F : Nat → Int) (P : Nat → Nat), LM_80 k1 c 11 ((all : Nat) : Int) ((set : Nat) : Int) m v m' → 1 ≤ set → set ≤ all + 1 → cj_J m k1 J → cn_T J m set F P → cn_R J m' ∧ m' 49 0 = 0 := by
    intro c
    induction c with
    | zero => intro set m F P h; exact h.elim
    | succ c ih =>
      intro set m F P h s1 sa hJ hT
      obtain ⟨hP, hF, hf⟩ := hT
      have hb := pl_T_b (by omega) hP
      replace h := lm_80_11.mp h
      rcases h with ⟨d1, m1, e1, h⟩ | ⟨d1, v1, m1, h1, -, m2, e2, v3, m3, h3, h⟩
      · have es : set = all + 1 := by omega
        subst es
        have f1 : ∀ (k : Nat) (i : Int), k ≠ 46 → m1 k i = m k i := fun k i q => by rw [e1, dc_up_k q]
        have z0 : m 49 0 = 0 := (hF 0 (by omega)).trans hP.1
        by_cases hFa : F all < 1000
        · obtain ⟨y1, y2, y3⟩ := cn_greedy ok (by omega) hP hFa c 0 _ m1 v m' k1 h (by show (0 : Int) ≤ F all; exact (hb all (by omega)).1) (by rw [e1, dc_up_s]; rfl) (fun s hs => (f1 49 _ (by decide)).trans (hF s hs)) (fun q q1 q2 => by rw [f1 48 _ (by decide)]; exact hf q q1 q2) (fun i hi => by omega)
          refine ⟨⟨F, P, ?_, Or.inl ?_⟩, y3.trans ((f1 49 0 (by decide)).trans z0)⟩
          · rw [show 2 ^ J.2.2.length = all + 1 by omega]; exact hP
          · rw [← ea]
            exact ⟨hFa, y1, y2⟩
        · refine ⟨⟨F, P, ?_, Or.inr ?_⟩, ?_⟩
          · rw [show 2 ^ J.2.2.length = all + 1 by omega]; exact hP
          · rw [← ea]
            refine ⟨by omega, ?_⟩
            have an : all ≠ 0 := fun z => by rw [z, hP.1] at hFa; exact hFa (by decide)
            obtain ⟨l, b, e⟩ := hP.2 all (by omega) (by omega)
            cases c with
            | zero => exact h.elim
            | succ c =>
              replace h := lm_80_82.mp h
              have g1 : m1 46 1 = 0 := by rw [e1, dc_up_s]
              rw [g1] at h
              rcases h with ⟨x1, -⟩ | ⟨x1, h⟩
              · exfalso; omega
              · rcases h with ⟨x2, -⟩ | ⟨x2, h⟩
                · exact absurd x2 (by decide)
                · rcases h with ⟨x3, -⟩ | ⟨x3, v5, m5, h5, h⟩
                  · exact absurd x3 (by decide)
                  · obtain ⟨em5, p, l', ev, b'⟩ := cn_first (J := J) (by omega) (by omega) h5 (fun s hs => (f1 49 _ (by decide)).trans (hF s (by omega))) (fun s hs => (hb s (by omega)).2.2) (fun q q1 q2 => by rw [f1 48 _ (by decide)]; exact hf q q1 (by omega))
                    subst em5
                    have p0 : p = 0 := by
                      rw [(pl_best_u b' b (fun _ _ => rfl)).1]
                      rcases b with ⟨a1, -⟩ | ⟨b1, b2, b3, -⟩
                      · exact a1
                      · exfalso
                        have := b1.1
                        have q := (hb (all - P all) (by omega)).2.1 (by omega)
                        have k := pl_cn_b (all - P all) (by omega)
                        rw [e, if_neg (by omega)] at hFa
                        omega
                    obtain ⟨-, m6, e6, h⟩ := h
                    rcases h with ⟨x4, -⟩ | ⟨x4, m7, e7, h⟩
                    · exfalso; rw [ev, p0] at x4; exact x4 rfl
                    · cases c with
                      | zero => exact h.elim
                      | succ c =>
                        replace h := lm_80_82.mp h
                        have g7 : m7 46 1 = -1 := by rw [e7, dc_up_s]
                        rcases h with ⟨-, -, em⟩ | ⟨-, h⟩
                        · rw [em]; exact g7
                        · rcases h with ⟨-, -, em⟩ | ⟨x5, -⟩
                          · rw [em]; exact g7
                          · exact absurd g7 x5
          · have q0 : ∀ (c : Nat) (l2 l3 : Int) (m : dc_M), LM_80 k1 c 82 l2 l3 m v m' → m' 49 0 = m 49 0 := by
              intro c
              induction c with
              | zero => intro l2 l3 m h; exact h.elim
              | succ c ih =>
                intro l2 l3 m h
                replace h := lm_80_82.mp h
                rcases h with ⟨-, -, em⟩ | ⟨-, h⟩
                · rw [em]
                · rcases h with ⟨-, -, em⟩ | ⟨-, h⟩
                  · rw [em]
                  · rcases h with ⟨-, -, em⟩ | ⟨-, v5, m5, h5, -, m6, e6, h⟩
                    · rw [em]
                    · have e5 := cp_81 h5
                      subst e5
                      rcases h with ⟨-, m7, e7, h⟩ | ⟨-, m7, e7, h⟩
                      · rw [ih _ _ _ h, e7, dc_up_k (by decide), e6, dc_up_k (by decide)]
                      · rw [ih _ _ _ h, e7, dc_up_k (by decide), e6, dc_up_k (by decide)]
            rw [q0 c _ _ m1 h, f1 49 0 (by decide)]; exact z0
      · have hs : set < 256 := by omega
        obtain ⟨q1, f1, -⟩ := cm_make (tb := 50) (Or.inl rfl) hk ok hs h1 hJ
        have g1 : ∀ (k : Nat) (i : Int), (k = 47 ∨ k = 48 ∨ k = 49 ∨ 96 ≤ k) → m1 k i = m k i := fun k i hk => f1 k i (by omega) (by omega) (by omega) (by omega) (by omega) (by omega)
        have v01 : v1 = 0 ∨ v1 = 1 := by
          rcases q1 with ⟨z, -⟩ | ⟨z, -⟩
          · exact Or.inr z
          · exact Or.inl z
        rw [dc_z_eq v01] at e2
        have hf2 : ∀ q : Nat, 1 ≤ q → q ≤ set → (m2 48 (q : Nat) = 0 ↔ ¬ pl_fit J q) := fun q p1 p2 => by
          rw [e2]
          by_cases z : q = set
          · subst z
            rw [dc_up_s]
            rcases q1 with ⟨y, fit, -⟩ | ⟨y, nf⟩
            · exact ⟨fun x => by omega, fun x => absurd fit x⟩
            · exact ⟨fun _ => nf, fun _ => y⟩
          · rw [dc_up_i (by omega), g1 48 _ (by decide)]
            exact hf q p1 (by omega)
        have hF2 : ∀ s : Nat, s < set → m2 49 (s : Nat) = F s := fun s hs => by rw [e2, dc_up_k (by decide), g1 49 _ (by decide)]; exact hF s hs
        obtain ⟨em3, p, l, ev, b⟩ := cn_first (J := J) hs s1 h3 hF2 (fun s hs => (hb s hs).2.2) hf2
        subst em3
        have J3 : cj_J m3 k1 J := by
          have g : ∀ (q : Nat) (i : Int), q ≤ 8 → m3 (k1 + q) i = m (k1 + q) i := fun q i hq => by rw [e2, dc_up_k (by clear h h1 h3; omega)]; exact g1 (k1 + q) i (by clear h h1 h3; omega)
          obtain ⟨⟨a0, a1⟩, bb, w0, w1⟩ := hJ
          refine ⟨⟨(g 0 3 (by decide)).trans a0, fun i hi => ?_⟩, fun o p1 p3 => (g 4 o (by decide)).trans (bb o p1 p3), (g 0 9 (by decide)).trans w0, fun i hi => ?_⟩
          · rw [g 1 _ (by decide), g 2 _ (by decide), g 3 _ (by decide)]; exact a1 i hi
          · rw [g 5 _ (by decide), g 6 _ (by decide), g 7 _ (by decide), g 8 _ (by decide)]; exact w1 i hi
        have fin : ∀ (x : Int) (m4 : dc_M), m4 = dc_up m3 49 ((set : Nat) : Int) x → x = (if p = 0 then 1000 else l + 1) → LM_80 k1 c 11 ((all : Nat) : Int) (dc_w (((set : Nat) : Int) + 1)) m4 v m' → cn_R J m' ∧ m' 49 0 = 0 := by
          intro x m4 e4 ex h
          rw [dc_w_eq (z := ((set : Nat) : Int) + 1) (by unfold sv_I; clear h h1 h3; omega), show ((set : Nat) : Int) + 1 = ((set + 1 : Nat) : Int) from rfl] at h
          have f4 : ∀ (k : Nat) (i : Int), k ≠ 49 → m4 k i = m3 k i := fun k i q => by rw [e4, dc_up_k q]
          refine ih (set + 1) m4 (fun s => if s = set then x else F s) (fun s => if s = set then p else P s) h (by omega) (by omega) ?_ ⟨?_, fun s hs => ?_, fun q p1 p2 => ?_⟩
          · have g : ∀ (q : Nat) (i : Int), q ≤ 8 → m4 (k1 + q) i = m3 (k1 + q) i := fun q i hq => f4 (k1 + q) i (by clear h h1 h3; omega)
            obtain ⟨⟨a0, a1⟩, bb, w0, w1⟩ := J3
            refine ⟨⟨(g 0 3 (by decide)).trans a0, fun i hi => ?_⟩, fun o p1 p3 => (g 4 o (by decide)).trans (bb o p1 p3), (g 0 9 (by decide)).trans w0, fun i hi => ?_⟩
            · rw [g 1 _ (by decide), g 2 _ (by decide), g 3 _ (by decide)]; exact a1 i hi
            · rw [g 5 _ (by decide), g 6 _ (by decide), g 7 _ (by decide), g 8 _ (by decide)]; exact w1 i hi
          · exact pl_T_ext hP s1 b ex
          · show m4 49 (s : Nat) = (if s = set then x else F s)
            by_cases z : s = set
            · rw [if_pos z, e4, z, dc_up_s]
            · rw [if_neg z, e4, dc_up_i (by omega)]; exact hF2 s (by omega)
          · rw [f4 48 _ (by decide)]; exact hf2 q p1 (by omega)
        rcases h with ⟨d4, -, -, m4, e4, h⟩ | ⟨d4, -, m4, e4, h⟩
        · rw [ev] at e4
          have pn : ¬ p = 0 := fun z => d4 (by rw [ev, z]; rfl)
          rcases b with ⟨a1, -⟩ | ⟨b1, b2, b3, b4⟩
          · exact absurd a1 pn
          · have pc := b1.1
            have sb : sv_g (sv_u ((set : Nat) : Int) &&& sv_u (-((p : Nat) : Int) - 1)) = ((set - p : Nat) : Int) := by
              rw [sm_subI hs (by omega), Nat.and_comm, pc.2.2.1]
            rw [sb, hF2 (set - p) (by omega)] at e4
            have q := hb (set - p) (by omega)
            rw [dc_w_eq (by unfold sv_I; clear h h1 h3; omega)] at e4
            exact fin _ m4 e4 (by rw [if_neg pn, b2]) h
        · have pz : p = 0 := by
            have := Decidable.not_not.mp d4
            rw [ev] at this
            omega
          exact fin _ m4 e4 (by rw [if_pos pz]) h
  obtain ⟨c, h⟩ := h
  rw [hJ.2.2.1, all1, ← ea] at h
  refine key c 1 m (fun _ => 0) (fun _ => 0) h (Nat.le_refl _) (by omega) hJ ⟨⟨rfl, fun s p1 p2 => by omega⟩, fun s hs => ?_, fun q p1 p2 => by omega⟩
  rw [show s = 0 by omega]
  exact h0
