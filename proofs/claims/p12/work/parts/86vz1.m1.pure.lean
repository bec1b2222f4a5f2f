/-! A RUN, pure: HUBS that are one NET; what is taken; a CYCLE; the RUN -/
/-- one, if those of every pair of E are -/
def mp_q (E : Int → Int → Prop) (a b : Int) : Prop := ∀ f : Int → Int, (∀ x y, E x y → f x = f y) → f a = f b
theorem mp_q.rf {E : Int → Int → Prop} {a : Int} : mp_q E a a := fun _ _ => rfl
theorem mp_q.sy {E : Int → Int → Prop} {a b : Int} (h : mp_q E a b) : mp_q E b a := fun f hf => (h f hf).symm
theorem mp_q.tr {E : Int → Int → Prop} {a b c : Int} (h : mp_q E a b) (g : mp_q E b c) : mp_q E a c := fun f hf => (h f hf).trans (g f hf)
theorem mp_q.of {E : Int → Int → Prop} {a b : Int} (h : E a b) : mp_q E a b := fun _ hf => hf a b h
theorem mp_q.mo {E F : Int → Int → Prop} {a b : Int} (h : mp_q E a b) (g : ∀ x y, E x y → F x y) : mp_q F a b := fun f hf => h f (fun x y e => hf x y (g x y e))
theorem mp_q.al {E : Int → Int → Prop} {a b : Int} (h : mp_q E a b) (n : ∀ x y, E x y → x ≠ a ∧ y ≠ a) : a = b := by
  have q := h (fun x => if x = a then 1 else 0) (fun x y e => by
    obtain ⟨n1, n2⟩ := n x y e
    show (if x = a then (1 : Int) else 0) = (if y = a then 1 else 0)
    rw [if_neg n1, if_neg n2])
  have q : (if a = a then (1 : Int) else 0) = (if b = a then 1 else 0) := q
  rw [if_pos rfl] at q
  by_cases z : b = a
  · exact z.symm
  · rw [if_neg z] at q; cases q
/-- a WIRE but the one left out -/
def mp_W (W : List (Int × Int)) (w : Int) (x y : Int) : Prop := ∃ i : Nat, i < W.length ∧ (i : Int) ≠ w ∧ W.getD i (0, 0) = (x, y)
/-- and the points of relays -/
def mp_E (W : List (Int × Int)) (w : Int) (pk : Int → Prop) (x y : Int) : Prop := mp_W W w x y ∨ ∃ p : Int, 0 ≤ p ∧ p < 12 ∧ x = 181 + p ∧ ((pk (p / 3) ∧ y = 205 + p) ∨ (¬ pk (p / 3) ∧ y = 193 + p))
theorem mp_E.mo {W : List (Int × Int)} {w : Int} {pk pl : Int → Prop} (h : ∀ r : Int, 0 ≤ r → r < 4 → (pk r ↔ pl r)) {x y : Int} (e : mp_E W w pk x y) : mp_E W w pl x y := by
  rcases e with e | ⟨p, p0, p1, ex, e⟩
  · exact Or.inl e
  · refine Or.inr ⟨p, p0, p1, ex, ?_⟩
    have q := h (p / 3) (by omega) (by omega)
    rcases e with ⟨e1, e2⟩ | ⟨e1, e2⟩
    · exact Or.inl ⟨q.mp e1, e2⟩
    · exact Or.inr ⟨fun z => e1 (q.mpr z), e2⟩
/-- the first one -/
def mp_f (P : Int → Prop) (n a : Int) : Prop := 0 ≤ a ∧ a < n ∧ P a ∧ ∀ b, 0 ≤ b → b < a → ¬ P b
theorem mp_f.u {P : Int → Prop} {n n2 a b : Int} (h : mp_f P n a) (g : mp_f P n2 b) : a = b := by
  obtain ⟨h0, -, h1, h2⟩ := h
  obtain ⟨g0, -, g1, g2⟩ := g
  by_cases z : a < b
  · exact absurd h1 (g2 a h0 z)
  · by_cases y : b < a
    · exact absurd g1 (h2 b g0 y)
    · omega
theorem mp_f_ex (P : Int → Prop) {n : Int} : ∀ k : Nat, (k : Int) < n → P k → ∃ a, mp_f P n a := by
  intro k
  induction k using Nat.strongRecOn with
  | _ k ih =>
    intro hk hp
    by_cases z : ∃ j : Nat, j < k ∧ P j
    · obtain ⟨j, hj, pj⟩ := z
      exact ih j hj (by omega) pj
    · exact ⟨k, by omega, hk, hp, fun b h0 hb pb => z ⟨b.toNat, by omega, by rw [Int.toNat_of_nonneg h0]; exact pb⟩⟩
theorem mp_f_e {P : Int → Prop} {n k : Int} (h0 : 0 ≤ k) (hk : k < n) (hp : P k) : ∃ a, mp_f P n a := by
  refine mp_f_ex P k.toNat (by omega) ?_
  rw [Int.toNat_of_nonneg h0]
  exact hp
/-- what a HUB takes -/
noncomputable def mp_tk (E : Int → Int → Prop) (g : Int → Int) (t : Int) : Int := @dite Int (∃ a, mp_f (fun b => 0 ≤ g b ∧ mp_q E t b) 96 a) (Classical.propDecidable _) (fun h => g (Classical.choose h)) (fun _ => -1)
theorem mp_tk_y {E : Int → Int → Prop} {g : Int → Int} {t a : Int} (h : mp_f (fun b => 0 ≤ g b ∧ mp_q E t b) 96 a) : mp_tk E g t = g a := by
  have h2 : ∃ a, mp_f (fun b => 0 ≤ g b ∧ mp_q E t b) 96 a := ⟨a, h⟩
  unfold mp_tk
  rw [dif_pos h2, mp_f.u (Classical.choose_spec h2) h]
theorem mp_tk_n {E : Int → Int → Prop} {g : Int → Int} {t : Int} (h : ∀ b, 0 ≤ b → b < 96 → 0 ≤ g b → ¬ mp_q E t b) : mp_tk E g t = -1 := by
  have h2 : ¬ ∃ a, mp_f (fun b => 0 ≤ g b ∧ mp_q E t b) 96 a := fun ⟨a, a0, a1, a2, _⟩ => h a a0 a1 a2.1 a2.2
  unfold mp_tk
  rw [dif_neg h2]
theorem mp_tk_c (E : Int → Int → Prop) (g : Int → Int) (t : Int) : (∃ a, mp_f (fun b => 0 ≤ g b ∧ mp_q E t b) 96 a ∧ mp_tk E g t = g a) ∨ ((∀ b, 0 ≤ b → b < 96 → 0 ≤ g b → ¬ mp_q E t b) ∧ mp_tk E g t = -1) := by
  by_cases z : ∃ b, 0 ≤ b ∧ b < 96 ∧ 0 ≤ g b ∧ mp_q E t b
  · obtain ⟨b, b0, b1, b2⟩ := z
    obtain ⟨a, ha⟩ := mp_f_e (P := fun b => 0 ≤ g b ∧ mp_q E t b) b0 b1 b2
    exact Or.inl ⟨a, ha, mp_tk_y ha⟩
  · have h : ∀ b, 0 ≤ b → b < 96 → 0 ≤ g b → ¬ mp_q E t b := fun b b0 b1 b2 b3 => z ⟨b, b0, b1, b2, b3⟩
    exact Or.inr ⟨h, mp_tk_n h⟩
theorem mp_tk_r {E : Int → Int → Prop} {g : Int → Int} {t : Int} (h : ∀ a, 0 ≤ a → a < 96 → g a ≤ 15) : -1 ≤ mp_tk E g t ∧ mp_tk E g t ≤ 15 := by
  rcases mp_tk_c E g t with ⟨a, ⟨a0, a1, a2, -⟩, e⟩ | ⟨-, e⟩
  · have := h a a0 a1
    have := a2.1
    omega
  · omega
theorem mp_tk_w {E F : Int → Int → Prop} {g : Int → Int} {t : Int} (h : ∀ b, mp_q E t b ↔ mp_q F t b) : mp_tk E g t = mp_tk F g t := by
  rcases mp_tk_c F g t with ⟨a, ⟨a0, a1, a2, a3⟩, e⟩ | ⟨a, e⟩
  · rw [e]
    exact mp_tk_y ⟨a0, a1, ⟨a2.1, (h a).mpr a2.2⟩, fun b b0 b1 b2 => a3 b b0 b1 ⟨b2.1, (h b).mp b2.2⟩⟩
  · rw [e]
    exact mp_tk_n (fun b b0 b1 b2 b3 => a b b0 b1 b2 ((h b).mp b3))
/-- two that give in one NET -/
def mp_J (E : Int → Int → Prop) (g : Int → Int) (a b : Int) : Prop := mp_f (fun a => 0 ≤ g a ∧ ∃ b, a < b ∧ b < 96 ∧ 0 ≤ g b ∧ mp_q E a b) 96 a ∧ mp_f (fun b => a < b ∧ 0 ≤ g b ∧ mp_q E a b) 96 b
noncomputable def mp_jm (E : Int → Int → Prop) (g : Int → Int) : Option (Int × Int) := @dite (Option (Int × Int)) (∃ p : Int × Int, mp_J E g p.1 p.2) (Classical.propDecidable _) (fun h => some (Classical.choose h)) (fun _ => none)
theorem mp_jm_y {E : Int → Int → Prop} {g : Int → Int} {a b : Int} (h : mp_J E g a b) : mp_jm E g = some (a, b) := by
  have h2 : ∃ p : Int × Int, mp_J E g p.1 p.2 := ⟨(a, b), h⟩
  unfold mp_jm
  rw [dif_pos h2]
  obtain ⟨p, hp⟩ : ∃ p, p = Classical.choose h2 := ⟨_, rfl⟩
  have q : mp_J E g p.1 p.2 := by rw [hp]; exact Classical.choose_spec h2
  rw [← hp]
  obtain ⟨p1, p2⟩ := p
  have e1 : p1 = a := q.1.u h.1
  have q2 : mp_f (fun b => p1 < b ∧ 0 ≤ g b ∧ mp_q E p1 b) 96 p2 := q.2
  rw [e1] at q2
  rw [e1, q2.u h.2]
theorem mp_jm_n {E : Int → Int → Prop} {g : Int → Int} (h : ∀ a b, 0 ≤ a → a < b → b < 96 → 0 ≤ g a → 0 ≤ g b → ¬ mp_q E a b) : mp_jm E g = none := by
  have h2 : ¬ ∃ p : Int × Int, mp_J E g p.1 p.2 := fun ⟨p, ⟨a0, _, ⟨a1, b, b0, b1, b2, b3⟩, _⟩, _⟩ => h p.1 b a0 b0 b1 a1 b2 b3
  unfold mp_jm
  rw [dif_neg h2]
/-- a giver with a second one: the first such, and the second -/
theorem mp_J_ex {E : Int → Int → Prop} {g : Int → Int} {a b : Int} (a0 : 0 ≤ a) (ab : a < b) (b1 : b < 96) (ga : 0 ≤ g a) (gb : 0 ≤ g b) (q : mp_q E a b) : ∃ x y, mp_J E g x y := by
  obtain ⟨x, hx⟩ := mp_f_e (P := fun a => 0 ≤ g a ∧ ∃ b, a < b ∧ b < 96 ∧ 0 ≤ g b ∧ mp_q E a b) (n := 96) a0 (by omega) ⟨ga, b, ab, b1, gb, q⟩
  obtain ⟨x0, x1, ⟨x2, c, c0, c1, c2⟩, x3⟩ := hx
  obtain ⟨y, hy⟩ := mp_f_e (P := fun b => x < b ∧ 0 ≤ g b ∧ mp_q E x b) (n := 96) (k := c) (by omega) c1 ⟨c0, c2⟩
  exact ⟨x, y, ⟨x0, x1, ⟨x2, c, c0, c1, c2⟩, x3⟩, hy⟩
/-- what HUBS give -/
def mp_dg (v : Int) : Int := if v % 16 = 15 then -1 else v % 16
theorem mp_dg_r (v : Int) : -1 ≤ mp_dg v ∧ mp_dg v ≤ 15 := by
  unfold mp_dg
  split <;> omega
def mp_gc (dk : Int → Int → Int) (n k h : Int) : Int := if h < 20 then mp_dg (dk k h) else if h < 40 then (if k + 1 < n then mp_dg (dk (k + 1) (h - 20)) else -1) else if h < 60 then (if dk k (h - 40) > 15 then 1 else -1) else if h = 60 then 1 else -1
noncomputable def mp_gu (E : Int → Int → Prop) (g : Int → Int) (h : Int) : Int := if 61 ≤ h ∧ h < 65 then (if mp_tk E g (h + 87) ≠ mp_tk E g (h + 91) then 1 else -1) else g h
def mp_gt (S : dc_M) (o h : Int) : Int := if h < 65 then -1 else if h < 68 then (if h - 64 = o then 1 else -1) else if h < 92 then (((S 2 ((h - 68) / 6)).natAbs / 10 ^ ((h - 68) % 6).toNat % 10 : Nat) : Int) else if S 2 (h - 92) < 0 then 1 else -1
theorem mp_gc_r (dk : Int → Int → Int) (n k h : Int) : -1 ≤ mp_gc dk n k h ∧ mp_gc dk n k h ≤ 15 := by
  unfold mp_gc
  have a := mp_dg_r (dk k h)
  have b := mp_dg_r (dk (k + 1) (h - 20))
  split
  · exact a
  · split
    · split
      · exact b
      · omega
    · split
      · split <;> omega
      · split <;> omega
theorem mp_gu_r {E : Int → Int → Prop} {g : Int → Int} (hg : ∀ h, -1 ≤ g h ∧ g h ≤ 15) (h : Int) : -1 ≤ mp_gu E g h ∧ mp_gu E g h ≤ 15 := by
  unfold mp_gu
  split
  · split <;> omega
  · exact hg h
theorem mp_gt_r (S : dc_M) (o h : Int) : -1 ≤ mp_gt S o h ∧ mp_gt S o h ≤ 15 := by
  unfold mp_gt
  split
  · omega
  · split
    · split <;> omega
    · split
      · have := Nat.mod_lt ((S 2 ((h - 68) / 6)).natAbs / 10 ^ ((h - 68) % 6).toNat) (show 0 < 10 by decide)
        omega
      · split <;> omega
/-! what is done with it: S 0 the figures (0 END, 1 LINES, 2 CARDS PUNCHED, 3 CARD CYCLES, 4 TOTAL CYCLES, 5 how often a WHEEL RAN OVER, 6 and 7 the two that JAM), S 1 the LINES, S 2 the WHEELS, S 3 the CARDS PUNCHED -/
def mp_ln (T : Int → Int) (S : dc_M) : dc_M := fun k i => if k = 1 ∧ 12 * S 0 1 ≤ i ∧ i < 12 * S 0 1 + 12 then (if T (132 + (i - 12 * S 0 1)) < 0 then 15 else T (132 + (i - 12 * S 0 1))) else if k = 0 ∧ i = 1 then S 0 1 + 1 else S k i
def mp_nmf (T : Int → Int) (w : Int) : Nat → Int → Int
  | 0, n => n
  | f + 1, n => mp_nmf T w f (10 * n + (if T (96 + 6 * w + (f : Int)) < 0 then 0 else T (96 + 6 * w + (f : Int))))
def mp_tn (T : Int → Int) (w x : Int) : Int := if (0 ≤ T (120 + w) ↔ 0 ≤ T (124 + w)) then x else if 0 ≤ T (120 + w) then x + mp_nmf T w 6 0 else x - mp_nmf T w 6 0
def mp_ov (T : Int → Int) (w x : Int) : Int := if -999999 ≤ mp_tn T w x ∧ mp_tn T w x ≤ 999999 then 0 else 1
def mp_w1 (T : Int → Int) (w x : Int) : Int := if 0 ≤ T (128 + w) then 0 else dc_rem (mp_tn T w x) 1000000
def mp_wh (T : Int → Int) (S : dc_M) : dc_M := fun k i => if k = 2 ∧ 0 ≤ i ∧ i < 4 then mp_w1 T i (S 2 i) else if k = 0 ∧ i = 5 then S 0 5 + mp_ov T 0 (S 2 0) + mp_ov T 1 (S 2 1) + mp_ov T 2 (S 2 2) + mp_ov T 3 (S 2 3) else S k i
def mp_pn (T : Int → Int) (S : dc_M) : dc_M := fun k i => if k = 3 ∧ 20 * S 0 2 ≤ i ∧ i < 20 * S 0 2 + 20 then (if T (159 + (i - 20 * S 0 2)) < 0 then 15 else T (159 + (i - 20 * S 0 2))) else if k = 0 ∧ i = 2 then S 0 2 + 1 else S k i
def mp_pr (T : Int → Int) : Prop := ∃ b : Int, 0 ≤ b ∧ b < 12 ∧ 0 ≤ T (132 + b)
noncomputable def mp_a1 (T : Int → Int) (S : dc_M) : dc_M := @ite _ (mp_pr T) (Classical.propDecidable _) (mp_ln T S) S
def mp_a2 (T : Int → Int) (room : Int) (S : dc_M) : dc_M := if 0 ≤ T 179 then (if S 0 2 = room then dc_up S 0 0 3 else mp_pn T S) else S
noncomputable def mp_act (T : Int → Int) (room : Int) (S : dc_M) : dc_M := @ite _ (mp_pr T ∧ S 0 1 = 60) (Classical.propDecidable _) (dc_up S 0 0 3) (mp_a2 T room (mp_wh T (mp_a1 T S)))
noncomputable def mp_cyc (E : Int → Int → Prop) (g : Int → Int) (room : Int) (S : dc_M) : dc_M := match mp_jm E g with
  | some (a, b) => dc_up (dc_up (dc_up S 0 0 2) 0 6 a) 0 7 b
  | none => mp_act (mp_tk E g) room S
/-- the relays picked -/
def mp_pk (W : List (Int × Int)) (w : Int) (g : Int → Int) (r : Int) : Prop := 0 ≤ mp_tk (mp_E W w (fun _ => False)) g (144 + r)
def mp_E1 (W : List (Int × Int)) (w : Int) (g : Int → Int) : Int → Int → Prop := mp_E W w (mp_pk W w g)
noncomputable def mp_g1 (W : List (Int × Int)) (w : Int) (dk : Int → Int → Int) (n k : Int) : Int → Int := mp_gu (mp_E1 W w (mp_gc dk n k)) (mp_gc dk n k)
/-- what is taken in a CARD CYCLE -/
noncomputable def mp_T (W : List (Int × Int)) (w : Int) (dk : Int → Int → Int) (n k : Int) : Int → Int := mp_tk (mp_E1 W w (mp_gc dk n k)) (mp_g1 W w dk n k)
noncomputable def mp_crd (W : List (Int × Int)) (w : Int) (dk : Int → Int → Int) (n room k : Int) (S : dc_M) : dc_M := mp_cyc (mp_E1 W w (mp_gc dk n k)) (mp_g1 W w dk n k) room S
noncomputable def mp_tot (W : List (Int × Int)) (w room o : Int) (S : dc_M) : dc_M := mp_cyc (mp_E1 W w (mp_gt S o)) (mp_gt S o) room S
noncomputable def mp_tts (W : List (Int × Int)) (w room : Int) : Nat → Int → dc_M → dc_M
  | 0, _, S => S
  | f + 1, o, S => if mp_tot W w room o S 0 0 = 0 then mp_tts W w room f (o + 1) (dc_up (mp_tot W w room o S) 0 4 (mp_tot W w room o S 0 4 + 1)) else mp_tot W w room o S
def mp_or (T : Int → Int) (k n : Int) : Int := if k + 1 = n ∨ 0 ≤ T 180 then 3 else if 0 ≤ T 158 then 3 else if 0 ≤ T 157 then 2 else if 0 ≤ T 156 then 1 else 0
noncomputable def mp_nx (W : List (Int × Int)) (w : Int) (dk : Int → Int → Int) (n room k : Int) (S : dc_M) : dc_M := mp_tts W w room (mp_or (mp_T W w dk n k) k n).toNat 1 (dc_up (mp_crd W w dk n room k S) 0 3 (mp_crd W w dk n room k S 0 3 + 1))
noncomputable def mp_run (W : List (Int × Int)) (w : Int) (dk : Int → Int → Int) (n room : Int) : Nat → Int → dc_M → dc_M
  | 0, _, S => S
  | f + 1, k, S => if mp_crd W w dk n room k S 0 0 = 0 then (if mp_nx W w dk n room k S 0 0 = 0 then (if 0 ≤ mp_T W w dk n k 180 then dc_up (mp_nx W w dk n room k S) 0 0 1 else mp_run W w dk n room f (k + 1) (mp_nx W w dk n room k S)) else mp_nx W w dk n room k S) else mp_crd W w dk n room k S
def mp_S0 : dc_M := fun k i => if k = 0 ∧ (i = 6 ∨ i = 7) then -1 else 0
noncomputable def mp_play (W : List (Int × Int)) (w : Int) (dk : Int → Int → Int) (n room : Int) : dc_M := mp_run W w dk n room n.toNat 0 mp_S0
