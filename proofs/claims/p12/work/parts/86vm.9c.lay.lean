/-! A RUN's BOARD: the wires laid for a set of wants -/
/-- wires, relays (what picks each, points taken), too many relays, bars -/
abbrev pl_S : Type := List (Int × Int) × List (Int × Int) × Bool × Int
def pl_lay (s : pl_S) (a b : Int) : pl_S := (s.1 ++ [(a, b)], s.2)
def pl_hub (why : Int) : Int := if why ≤ 20 then 40 + why - 1 else 65 + why - 20 - 1
def pl_ix : List (Int × Int) → Int → Nat → Nat
  | [], _, i => i
  | r :: R, why, i => if r.1 = why ∧ r.2 ≠ 3 then i else pl_ix R why (i + 1)
theorem pl_ix_r : ∀ (R : List (Int × Int)) (why : Int) (i : Nat), i ≤ pl_ix R why i ∧ pl_ix R why i ≤ i + R.length
  | [], _, i => ⟨Nat.le_refl i, Nat.le_refl i⟩
  | r :: R, why, i => by
    show i ≤ (if r.1 = why ∧ r.2 ≠ 3 then i else pl_ix R why (i + 1)) ∧ (if r.1 = why ∧ r.2 ≠ 3 then i else pl_ix R why (i + 1)) ≤ i + (R.length + 1)
    have := pl_ix_r R why (i + 1)
    split <;> omega
theorem pl_ix_at : ∀ (R : List (Int × Int)) (why : Int) (i : Nat), pl_ix R why i < i + R.length → (R.getD (pl_ix R why i - i) (0, 0)).1 = why ∧ (R.getD (pl_ix R why i - i) (0, 0)).2 ≠ 3
  | [], _, i, h => absurd h (Nat.lt_irrefl i)
  | r :: R, why, i, h => by
    have h : (if r.1 = why ∧ r.2 ≠ 3 then i else pl_ix R why (i + 1)) < i + (R.length + 1) := h
    show ((r :: R).getD ((if r.1 = why ∧ r.2 ≠ 3 then i else pl_ix R why (i + 1)) - i) (0, 0)).1 = why ∧ ((r :: R).getD ((if r.1 = why ∧ r.2 ≠ 3 then i else pl_ix R why (i + 1)) - i) (0, 0)).2 ≠ 3
    by_cases c : r.1 = why ∧ r.2 ≠ 3
    · rw [if_pos c, Nat.sub_self]
      exact c
    · rw [if_neg c] at h ⊢
      have q := pl_ix_at R why (i + 1) (by omega)
      have b := pl_ix_r R why (i + 1)
      rw [show pl_ix R why (i + 1) - i = (pl_ix R why (i + 1) - (i + 1)) + 1 by omega]
      exact q
def pl_pt (s : pl_S) (why : Int) : Int × pl_S := if pl_ix s.2.1 why 0 = 4 then (0, (s.1, s.2.1, true, s.2.2.2)) else if pl_ix s.2.1 why 0 = s.2.1.length then ((3 * (s.2.1.length : Int)), (s.1 ++ [(pl_hub why, 144 + (s.2.1.length : Int))], s.2.1 ++ [(why, 1)], s.2.2)) else (3 * (pl_ix s.2.1 why 0 : Int) + (s.2.1.getD (pl_ix s.2.1 why 0) (0, 0)).2, (s.1, s.2.1.set (pl_ix s.2.1 why 0) (why, (s.2.1.getD (pl_ix s.2.1 why 0) (0, 0)).2 + 1), s.2.2))
def pl_ok (s : pl_S) : Prop := s.2.1.length ≤ 4 ∧ ∀ i : Nat, i < s.2.1.length → (1 ≤ (s.2.1.getD i (0, 0)).1 ∧ (s.2.1.getD i (0, 0)).1 ≤ 23) ∧ (1 ≤ (s.2.1.getD i (0, 0)).2 ∧ (s.2.1.getD i (0, 0)).2 ≤ 3)
def pl_bad (s : pl_S) : Prop := s.2.2.1 = true ∨ 60 < s.1.length ∨ 12 < s.2.2.2
theorem pl_lay_ok {s : pl_S} {a b : Int} (h : pl_ok s) : pl_ok (pl_lay s a b) := h
theorem pl_lay_bad {s : pl_S} {a b : Int} (h : pl_bad s) : pl_bad (pl_lay s a b) := by
  rcases h with h | h | h
  · exact Or.inl h
  · refine Or.inr (Or.inl ?_)
    show 60 < (s.1 ++ [(a, b)]).length
    rw [List.length_append]
    show 60 < s.1.length + 1
    omega
  · exact Or.inr (Or.inr h)
theorem pl_pt_bad {s : pl_S} {why : Int} (h : pl_bad s) : pl_bad (pl_pt s why).2 := by
  unfold pl_pt
  split
  · exact Or.inl rfl
  · split
    · rcases h with h | h | h
      · exact Or.inl h
      · refine Or.inr (Or.inl ?_)
        show 60 < (s.1 ++ [(pl_hub why, 144 + (s.2.1.length : Int))]).length
        rw [List.length_append]
        show 60 < s.1.length + 1
        omega
      · exact Or.inr (Or.inr h)
    · exact h
theorem pl_gs {R : List (Int × Int)} {i j : Nat} {x : Int × Int} (hj : j < R.length) : (R.set i x).getD j (0, 0) = if i = j then x else R.getD j (0, 0) := by
  rw [List.getD_eq_getElem?_getD, List.getD_eq_getElem?_getD]
  by_cases e : i = j
  · subst e
    rw [if_pos rfl, List.getElem?_set_self hj]; rfl
  · rw [if_neg e, List.getElem?_set_ne e]
theorem pl_pt_ok {s : pl_S} {why : Int} (hw : 1 ≤ why ∧ why ≤ 23) (h : pl_ok s) : pl_ok (pl_pt s why).2 := by
  obtain ⟨h1, h2⟩ := h
  have r := pl_ix_r s.2.1 why 0
  unfold pl_pt
  split
  · exact ⟨h1, h2⟩
  · next c =>
    split
    · next d =>
      refine ⟨?_, fun i hi => ?_⟩
      · show (s.2.1 ++ [(why, 1)]).length ≤ 4
        rw [List.length_append]
        show s.2.1.length + 1 ≤ 4
        omega
      · have hi : i < (s.2.1 ++ [(why, (1 : Int))]).length := hi
        rw [List.length_append] at hi
        have hi : i < s.2.1.length + 1 := hi
        show (1 ≤ ((s.2.1 ++ [(why, (1 : Int))]).getD i (0, 0)).1 ∧ ((s.2.1 ++ [(why, (1 : Int))]).getD i (0, 0)).1 ≤ 23) ∧ (1 ≤ ((s.2.1 ++ [(why, (1 : Int))]).getD i (0, 0)).2 ∧ ((s.2.1 ++ [(why, (1 : Int))]).getD i (0, 0)).2 ≤ 3)
        by_cases z : i < s.2.1.length
        · rw [pj_gl z]; exact h2 i z
        · rw [show i = s.2.1.length by omega, pj_gr]; exact ⟨hw, (by decide : (1 : Int) ≤ 1), (by decide : (1 : Int) ≤ 3)⟩
    · next d =>
      have at0 := pl_ix_at s.2.1 why 0 (by omega)
      rw [Nat.sub_zero] at at0
      have q := (h2 (pl_ix s.2.1 why 0) (by omega)).2
      refine ⟨by show (s.2.1.set _ _).length ≤ 4; rw [List.length_set]; exact h1, fun i hi => ?_⟩
      have hi : i < (s.2.1.set (pl_ix s.2.1 why 0) (why, (s.2.1.getD (pl_ix s.2.1 why 0) (0, 0)).2 + 1)).length := hi
      rw [List.length_set] at hi
      show (1 ≤ ((s.2.1.set (pl_ix s.2.1 why 0) (why, (s.2.1.getD (pl_ix s.2.1 why 0) (0, 0)).2 + 1)).getD i (0, 0)).1 ∧ ((s.2.1.set (pl_ix s.2.1 why 0) (why, (s.2.1.getD (pl_ix s.2.1 why 0) (0, 0)).2 + 1)).getD i (0, 0)).1 ≤ 23) ∧ (1 ≤ ((s.2.1.set (pl_ix s.2.1 why 0) (why, (s.2.1.getD (pl_ix s.2.1 why 0) (0, 0)).2 + 1)).getD i (0, 0)).2 ∧ ((s.2.1.set (pl_ix s.2.1 why 0) (why, (s.2.1.getD (pl_ix s.2.1 why 0) (0, 0)).2 + 1)).getD i (0, 0)).2 ≤ 3)
      rw [pl_gs hi]
      split
      · refine ⟨hw, ?_, ?_⟩
        · show 1 ≤ (s.2.1.getD (pl_ix s.2.1 why 0) (0, 0)).2 + 1; omega
        · show (s.2.1.getD (pl_ix s.2.1 why 0) (0, 0)).2 + 1 ≤ 3; omega
      · exact h2 i hi
theorem pl_pt_r {s : pl_S} {why : Int} (h : pl_ok s) : 0 ≤ (pl_pt s why).1 ∧ (pl_pt s why).1 ≤ 12 := by
  obtain ⟨h1, h2⟩ := h
  have r := pl_ix_r s.2.1 why 0
  unfold pl_pt
  split
  · exact ⟨by show (0 : Int) ≤ 0; decide, by show (0 : Int) ≤ 12; decide⟩
  · split
    · exact ⟨by show 0 ≤ 3 * (s.2.1.length : Int); omega, by show 3 * (s.2.1.length : Int) ≤ 12; omega⟩
    · have q := (h2 (pl_ix s.2.1 why 0) (by omega)).2
      have at0 := pl_ix_at s.2.1 why 0 (by omega)
      rw [Nat.sub_zero] at at0
      exact ⟨by show 0 ≤ 3 * (pl_ix s.2.1 why 0 : Int) + (s.2.1.getD (pl_ix s.2.1 why 0) (0, 0)).2; omega, by show 3 * (pl_ix s.2.1 why 0 : Int) + (s.2.1.getD (pl_ix s.2.1 why 0) (0, 0)).2 ≤ 12; omega⟩
def pl_bar (s : pl_S) : pl_S := (s.1, s.2.1, s.2.2.1, s.2.2.2 + 1)
theorem pl_bar_bad {s : pl_S} (h : pl_bad s) : pl_bad (pl_bar s) := by
  rcases h with h | h | h
  · exact Or.inl h
  · exact Or.inr (Or.inl h)
  · exact Or.inr (Or.inr (by show 12 < s.2.2.2 + 1; omega))
/-! the parts of a board -/
def pl_b1 (B : Int → Int) (q : pl_S × Int) (o : Int) : pl_S × Int := if B o = 0 then q else (pl_lay (pl_lay (pl_lay q.1 (B o - 1) (148 + q.2)) (20 + B o - 1) (152 + q.2)) (61 + q.2) (156 + o - 1), q.2 + 1)
/-- the breaks of the orders from o on, n of them -/
def pl_bk (B : Int → Int) : Nat → Int → pl_S × Int → pl_S
  | 0, _, q => q.1
  | n + 1, o, q => pl_bk B n (o + 1) (pl_b1 B q o)
def pl_dg (last v : Int) : Nat → Int → pl_S → pl_S
  | 0, _, s => s
  | n + 1, d, s => pl_dg last v n (d + 1) (pl_lay s (last - d - 1) (96 + 6 * v + d))
def pl_ov (o v : Int) (s : pl_S) : pl_S := if o = 0 then pl_lay s 60 (120 + v) else pl_lay (pl_lay (pl_lay (pl_pt s o).2 60 (181 + (pl_pt s o).1)) (193 + (pl_pt s o).1) (120 + v)) (205 + (pl_pt s o).1) (124 + v)
def pl_fd (F : pj_F) (f v : Int) (s : pl_S) : pl_S := if f < 0 then pl_lay s 60 (96 + 6 * v) else pl_dg (F.getD f.toNat ([], 0, 0)).2.2 v ((F.getD f.toNat ([], 0, 0)).2.2 - (F.getD f.toNat ([], 0, 0)).2.1 + 1).toNat 0 s
def pl_add (F : pj_F) (w : Int × Int × Int × Int) (v : Int) (s : pl_S) : pl_S := pl_ov w.2.2.2 v (pl_fd F w.1 v s)
def pl_p1 (o v : Int) (d : Nat) (s : pl_S) : pl_S := pl_bar (pl_lay (pl_lay (pl_pt s (20 + o)).2 (68 + 6 * v + (d : Int)) (181 + (pl_pt s (20 + o)).1)) (205 + (pl_pt s (20 + o)).1) (132 + s.2.2.2))
/-- d digits still to print -/
def pl_pr (o v : Int) : Nat → pl_S → pl_S
  | 0, s => s
  | d + 1, s => pl_pr o v d (pl_p1 o v d s)
def pl_prt (w : Int × Int × Int × Int) (v : Int) (s : pl_S) : pl_S := pl_lay (pl_pr w.2.2.1 v w.2.1.toNat s) (65 + w.2.2.1 - 1) (128 + v)
def pl_bit (set : Nat) (k : Nat) : Bool := decide (set / 2 ^ k % 2 = 1)
def pl_la (F : pj_F) (set : Nat) : pj_W → Nat → Int → pl_S → pl_S
  | [], _, _, s => s
  | w :: W, k, v, s => if pl_bit set k = true then pl_la F set W (k + 1) (v + 1) (pl_add F w v s) else pl_la F set W (k + 1) v s
def pl_lp (set : Nat) : pj_W → Nat → Int → pl_S → pl_S
  | [], _, _, s => s
  | w :: W, k, v, s => if pl_bit set k = true then pl_lp set W (k + 1) (v + 1) (pl_prt w v s) else pl_lp set W (k + 1) v s
def pl_0 : pl_S := ([], [], false, 0)
def pl_mk (J : pj_J) (set : Nat) : pl_S := pl_lp set J.2.2 0 0 (pl_la J.1 set J.2.2 0 0 (pl_bk J.2.1 3 1 (pl_0, 0)))
/-- the printed digits of a set -/
def pl_ds (set : Nat) : pj_W → Nat → Int
  | [], _ => 0
  | w :: W, k => (if pl_bit set k = true then w.2.1 else 0) + pl_ds set W (k + 1)
def pl_cn (v : Nat) : Nat := v % 2 + v / 2 % 2 + v / 4 % 2 + v / 8 % 2 + v / 16 % 2 + v / 32 % 2 + v / 64 % 2 + v / 128 % 2
def pl_cnt (v : Nat) : Int := (pl_cn v : Nat)
/-- may the set be one run -/
def pl_fit (J : pj_J) (set : Nat) : Prop := pl_cnt set ≤ 4 ∧ ¬ pl_bad (pl_mk J set)
/-! what is bad stays bad, what is sound stays sound -/
def pl_mo (f : pl_S → pl_S) : Prop := ∀ s, (pl_bad s → pl_bad (f s)) ∧ (pl_ok s → pl_ok (f s))
theorem pl_mo.tr {f g : pl_S → pl_S} (h : pl_mo f) (k : pl_mo g) : pl_mo (fun s => g (f s)) := fun s => ⟨fun z => (k _).1 ((h s).1 z), fun z => (k _).2 ((h s).2 z)⟩
theorem pl_lay_mo (a b : Int) : pl_mo (fun s => pl_lay s a b) := fun _ => ⟨pl_lay_bad, pl_lay_ok⟩
theorem pl_b1_mo (B : Int → Int) (j o : Int) : (∀ s, (pl_b1 B (s, j) o).2 = (if B o = 0 then j else j + 1)) ∧ pl_mo (fun s => (pl_b1 B (s, j) o).1) := by
  unfold pl_b1
  by_cases h : B o = 0
  · simp only [if_pos h]
    exact ⟨fun _ => trivial, fun _ => ⟨id, id⟩⟩
  · simp only [if_neg h]
    exact ⟨fun _ => trivial, fun _ => ⟨fun z => pl_lay_bad (pl_lay_bad (pl_lay_bad z)), fun z => z⟩⟩
theorem pl_dg_mo (last v : Int) : ∀ (n : Nat) (d : Int), pl_mo (pl_dg last v n d)
  | 0, _ => fun _ => ⟨id, id⟩
  | n + 1, d => fun s => ⟨fun z => (pl_dg_mo last v n (d + 1) _).1 (pl_lay_bad z), fun z => (pl_dg_mo last v n (d + 1) _).2 (pl_lay_ok z)⟩
theorem pl_ov_mo {o v : Int} (ho : 0 ≤ o ∧ o ≤ 20) : pl_mo (pl_ov o v) := fun s => by
  unfold pl_ov
  split
  · exact ⟨pl_lay_bad, pl_lay_ok⟩
  · exact ⟨fun z => pl_lay_bad (pl_lay_bad (pl_lay_bad (pl_pt_bad z))), fun z => pl_pt_ok (by omega) z⟩
theorem pl_fd_mo (F : pj_F) (f v : Int) : pl_mo (pl_fd F f v) := fun s => by
  unfold pl_fd
  split
  · exact ⟨pl_lay_bad, pl_lay_ok⟩
  · exact pl_dg_mo _ _ _ _ s
theorem pl_p1_mo {o v : Int} (ho : 1 ≤ o ∧ o ≤ 3) (d : Nat) : pl_mo (pl_p1 o v d) := fun s => ⟨fun z => pl_bar_bad (pl_lay_bad (pl_lay_bad (pl_pt_bad z))), fun z => pl_pt_ok (by omega) z⟩
theorem pl_pr_mo {o v : Int} (ho : 1 ≤ o ∧ o ≤ 3) : ∀ d : Nat, pl_mo (pl_pr o v d)
  | 0 => fun _ => ⟨id, id⟩
  | d + 1 => fun s => ⟨fun z => (pl_pr_mo ho d _).1 ((pl_p1_mo ho d s).1 z), fun z => (pl_pr_mo ho d _).2 ((pl_p1_mo ho d s).2 z)⟩
theorem pl_prt_mo {w : Int × Int × Int × Int} {v : Int} (ho : 1 ≤ w.2.2.1 ∧ w.2.2.1 ≤ 3) : pl_mo (pl_prt w v) := fun s => ⟨fun z => pl_lay_bad ((pl_pr_mo ho _ s).1 z), fun z => pl_lay_ok ((pl_pr_mo ho _ s).2 z)⟩
theorem pl_add_mo {F : pj_F} {w : Int × Int × Int × Int} {v : Int} (ho : 0 ≤ w.2.2.2 ∧ w.2.2.2 ≤ 20) : pl_mo (pl_add F w v) := fun s => ⟨fun z => (pl_ov_mo ho _).1 ((pl_fd_mo F _ _ s).1 z), fun z => (pl_ov_mo ho _).2 ((pl_fd_mo F _ _ s).2 z)⟩
/-- wants as they stand -/
def pl_wo (F : pj_F) (W : pj_W) : Prop := ∀ w ∈ W, (w.1 = -1 ∨ (0 ≤ w.1 ∧ w.1 < F.length)) ∧ (1 ≤ w.2.1 ∧ w.2.1 ≤ 6) ∧ (1 ≤ w.2.2.1 ∧ w.2.2.1 ≤ 3) ∧ (0 ≤ w.2.2.2 ∧ w.2.2.2 ≤ 20)
theorem pl_wo_h {F : pj_F} {w : Int × Int × Int × Int} {W : pj_W} (h : pl_wo F (w :: W)) : (w.1 = -1 ∨ (0 ≤ w.1 ∧ w.1 < F.length)) ∧ (1 ≤ w.2.1 ∧ w.2.1 ≤ 6) ∧ (1 ≤ w.2.2.1 ∧ w.2.2.1 ≤ 3) ∧ (0 ≤ w.2.2.2 ∧ w.2.2.2 ≤ 20) := h w (List.mem_cons.mpr (Or.inl rfl))
theorem pl_wo_t {F : pj_F} {w : Int × Int × Int × Int} {W : pj_W} (h : pl_wo F (w :: W)) : pl_wo F W := fun x hx => h x (List.mem_cons.mpr (Or.inr hx))
theorem pl_la_mo {F : pj_F} {set : Nat} : ∀ (W : pj_W) (k : Nat) (v : Int), pl_wo F W → pl_mo (pl_la F set W k v)
  | [], _, _, _ => fun _ => ⟨id, id⟩
  | w :: W, k, v, h => fun s => by
    show (pl_bad s → pl_bad (if pl_bit set k = true then pl_la F set W (k + 1) (v + 1) (pl_add F w v s) else pl_la F set W (k + 1) v s)) ∧ (pl_ok s → pl_ok (if pl_bit set k = true then pl_la F set W (k + 1) (v + 1) (pl_add F w v s) else pl_la F set W (k + 1) v s))
    split
    · have a := pl_add_mo (F := F) (v := v) (pl_wo_h h).2.2.2 s
      have b := pl_la_mo (F := F) (set := set) W (k + 1) (v + 1) (pl_wo_t h) (pl_add F w v s)
      exact ⟨fun z => b.1 (a.1 z), fun z => b.2 (a.2 z)⟩
    · exact pl_la_mo (F := F) (set := set) W (k + 1) v (pl_wo_t h) s
theorem pl_lp_mo {F : pj_F} {set : Nat} : ∀ (W : pj_W) (k : Nat) (v : Int), pl_wo F W → pl_mo (pl_lp set W k v)
  | [], _, _, _ => fun _ => ⟨id, id⟩
  | w :: W, k, v, h => fun s => by
    show (pl_bad s → pl_bad (if pl_bit set k = true then pl_lp set W (k + 1) (v + 1) (pl_prt w v s) else pl_lp set W (k + 1) v s)) ∧ (pl_ok s → pl_ok (if pl_bit set k = true then pl_lp set W (k + 1) (v + 1) (pl_prt w v s) else pl_lp set W (k + 1) v s))
    split
    · have a := pl_prt_mo (v := v) (pl_wo_h h).2.2.1 s
      have b := pl_lp_mo (F := F) (set := set) W (k + 1) (v + 1) (pl_wo_t h) (pl_prt w v s)
      exact ⟨fun z => b.1 (a.1 z), fun z => b.2 (a.2 z)⟩
    · exact pl_lp_mo (F := F) (set := set) W (k + 1) v (pl_wo_t h) s
/-! the bars are the digits -/
theorem pl_pt_bar {s : pl_S} {why : Int} : (pl_pt s why).2.2.2.2 = s.2.2.2 := by
  unfold pl_pt
  split
  · rfl
  · split <;> rfl
theorem pl_pr_bar (o v : Int) : ∀ (d : Nat) (s : pl_S), (pl_pr o v d s).2.2.2 = s.2.2.2 + d
  | 0, s => (Int.add_zero _).symm
  | d + 1, s => by
    show (pl_pr o v d (pl_p1 o v d s)).2.2.2 = _
    rw [pl_pr_bar o v d]
    show (pl_pt s (20 + o)).2.2.2.2 + 1 + (d : Int) = _
    rw [pl_pt_bar]
    omega
theorem pl_lp_bar {F : pj_F} {set : Nat} : ∀ (W : pj_W) (k : Nat) (v : Int) (s : pl_S), pl_wo F W → (pl_lp set W k v s).2.2.2 = s.2.2.2 + pl_ds set W k
  | [], _, _, s, _ => (Int.add_zero _).symm
  | w :: W, k, v, s, h => by
    have hd := (pl_wo_h h).2.1
    show (if pl_bit set k = true then pl_lp set W (k + 1) (v + 1) (pl_prt w v s) else pl_lp set W (k + 1) v s).2.2.2 = s.2.2.2 + ((if pl_bit set k = true then w.2.1 else 0) + pl_ds set W (k + 1))
    split
    · rw [pl_lp_bar (F := F) W (k + 1) (v + 1) _ (pl_wo_t h)]
      show (pl_pr w.2.2.1 v w.2.1.toNat s).2.2.2 + _ = _
      rw [pl_pr_bar]
      omega
    · rw [pl_lp_bar (F := F) W (k + 1) v _ (pl_wo_t h)]
      omega
theorem pl_dg_bar (last v : Int) : ∀ (n : Nat) (d : Int) (s : pl_S), (pl_dg last v n d s).2.2.2 = s.2.2.2
  | 0, _, _ => rfl
  | n + 1, d, s => pl_dg_bar last v n (d + 1) _
theorem pl_add_bar {F : pj_F} {w : Int × Int × Int × Int} {v : Int} {s : pl_S} : (pl_add F w v s).2.2.2 = s.2.2.2 := by
  have h1 : (pl_fd F w.1 v s).2.2.2 = s.2.2.2 := by
    unfold pl_fd
    split
    · rfl
    · exact pl_dg_bar _ _ _ _ _
  unfold pl_add pl_ov
  split
  · exact h1
  · show (pl_pt (pl_fd F w.1 v s) w.2.2.2).2.2.2.2 = _
    rw [pl_pt_bar]; exact h1
theorem pl_la_bar {F : pj_F} {set : Nat} : ∀ (W : pj_W) (k : Nat) (v : Int) (s : pl_S), (pl_la F set W k v s).2.2.2 = s.2.2.2
  | [], _, _, _ => rfl
  | w :: W, k, v, s => by
    show (if pl_bit set k = true then pl_la F set W (k + 1) (v + 1) (pl_add F w v s) else pl_la F set W (k + 1) v s).2.2.2 = _
    split
    · rw [pl_la_bar W (k + 1) (v + 1), pl_add_bar]
    · exact pl_la_bar W (k + 1) v s
theorem pl_b1_bar (B : Int → Int) (q : pl_S × Int) (o : Int) : (pl_b1 B q o).1.2.2.2 = q.1.2.2.2 := by
  unfold pl_b1
  split <;> rfl
theorem pl_bk_bar (B : Int → Int) : ∀ (n : Nat) (o : Int) (q : pl_S × Int), (pl_bk B n o q).2.2.2 = q.1.2.2.2
  | 0, _, _ => rfl
  | n + 1, o, q => (pl_bk_bar B n (o + 1) _).trans (pl_b1_bar B q o)
theorem pl_bk_mo (B : Int → Int) : ∀ (n : Nat) (o : Int) (q : pl_S × Int), (pl_bad q.1 → pl_bad (pl_bk B n o q)) ∧ (pl_ok q.1 → pl_ok (pl_bk B n o q))
  | 0, _, _ => ⟨id, id⟩
  | n + 1, o, q => by
    have a := (pl_b1_mo B q.2 o).2 q.1
    have b := pl_bk_mo B n (o + 1) (pl_b1 B q o)
    exact ⟨fun z => b.1 (a.1 z), fun z => b.2 (a.2 z)⟩
theorem pl_mk_bar {J : pj_J} {set : Nat} (ok : pj_ok J) : (pl_mk J set).2.2.2 = pl_ds set J.2.2 0 := by
  unfold pl_mk
  rw [pl_lp_bar (F := J.1) J.2.2 0 0 _ ok.2.2.2.2, pl_la_bar, pl_bk_bar]
  exact Int.zero_add _
theorem pl_0_ok : pl_ok pl_0 := ⟨by decide, fun i hi => (by cases hi)⟩
