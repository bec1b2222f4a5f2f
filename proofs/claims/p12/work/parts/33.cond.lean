/-! COMPARISONS -/
noncomputable def sv_isn (d : sv_L) (l : List sv_L) : Bool := List.rec (motive := fun _ => Bool) false (fun c _ ih => or (sv_same c d) ih) l
theorem sv_isn_ok {d : sv_L} : ∀ {l : List sv_L}, sv_isn d l = true → d ∈ l
  | [], h => by cases h
  | c :: l, h => by
    have h : or (sv_same c d) (sv_isn d l) = true := h
    rw [Bool.or_eq_true] at h
    rcases h with h | h
    · rw [sv_same_ok h]; exact List.mem_cons_self ..
    · exact List.mem_cons_of_mem _ (sv_isn_ok h)
/-- x c y: what is known then -/
noncomputable def sv_cd (a : sv_A) (c : Jvm.ClassFile.Cond) (x y : sv_L) (K : sv_A → Bool) : Bool := sv_ma (-1) y x fun d => sv_ma (-1) x y fun e => match c with
  | .eq => cond (or (sv_isn d a.2.2.2) (sv_isn e a.2.2.2)) true (sv_as a d fun a => sv_as a e K)
  | .ne => cond (sv_p 3 a d) (sv_ac (-1) d fun d1 => sv_as a d1 K) (cond (sv_p 3 a e) (sv_ac (-1) e fun e1 => sv_as a e1 K) (K (a.1, a.2.1, a.2.2.1, d :: a.2.2.2)))
  | .lt => sv_ac (-1) e fun e1 => sv_as a e1 K
  | .ge => sv_as a d K
  | .gt => sv_ac (-1) d fun d1 => sv_as a d1 K
  | .le => sv_as a e K
def sv_holds (c : Jvm.ClassFile.Cond) (x y : Int) : Prop := match c with
  | .eq => x = y
  | .ne => x ≠ y
  | .lt => x < y
  | .ge => y ≤ x
  | .gt => y < x
  | .le => x ≤ y
def sv_ng (c : Jvm.ClassFile.Cond) : Jvm.ClassFile.Cond := match c with
  | .eq => .ne
  | .ne => .eq
  | .lt => .ge
  | .ge => .lt
  | .gt => .le
  | .le => .gt
theorem sv_ng_ok {c : Jvm.ClassFile.Cond} {x y : Int} (h : ¬ sv_holds c x y) : sv_holds (sv_ng c) x y := by
  cases c <;> simp only [sv_holds, sv_ng] at h ⊢ <;> omega
theorem sv_cd_ok {ρ : Nat → Int} {a : sv_A} {c : Jvm.ClassFile.Cond} {x y : sv_L} {K : sv_A → Bool} (ha : sv_ak ρ a) (hx : sv_wf a.1 x) (hy : sv_wf a.1 y) (hc : sv_holds c (sv_ev ρ x) (sv_ev ρ y)) (h : sv_cd a c x y K = true) : ∃ a2, K a2 = true ∧ sv_ak ρ a2 ∧ a2.1 = a.1 := by
  unfold sv_cd at h
  obtain ⟨d, d1, d2, d3⟩ := sv_ma_ok (-1) y x
  obtain ⟨e, e1, e2, e3⟩ := sv_ma_ok (-1) x y
  rw [d3, e3] at h
  have hd := d1 ρ
  have he := e1 ρ
  have wd := d2 a.1 hy hx
  have we := e2 a.1 hx hy
  have nosub : ∀ {p : sv_L}, sv_ev ρ p = 0 → sv_isn p a.2.2.2 = false := fun {p} hp => by
    cases hb : sv_isn p a.2.2.2 with
    | false => rfl
    | true => exact absurd hp (ha.2.2 p (sv_isn_ok hb)).1
  have one : ∀ {p : sv_L}, sv_wf a.1 p → 1 ≤ sv_ev ρ p → sv_ac (-1) p (fun p1 => sv_as a p1 K) = true → ∃ a2, K a2 = true ∧ sv_ak ρ a2 ∧ a2.1 = a.1 := fun {p} wp hp hh => by
    obtain ⟨q, q1, q2, q3⟩ := sv_ac_ok (-1) p
    rw [q3] at hh
    exact sv_as_ok ha (q2 _ wp) (by rw [q1]; omega) hh
  cases c with
  | eq =>
    have hc : sv_ev ρ x = sv_ev ρ y := hc
    have h : cond (or (sv_isn d a.2.2.2) (sv_isn e a.2.2.2)) true (sv_as a d fun a => sv_as a e K) = true := h
    rw [nosub (p := d) (by omega), nosub (p := e) (by omega), Bool.or_self, cond_false] at h
    obtain ⟨a2, k2, r2, z2⟩ := sv_as_ok ha wd (by omega) h
    obtain ⟨a3, k3, r3, z3⟩ := sv_as_ok r2 (by rw [z2]; exact we) (by omega) k2
    exact ⟨a3, k3, r3, z3.trans z2⟩
  | ne =>
    have hc : sv_ev ρ x ≠ sv_ev ρ y := hc
    have h : cond (sv_p 3 a d) (sv_ac (-1) d fun d1 => sv_as a d1 K) (cond (sv_p 3 a e) (sv_ac (-1) e fun e1 => sv_as a e1 K) (K (a.1, a.2.1, a.2.2.1, d :: a.2.2.2))) = true := h
    cases p1 : sv_p 3 a d with
    | true =>
      rw [p1, cond_true] at h
      have := sv_p_ok ha p1
      exact one wd (by omega) h
    | false =>
      rw [p1, cond_false] at h
      cases p2 : sv_p 3 a e with
      | true =>
        rw [p2, cond_true] at h
        have := sv_p_ok ha p2
        exact one we (by omega) h
      | false =>
        rw [p2, cond_false] at h
        refine ⟨_, h, ⟨ha.1, ha.2.1, fun q hq => ?_⟩, rfl⟩
        rcases List.mem_cons.mp hq with z | z
        · subst z; exact ⟨by omega, wd⟩
        · exact ha.2.2 q z
  | lt => exact one we (by have hc : sv_ev ρ x < sv_ev ρ y := hc; omega) h
  | ge => exact sv_as_ok ha wd (by have hc : sv_ev ρ y ≤ sv_ev ρ x := hc; omega) h
  | gt => exact one wd (by have hc : sv_ev ρ y < sv_ev ρ x := hc; omega) h
  | le => exact sv_as_ok ha we (by have hc : sv_ev ρ x ≤ sv_ev ρ y := hc; omega) h
/-- a new symbol with bounds -/
noncomputable def sv_nw (a : sv_A) (lo hi : Int) (K : sv_A → sv_L → Bool) : Bool := cond (Nat.blt a.1 512) (sv_fn (Nat.succ a.1) fun n => K (n, sv_bs 9 a.2.1 a.1 (lo, hi), a.2.2.1, a.2.2.2) (0, [(a.1, 1)])) false
def sv_up (ρ : Nat → Int) (n : Nat) (v : Int) : Nat → Int := fun s => if s % 512 = n then v else ρ s
theorem sv_up_lt {ρ : Nat → Int} {n : Nat} {v : Int} (hn : n < 512) : ∀ s, s < n → sv_up ρ n v s = ρ s := fun s hs => by
  unfold sv_up; rw [if_neg]; rw [Nat.mod_eq_of_lt (by omega)]; omega
theorem sv_wl_up {n m : Nat} (h : n ≤ m) {l : List (Nat × Int)} (hw : sv_wl n l) : sv_wl m l := fun q hq => Nat.lt_of_lt_of_le (hw q hq) h
theorem sv_nw_ok {ρ : Nat → Int} {a : sv_A} {lo hi v : Int} {K : sv_A → sv_L → Bool} (ha : sv_ak ρ a) (h1 : lo ≤ v) (h2 : v ≤ hi) (h : sv_nw a lo hi K = true) : a.1 < 512 ∧ ∃ a2, K a2 (0, [(a.1, 1)]) = true ∧ sv_ak (sv_up ρ a.1 v) a2 ∧ a2.1 = a.1 + 1 ∧ sv_ev (sv_up ρ a.1 v) (0, [(a.1, 1)]) = v := by
  unfold sv_nw at h
  cases hb : Nat.blt a.1 512 with
  | false => rw [hb, cond_false] at h; cases h
  | true =>
    rw [hb, cond_true, sv_fn_eq] at h
    have hlt : a.1 < 512 := Nat.le_of_ble_eq_true hb
    have hup := sv_up_lt (ρ := ρ) (v := v) hlt
    have hat : sv_up ρ a.1 v a.1 = v := by unfold sv_up; rw [if_pos (Nat.mod_eq_of_lt hlt)]
    refine ⟨hlt, _, h, ⟨⟨fun s => ?_, fun s => ?_⟩, fun c hc => ?_, fun c hc => ?_⟩, rfl, ?_⟩
    · unfold sv_up
      rw [Nat.mod_mod, ha.1.1 s]
    · show (sv_bg 9 (sv_bs 9 a.2.1 a.1 (lo, hi)) s).1 ≤ _ ∧ _
      rw [sv_bg_ts]
      unfold sv_up
      by_cases e : s % 512 = a.1
      · rw [if_pos e, if_pos (show s % 2 ^ 9 = a.1 % 2 ^ 9 from by rw [Nat.mod_eq_of_lt (show a.1 < 2 ^ 9 from hlt)]; exact e)]
        exact ⟨h1, h2⟩
      · rw [if_neg e, if_neg (show ¬ s % 2 ^ 9 = a.1 % 2 ^ 9 from by rw [Nat.mod_eq_of_lt (show a.1 < 2 ^ 9 from hlt)]; exact e)]
        exact ha.1.2 s
    · obtain ⟨g1, g2⟩ := ha.2.1 c hc
      exact ⟨by rw [sv_ev_up hup g2]; exact g1, sv_wl_up (Nat.le_succ _) g2⟩
    · obtain ⟨g1, g2⟩ := ha.2.2 c hc
      exact ⟨by rw [sv_ev_up hup g2]; exact g1, sv_wl_up (Nat.le_succ _) g2⟩
    · show (0 : Int) + (1 * sv_up ρ a.1 v a.1 + 0) = v
      rw [hat]; omega
