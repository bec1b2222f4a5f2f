/-! THE START: the shape holds, both tapes are empty rows -/
def dz_fk (k : Nat) (f : Nat × Nat) (v : ae_V) : Bool := match f.1 with
  | 0 => (match v with
    | .inl (.inl z) => Nat.blt z 4294967296
    | _ => false)
  | 1 => (match v with
    | .inr (.inr (some k2)) => Nat.beq k2 (k + f.2)
    | _ => false)
  | 2 => (match v with
    | .inr (.inr (some k2)) => sz_ty k2 f.2
    | _ => false)
  | 3 => (match v with
    | .inr (.inr none) => true
    | .inr (.inr (some k2)) => sz_ty k2 f.2
    | _ => false)
  | 4 => (match v with
    | .inr (.inl z) => Nat.blt z 18446744073709551616
    | _ => false)
  | _ => (match v with
    | .inr (.inr (some k2)) => Nat.beq k2 f.2
    | _ => false)
theorem dz_fk_ok {k : Nat} {f : Nat × Nat} {v : ae_V} (h : dz_fk k f v = true) : dc_fk k f v := by
  obtain ⟨f0, f1⟩ := f
  match f0, h with
  | 0, h =>
    match v, h with
    | .inl (.inl z), h => exact ⟨z, ae_blt h, rfl⟩
    | .inl (.inr _), h => cases h
    | .inr (.inl _), h => cases h
    | .inr (.inr none), h => cases h
    | .inr (.inr (some _)), h => cases h
  | 1, h =>
    match v, h with
    | .inr (.inr (some k2)), h => have e : k2 = k + f1 := ae_beq h; subst e; exact rfl
    | .inl (.inl _), h => cases h
    | .inl (.inr _), h => cases h
    | .inr (.inl _), h => cases h
    | .inr (.inr none), h => cases h
  | 2, h =>
    match v, h with
    | .inr (.inr (some k2)), h => exact ⟨k2, rfl, sz_ty_ok h⟩
    | .inl (.inl _), h => cases h
    | .inl (.inr _), h => cases h
    | .inr (.inl _), h => cases h
    | .inr (.inr none), h => cases h
  | 3, h =>
    match v, h with
    | .inr (.inr none), _ => exact Or.inl rfl
    | .inr (.inr (some k2)), h => exact Or.inr ⟨k2, rfl, sz_ty_ok h⟩
    | .inl (.inl _), h => cases h
    | .inl (.inr _), h => cases h
    | .inr (.inl _), h => cases h
  | 4, h =>
    match v, h with
    | .inr (.inl z), h => exact ⟨z, ae_blt h, rfl⟩
    | .inl (.inl _), h => cases h
    | .inl (.inr _), h => cases h
    | .inr (.inr none), h => cases h
    | .inr (.inr (some _)), h => cases h
  | n + 5, h =>
    match v, h with
    | .inr (.inr (some k2)), h => have e : k2 = f1 := ae_beq h; subst e; exact rfl
    | .inl (.inl _), h => cases h
    | .inl (.inr _), h => cases h
    | .inr (.inl _), h => cases h
    | .inr (.inr none), h => cases h
def dz_fs (k : Nat) : List (Nat × Nat) → List ae_V → Bool
  | [], [] => true
  | t :: l, c :: m => and (dz_fk k t c) (dz_fs k l m)
  | _, _ => false
theorem dz_fs_ok {k : Nat} : ∀ {l : List (Nat × Nat)} {m : List ae_V}, dz_fs k l m = true → m.length = l.length ∧ ∀ (j : Nat) (t : Nat × Nat) (c : ae_V), l[j]? = some t → m[j]? = some c → dc_fk k t c
  | [], [], _ => ⟨rfl, fun j t c hj => by cases hj⟩
  | [], _ :: _, h => by cases h
  | _ :: _, [], h => by cases h
  | t :: l, c :: m, h => by
    obtain ⟨h1, h2⟩ := ae_band (show and (dz_fk k t c) (dz_fs k l m) = true from h)
    obtain ⟨g1, g2⟩ := dz_fs_ok h2
    refine ⟨congrArg Nat.succ g1, fun j t' c' hj hc => ?_⟩
    cases j with
    | zero => cases hj; cases hc; exact dz_fk_ok h1
    | succ j => exact g2 j t' c' hj hc
noncomputable def dz_sh (h : ae_H) (k : Nat) (S : dc_S) : Bool := match S.1 with
  | 0 => (match ae_hg h k with
    | some (.inr (ci, fs)) => and (Nat.beq ci S.2.1) (dz_fs k S.2.2.2 fs)
    | _ => false)
  | 3 => (match ae_hg h k with
    | some (.inl (t, n, .inr (.inr l))) => and (Nat.beq t 4) (and (Nat.beq n S.2.2.1) (decide (l = (List.range S.2.2.1).map (fun i => some (((S.2.2.2[0]?).getD (0, 0)).2 + 3 * i)))))
    | _ => false)
  | _ => (match ae_hg h k with
    | some (.inl (t, n, .inl _)) => and (Nat.beq t S.2.1) (Nat.beq n S.2.2.1)
    | _ => false)
theorem dz_sh_ok {h : ae_H} {k : Nat} {S : dc_S} (q : dz_sh h k S = true) : dc_sh h k S := by
  obtain ⟨s0, s1, s2, s3⟩ := S
  have row : (match ae_hg h k with
    | some (.inl (t, n, .inl _)) => and (Nat.beq t s1) (Nat.beq n s2)
    | _ => false) = true → ∃ A, ae_hg h k = some (.inl (s1, s2, .inl A)) := by
    intro q
    split at q
    · next t n A hg =>
      obtain ⟨q1, q2⟩ := ae_band q
      have e1 := ae_beq q1
      have e2 := ae_beq q2
      subst e1 e2
      exact ⟨A, hg⟩
    · cases q
  match s0, q with
  | 0, q =>
    have q : (match ae_hg h k with
      | some (.inr (ci, fs)) => and (Nat.beq ci s1) (dz_fs k s3 fs)
      | _ => false) = true := q
    split at q
    · next ci fs hg =>
      obtain ⟨q1, q2⟩ := ae_band q
      have e1 := ae_beq q1
      subst e1
      obtain ⟨g1, g2⟩ := dz_fs_ok q2
      exact ⟨fs, hg, g1, g2⟩
    · cases q
  | 1, q => exact row q
  | 2, q => exact row q
  | 3, q =>
    have q : (match ae_hg h k with
      | some (.inl (t, n, .inr (.inr l))) => and (Nat.beq t 4) (and (Nat.beq n s2) (decide (l = (List.range s2).map (fun i => some (((s3[0]?).getD (0, 0)).2 + 3 * i)))))
      | _ => false) = true := q
    split at q
    · next t n l hg =>
      obtain ⟨q1, q2⟩ := ae_band q
      obtain ⟨q2, q3⟩ := ae_band q2
      have e1 := ae_beq q1
      have e2 := ae_beq q2
      have e3 := of_decide_eq_true q3
      subst e1 e2 e3
      exact hg
    · cases q
  | n + 4, q => exact row q
noncomputable def dz_k (h : ae_H) (k : Nat) : Bool := match sv_ty k with
  | some t => (match dc_tt[t]? with
    | some S => dz_sh h k S
    | none => false)
  | none => true
noncomputable def dz_ok (h : ae_H) : Bool := (List.range 174).all (dz_k h)
theorem dz_ok_ok {h : ae_H} (q : dz_ok h = true) : dc_ok h := by
  intro k t ht
  have hl : k < 174 := (List.getElem?_eq_some_iff.mp ht).1
  have q1 : dz_k h k = true := List.all_eq_true.mp q k (List.mem_range.mpr hl)
  unfold dz_k at q1
  rw [ht] at q1
  have q1 : (match dc_tt[t]? with
    | some S => dz_sh h k S
    | none => false) = true := q1
  cases hS : dc_tt[t]? with
  | none => rw [hS] at q1; cases q1
  | some S => rw [hS] at q1; exact ⟨S, rfl, dz_sh_ok q1⟩
theorem dz_x3 : dz_ok ae_x3 = true := by decide +kernel
noncomputable def dz_z (h : ae_H) (k : Nat) : Bool := match ae_hg h k with
  | some (.inl (t, _, .inl A)) => and (Nat.blt t 3) (Nat.beq A 0)
  | _ => false
theorem dz_z_ok {h : ae_H} {k : Nat} (q : dz_z h k = true) (i : Int) : dc_m h k i = 0 := by
  unfold dz_z at q
  unfold dc_m
  split
  · rfl
  · split at q
    · next t n A hg =>
      obtain ⟨q1, q2⟩ := ae_band q
      have h3 := ae_blt q1
      have e := ae_beq q2
      subst e
      rw [hg]
      show cond (Nat.beq t 3) ((ae_rd 64 0 i.toNat : Nat) : Int) (sv_g (ae_rd 32 0 i.toNat)) = 0
      have e3 : Nat.beq t 3 = false := by
        cases hb : Nat.beq t 3 with
        | false => rfl
        | true => have := ae_beq hb; omega
      rw [e3]
      show sv_g (ae_rd 32 0 i.toNat) = 0
      rw [ae_rd0]
      rfl
    · cases q
noncomputable def dz_f (h : ae_H) (k j : Nat) : Bool := match ae_hg h k with
  | some (.inr (_, fs)) => (match fs[j]? with
    | some (.inl (.inl z)) => Nat.beq z 0
    | _ => false)
  | _ => false
theorem dz_f_ok {h : ae_H} {k j : Nat} (q : dz_f h k j = true) : dc_m h k (j : Int) = 0 := by
  unfold dz_f at q
  unfold dc_m
  rw [if_neg (by omega), Int.toNat_natCast]
  split at q
  · next ci fs hg =>
    rw [hg]
    show (match fs[j]? with
      | some v => dc_v v
      | none => 0) = 0
    split at q
    · next z hz =>
      have e := ae_beq q
      subst e
      rw [hz]
      show sv_g 0 = 0
      decide
    · cases q
  · cases q
noncomputable def dz_r (h : ae_H) (k j v : Nat) : Bool := match ae_hg h k with
  | some (.inr (_, fs)) => (match fs[j]? with
    | some (.inr (.inr (some z))) => Nat.beq z v
    | _ => false)
  | _ => false
theorem dz_r_ok {h : ae_H} {k j v : Nat} (q : dz_r h k j v = true) : dc_m h k (j : Int) = ((v : Nat) : Int) := by
  unfold dz_r at q
  unfold dc_m
  rw [if_neg (by omega), Int.toNat_natCast]
  split at q
  · next ci fs hg =>
    rw [hg]
    show (match fs[j]? with
      | some v => dc_v v
      | none => 0) = ((v : Nat) : Int)
    split at q
    · next z hz =>
      have e := ae_beq q
      subst e
      rw [hz]
      rfl
    · cases q
  · cases q
theorem lx_J0 : lx_J (dc_m ae_x3) := by
  have e10 : dc_m ae_x3 0 10 = ((96 : Nat) : Int) := dz_r_ok (h := ae_x3) (k := 0) (j := 10) (by decide +kernel)
  have e11 : dc_m ae_x3 0 11 = ((105 : Nat) : Int) := dz_r_ok (h := ae_x3) (k := 0) (j := 11) (by decide +kernel)
  refine ⟨?_, dz_z_ok (h := ae_x3) (k := 49) (by decide +kernel) 0, ([], fun _ => 0, []), pj_ok_0, ?_, ?_, ?_⟩
  · unfold lx_two
    rw [e10, e11]
    exact Or.inl ⟨rfl, rfl⟩
  · rw [e10]
    refine ⟨⟨dz_f_ok (h := ae_x3) (k := 96) (j := 3) (by decide +kernel), fun i hi => (by cases hi)⟩, fun o _ _ => dz_z_ok (h := ae_x3) (k := 100) (by decide +kernel) o, dz_f_ok (h := ae_x3) (k := 96) (j := 9) (by decide +kernel), fun i hi => (by cases hi)⟩
  · exact ⟨fun i hi => (by cases hi), fun o _ _ => dz_z_ok (h := ae_x3) (k := 154) (by decide +kernel) _, dz_z_ok (h := ae_x3) (k := 155) (by decide +kernel) 0, fun i hi => (by cases hi)⟩
  · refine ⟨fun _ => 0, fun _ => 0, ⟨rfl, fun s p1 p2 => ?_⟩, Or.inl ⟨by decide, dz_f_ok (h := ae_x3) (k := 46) (j := 1) (by decide +kernel), fun r hr => ?_⟩⟩
    · have p2 : s < 2 ^ 0 := p2
      have : (2 : Nat) ^ 0 = 1 := rfl
      omega
    · have hr : (r : Int) < 0 := hr
      omega
theorem lg_B0 : lg_B (dc_m ae_x3) := by
  have e8 : dc_m ae_x3 0 8 = ((90 : Nat) : Int) := dz_r_ok (h := ae_x3) (k := 0) (j := 8) (by decide +kernel)
  have e9 : dc_m ae_x3 0 9 = ((93 : Nat) : Int) := dz_r_ok (h := ae_x3) (k := 0) (j := 9) (by decide +kernel)
  have z120 : ∀ i, dc_m ae_x3 120 i = 0 := fun i => dz_z_ok (h := ae_x3) (k := 120) (by decide +kernel) i
  have z122 : ∀ i, dc_m ae_x3 122 i = 0 := fun i => dz_z_ok (h := ae_x3) (k := 122) (by decide +kernel) i
  have key : ∀ k : Nat, k < 8 → dz_f ae_x3 (64 + 3 * k) 2 = true := by decide +kernel
  have no : ∀ {k : Nat} {s : Int}, dc_m ae_x3 k 2 = 0 → lg_W (dc_m ae_x3) k s := fun {k s} e => ⟨[], ⟨e, by decide, fun i hi => (by cases hi)⟩, z120 s, by decide, fun i hi => (by cases hi)⟩
  refine ⟨?_, ?_, fun k hk => ?_, 0, by decide, dz_f_ok (h := ae_x3) (k := 56) (j := 1) (by decide +kernel), fun k hk => ?_⟩
  · unfold lx_twoB
    rw [e8, e9]
    exact Or.inl ⟨rfl, rfl⟩
  · rw [e8]
    exact no (dz_f_ok (h := ae_x3) (k := 90) (j := 2) (by decide +kernel))
  · exact no (dz_f_ok (key k hk))
  · rw [z122]
    exact ⟨fun _ => rfl, fun _ => by unfold lb_b; rw [Nat.zero_div]⟩
/-- the places of the cards, at the start one behind the other -/
noncomputable def dz_5 (h : ae_H) : Bool := match ae_hg h 5 with
  | some (.inl (t, _, .inl A)) => and (Nat.blt t 3) ((List.range 320).all (fun i => Nat.beq (ae_rd 32 A i) (20 * i)))
  | _ => false
theorem dz_u1 {i : Int} (i0 : 0 ≤ i) (i1 : i < 320) : sv_u (20 * i) = 20 * i.toNat := by
  rw [sv_u_nn (by omega) (by omega), Int.toNat_mul (by decide) i0]
  rfl
theorem dz_u2 {i : Int} (i0 : 0 ≤ i) (i1 : i < 320) : sv_I (20 * i) := ⟨by omega, by omega⟩
theorem dz_5_ok {h : ae_H} (q : dz_5 h = true) {i : Int} (i0 : 0 ≤ i) (i1 : i < 320) : dc_m h 5 i = 20 * i := by
  unfold dz_5 at q
  unfold dc_m
  rw [if_neg (by omega)]
  split at q
  · next t n A hg =>
    obtain ⟨q1, q2⟩ := ae_band q
    have h3 := ae_blt q1
    have e := ae_beq (List.all_eq_true.mp q2 i.toNat (List.mem_range.mpr (show i.toNat < 320 by clear q q1 q2 h3; omega)))
    rw [hg]
    show cond (Nat.beq t 3) ((ae_rd 64 A i.toNat : Nat) : Int) (sv_g (ae_rd 32 A i.toNat)) = 20 * i
    have e3 : Nat.beq t 3 = false := by
      cases hb : Nat.beq t 3 with
      | false => rfl
      | true => have := ae_beq hb; omega
    rw [e3]
    show sv_g (ae_rd 32 A i.toNat) = 20 * i
    rw [e]
    rw [← dz_u1 i0 i1]
    exact sv_g_u (dz_u2 i0 i1)
  · cases q
theorem lg_X0 : lg_X (dc_m ae_x3) := by
  have z6 : ∀ i, dc_m ae_x3 6 i = 0 := fun i => dz_z_ok (h := ae_x3) (k := 6) (by decide +kernel) i
  have z117 : ∀ i, dc_m ae_x3 117 i = 0 := fun i => dz_z_ok (h := ae_x3) (k := 117) (by decide +kernel) i
  have q5 : dz_5 ae_x3 = true := by decide +kernel
  have l0 : (0 : Int) ≤ 0 ∧ (0 : Int) ≤ 40 := by decide
  have v0 : bx_v 0 := by unfold bx_v; decide
  refine ⟨fun _ => 0, fun _ _ _ => 0, fun _ _ _ => v0, ⟨fun b _ _ => ⟨z6 b, l0⟩, fun b k b0 b1 k0 k1 => ⟨40 * b + k, dz_5_ok q5 (by omega) (by omega), by omega, by omega⟩, fun b k j b0 b1 k0 k1 j1 => ?_, fun b k c b0 b1 k0 k1 => ?_⟩, fun b _ _ => ⟨z117 b, l0⟩, fun b k c b0 b1 k0 k1 => ?_⟩
  · rw [dz_5_ok q5 (by omega) (by omega), dz_5_ok q5 (by omega) (by omega)]
    omega
  · exfalso
    have k1 : k < 0 := k1
    omega
  · exfalso
    have k1 : k < 0 := k1
    omega
theorem lx_P0 : lx_P 0 (dc_m ae_x3) := by
  refine ⟨⟨?_, ?_⟩, lx_J0, lg_B0, lg_X0, Or.inl ⟨dz_f_ok (h := ae_x3) (k := 0) (j := 12) (by decide +kernel), dz_f_ok (h := ae_x3) (k := 114) (j := 44) (by decide +kernel), dz_f_ok (h := ae_x3) (k := 12) (j := 1) (by decide +kernel)⟩, ?_, ?_⟩
  · have e2 := dz_z_ok (h := ae_x3) (k := 2) (by decide +kernel)
    have e5 := dz_z_ok (h := ae_x3) (k := 115) (by decide +kernel)
    funext i
    show dc_m ae_x3 2 i = rz_t (dc_m ae_x3) i
    unfold rz_t
    rw [e2, e5]
    decide
  · exact (dz_f_ok (h := ae_x3) (k := 1) (j := 8) (by decide +kernel)).trans (dz_f_ok (h := ae_x3) (k := 114) (j := 10) (by decide +kernel)).symm
  · have e7 : dc_m ae_x3 16 7 = 0 := dz_f_ok (h := ae_x3) (k := 16) (j := 7) (by decide +kernel)
    have e26 := dz_z_ok (h := ae_x3) (k := 26) (by decide +kernel)
    refine ⟨by rw [e7]; omega, fun i _ _ => by rw [e7, e26]; decide⟩
  · have a1 : dc_m ae_x3 29 11 = 0 := dz_f_ok (h := ae_x3) (k := 29) (j := 11) (by decide +kernel)
    have a2 : dc_m ae_x3 114 54 = 0 := dz_f_ok (h := ae_x3) (k := 114) (j := 54) (by decide +kernel)
    refine ⟨⟨a1.trans a2.symm, by rw [a1]; decide, fun j j0 j1 => ?_⟩, ⟨?_, ?_⟩, ?_⟩
    · exfalso
      rw [a1] at j1
      omega
    · exact (dz_f_ok (h := ae_x3) (k := 29) (j := 8) (by decide +kernel)).trans (dz_f_ok (h := ae_x3) (k := 114) (j := 56) (by decide +kernel)).symm
    · exact (dz_f_ok (h := ae_x3) (k := 29) (j := 9) (by decide +kernel)).trans (dz_f_ok (h := ae_x3) (k := 114) (j := 57) (by decide +kernel)).symm
    · exact (dz_f_ok (h := ae_x3) (k := 0) (j := 13) (by decide +kernel)).trans (dz_f_ok (h := ae_x3) (k := 114) (j := 47) (by decide +kernel)).symm
