/-! PlugHall.job: the JOB that stays keeps its facts (wip/p2/hand/g75.py) -/
/-- the rows of a JOB are its own -/
def wz_own (h : ae_H) (a : Nat) : Prop := wk_F h a 0 = some (wk_r (a + 1)) ∧ wk_F h a 1 = some (wk_r (a + 2)) ∧ wk_F h a 2 = some (wk_r (a + 3)) ∧ wk_F h a 4 = some (wk_r (a + 4)) ∧ wk_F h a 5 = some (wk_r (a + 5)) ∧ wk_F h a 6 = some (wk_r (a + 6)) ∧ wk_F h a 7 = some (wk_r (a + 7)) ∧ wk_F h a 8 = some (wk_r (a + 8))
/-- the two JOBS -/
def wz_two (A B : Nat) : Prop := (A = 96 ∧ B = 105) ∨ (A = 105 ∧ B = 96)
def wz_tyX (A : Nat) (k : Nat) : Option Nat := match sv_ty k with
  | some t => some (if k = 0 then 110 else if k = A then 111 else if A < k ∧ k ≤ A + 8 then t + 72 else t)
  | none => none
def wz_un (t : Nat) : Nat := if t = 110 then 11 else if t = 111 then 2 else if 112 ≤ t then t - 72 else t
/-- types that are told apart -/
def wz_in (t : Nat) : Bool := t == 2 || t == 11 || (decide (40 ≤ t) && decide (t ≤ 47))
theorem wz_tys : (List.range 174).all (fun k => match sv_tys[k]? with
  | some t => decide (t < 110) && (wz_in t == (k == 0 || (decide (96 ≤ k) && decide (k ≤ 113)))) && (decide (k ≤ 96) || decide (105 ≤ k) || t == k - 57) && (decide (k ≤ 105) || decide (114 ≤ k) || t == k - 66)
  | none => false) = true := by decide +kernel
theorem wz_ty_k {k t : Nat} (h : sv_ty k = some t) : t < 110 ∧ wz_in t = (k == 0 || (decide (96 ≤ k) && decide (k ≤ 113))) ∧ (96 < k → k < 105 → t = k - 57) ∧ (105 < k → k < 114 → t = k - 66) := by
  have hk : k < 174 := by
    have := (List.getElem?_eq_some_iff.mp h).1
    have e : sv_tys.length = 174 := by decide +kernel
    omega
  have q := List.all_eq_true.mp wz_tys k (List.mem_range.mpr hk)
  rw [show sv_tys[k]? = some t from h] at q
  simp only [Bool.and_eq_true, Bool.or_eq_true, decide_eq_true_eq, beq_iff_eq] at q
  obtain ⟨⟨⟨q1, q2⟩, q3⟩, q4⟩ := q
  refine ⟨q1, q2, fun a b => ?_, fun a b => ?_⟩
  · rcases q3 with (q3 | q3) | q3 <;> omega
  · rcases q4 with (q4 | q4) | q4 <;> omega
theorem wz_ty0 : sv_ty 0 = some 11 := rfl
theorem wz_tya : sv_ty 96 = some 2 := rfl
theorem wz_tyb : sv_ty 105 = some 2 := rfl
theorem wz_un_of {A B k t : Nat} (hAB : wz_two A B) (h : sv_ty k = some t) : ∃ t', wz_tyX A k = some t' ∧ wz_un t' = t ∧ (t' = t ∨ 110 ≤ t') := by
  obtain ⟨h1, h2, h3, h4⟩ := wz_ty_k h
  refine ⟨_, by unfold wz_tyX; rw [h], ?_, ?_⟩
  · by_cases e0 : k = 0
    · subst e0
      rw [wz_ty0] at h; cases h
      rw [if_pos rfl]; rfl
    · rw [if_neg e0]
      by_cases e1 : k = A
      · rw [if_pos e1]
        have : t = 2 := by
          rcases hAB with ⟨ea, -⟩ | ⟨ea, -⟩ <;> subst ea <;> subst e1
          · rw [wz_tya] at h; cases h; rfl
          · rw [wz_tyb] at h; cases h; rfl
        rw [this]; rfl
      · rw [if_neg e1]
        by_cases e2 : A < k ∧ k ≤ A + 8
        · rw [if_pos e2]
          have ht : 40 ≤ t ∧ t ≤ 47 := by
            rcases hAB with ⟨ea, -⟩ | ⟨ea, -⟩ <;> subst ea
            · have := h3 e2.1 (by omega); omega
            · have := h4 e2.1 (by omega); omega
          unfold wz_un
          rw [if_neg (by omega), if_neg (by omega), if_pos (by omega)]
          omega
        · rw [if_neg e2]
          unfold wz_un
          rw [if_neg (by omega), if_neg (by omega), if_neg (by omega)]
  · by_cases e0 : k = 0
    · rw [if_pos e0]; omega
    · rw [if_neg e0]
      by_cases e1 : k = A
      · rw [if_pos e1]; omega
      · rw [if_neg e1]
        by_cases e2 : A < k ∧ k ≤ A + 8
        · rw [if_pos e2]
          have ht : 40 ≤ t := by
            rcases hAB with ⟨ea, -⟩ | ⟨ea, -⟩ <;> subst ea
            · have := h3 e2.1 (by omega); omega
            · have := h4 e2.1 (by omega); omega
          omega
        · rw [if_neg e2]; omega
theorem wz_to {A B k t : Nat} (hAB : wz_two A B) (h : wz_tyX A k = some t) : sv_ty k = some (wz_un t) := by
  cases e : sv_ty k with
  | none => unfold wz_tyX at h; rw [e] at h; cases h
  | some u =>
    obtain ⟨t', g1, g2, -⟩ := wz_un_of hAB e
    rw [g1] at h
    cases h
    rw [g2]
theorem wz_plain {A B k t : Nat} (hAB : wz_two A B) (h : sv_ty k = some t) (hp : wz_in t = false) : wz_tyX A k = some t := by
  obtain ⟨h1, h2, -, -⟩ := wz_ty_k h
  rw [hp] at h2
  have h2 : (k == 0 || (decide (96 ≤ k) && decide (k ≤ 113))) = false := h2.symm
  simp only [Bool.or_eq_false_iff, Bool.and_eq_false_iff, beq_eq_false_iff_ne, decide_eq_false_iff_not] at h2
  unfold wz_tyX
  rw [h]
  show some (if k = 0 then _ else _) = some t
  rw [if_neg h2.1, if_neg, if_neg]
  · rcases hAB with ⟨ea, -⟩ | ⟨ea, -⟩ <;> omega
  · rcases hAB with ⟨ea, -⟩ | ⟨ea, -⟩ <;> omega
theorem wz_lt {A : Nat} : ∀ q t, wz_tyX A q = some t → q < 256 := fun q t h => by
  cases e : sv_ty q with
  | none => unfold wz_tyX at h; rw [e] at h; cases h
  | some u => exact sv_ty_lt q u e

theorem tU_11 {a b : Nat} (ha : sv_ty a = some 11) (hb : sv_ty b = some 11) : a = b := wk_uq (by decide +kernel) ha hb
def wz_F11 : List sv_ft := [(1, 0, 0, 9), (1, 0, 0, 1), (1, 0, 0, 5), (1, 0, 0, 3), (1, 0, 0, 10), (1, 0, 0, 6), (1, 0, 0, 8), (1, 0, 0, 7), (1, 0, 0, 0), (1, 0, 0, 0), (1, 0, 0, 111), (1, 0, 0, 2), (0, 0, 1, 0), (0, (-2147483648), 2147483647, 0)]
def wz_F2 : List sv_ft := [(1, 0, 0, 112), (1, 0, 0, 113), (1, 0, 0, 114), (0, 0, 6, 0), (1, 0, 0, 115), (1, 0, 0, 116), (1, 0, 0, 117), (1, 0, 0, 118), (1, 0, 0, 119), (0, 0, 8, 0)]
/-! from the types to the others, and back -/
def wz_unF (f : sv_ft) : sv_ft := (f.1, f.2.1, f.2.2.1, if f.1 = 1 ∨ f.1 = 3 then wz_un f.2.2.2 else f.2.2.2)
def wz_unT (T : sv_T) : sv_T := (T.1, T.2.1, T.2.2.1, T.2.2.2.1, T.2.2.2.2.1, (if T.1 = 3 then wz_un T.2.2.2.2.2.1 else T.2.2.2.2.2.1), T.2.2.2.2.2.2.map wz_unF)
def wz_bF (a b : sv_ft) : Bool := and (Nat.beq a.1 b.1) (and (decide (a.2.1 = b.2.1)) (and (decide (a.2.2.1 = b.2.2.1)) (Nat.beq a.2.2.2 b.2.2.2)))
theorem wz_bF_ok {a b : sv_ft} (h : wz_bF a b = true) : a = b := by
  obtain ⟨a1, a2, a3, a4⟩ := a
  obtain ⟨b1, b2, b3, b4⟩ := b
  unfold wz_bF at h
  simp only [Bool.and_eq_true] at h
  obtain ⟨h1, h2, h3, h4⟩ := h
  have e1 : a1 = b1 := Nat.eq_of_beq_eq_true h1
  have e2 : a2 = b2 := of_decide_eq_true h2
  have e3 : a3 = b3 := of_decide_eq_true h3
  have e4 : a4 = b4 := Nat.eq_of_beq_eq_true h4
  rw [e1, e2, e3, e4]
def wz_bL : List sv_ft → List sv_ft → Bool
  | [], [] => true
  | a :: l, b :: m => and (wz_bF a b) (wz_bL l m)
  | _, _ => false
theorem wz_bL_ok : ∀ {l m : List sv_ft}, wz_bL l m = true → l = m
  | [], [], _ => rfl
  | a :: l, b :: m, h => by
    have h : and (wz_bF a b) (wz_bL l m) = true := h
    rw [Bool.and_eq_true] at h
    rw [wz_bF_ok h.1, wz_bL_ok h.2]
  | [], _ :: _, h => by cases h
  | _ :: _, [], h => by cases h
def wz_bT (a b : sv_T) : Bool := and (Nat.beq a.1 b.1) (and (Nat.beq a.2.1 b.2.1) (and (Nat.beq a.2.2.1 b.2.2.1) (and (decide (a.2.2.2.1 = b.2.2.2.1)) (and (decide (a.2.2.2.2.1 = b.2.2.2.2.1)) (and (Nat.beq a.2.2.2.2.2.1 b.2.2.2.2.2.1) (wz_bL a.2.2.2.2.2.2 b.2.2.2.2.2.2))))))
theorem wz_bT_ok {a b : sv_T} (h : wz_bT a b = true) : a = b := by
  obtain ⟨a1, a2, a3, a4, a5, a6, a7⟩ := a
  obtain ⟨b1, b2, b3, b4, b5, b6, b7⟩ := b
  unfold wz_bT at h
  simp only [Bool.and_eq_true] at h
  obtain ⟨h1, h2, h3, h4, h5, h6, h7⟩ := h
  have e1 : a1 = b1 := Nat.eq_of_beq_eq_true h1
  have e2 : a2 = b2 := Nat.eq_of_beq_eq_true h2
  have e3 : a3 = b3 := Nat.eq_of_beq_eq_true h3
  have e4 : a4 = b4 := of_decide_eq_true h4
  have e5 : a5 = b5 := of_decide_eq_true h5
  have e6 : a6 = b6 := Nat.eq_of_beq_eq_true h6
  have e7 : a7 = b7 := wz_bL_ok h7
  rw [e1, e2, e3, e4, e5, e6, e7]
def wz_bO (a b : Option sv_T) : Bool := match a, b with
  | some a, some b => wz_bT a b
  | none, none => true
  | _, _ => false
theorem wz_bO_ok {a b : Option sv_T} (h : wz_bO a b = true) : a = b := by
  match a, b, h with
  | some a, some b, h => rw [wz_bT_ok (a := a) (b := b) h]
  | none, none, _ => rfl
  | some _, none, h => cases h
  | none, some _, h => cases h
def wz_bG (a b : Option sv_ft) : Bool := match a, b with
  | some a, some b => wz_bF a b
  | none, none => true
  | _, _ => false
theorem wz_bG_ok {a b : Option sv_ft} (h : wz_bG a b = true) : a = b := by
  match a, b, h with
  | some a, some b, h => rw [wz_bF_ok (a := a) (b := b) h]
  | none, none, _ => rfl
  | some _, none, h => cases h
  | none, some _, h => cases h
theorem wz_tbl : (List.range 120).all (fun t => wz_bO ((sv_ttX[t]?).map wz_unT) (sv_tt[wz_un t]?)) = true := by decide +kernel
theorem wz_rows_ok : (List.range 8).all (fun u => and (wz_bO (sv_ttX[u + 40 + 72]?) (sv_tt[u + 40]?)) (match sv_tt[u + 40]? with
  | some T => Nat.beq T.1 1
  | none => false)) = true := by decide +kernel
theorem wz_len : sv_ttX.length = 120 := by decide +kernel
theorem wz_back {A B : Nat} (hAB : wz_two A B) {h : ae_H} (hk : sv_hk (wz_tyX A) sv_ttX h) : sv_hk sv_ty sv_tt h := by
  intro k t ht
  obtain ⟨t', g1, g2, -⟩ := wz_un_of hAB ht
  obtain ⟨T, e1, e2⟩ := hk k t' g1
  have hlt : t' < 120 := by
    have := (List.getElem?_eq_some_iff.mp e1).1
    rw [wz_len] at this; exact this
  have q := wz_bO_ok (List.all_eq_true.mp wz_tbl t' (List.mem_range.mpr hlt))
  rw [e1, g2] at q
  refine ⟨wz_unT T, q.symm, ?_⟩
  have fk : ∀ (f : sv_ft) (c : ae_V), sv_fk (wz_tyX A) f c → sv_fk sv_ty (wz_unF f) c := fun f c hf => by
    obtain ⟨kd, lo, hi, u⟩ := f
    match kd, hf with
    | 0, hf => exact hf
    | 1, ⟨k2, a1, a2⟩ => exact ⟨k2, a1, wz_to hAB a2⟩
    | 3, hf =>
      rcases hf with a | ⟨k2, a1, a2⟩
      · exact Or.inl a
      · exact Or.inr ⟨k2, a1, wz_to hAB a2⟩
    | 4, hf => exact hf
    | 2, hf => exact hf.elim
    | n + 5, hf => exact hf.elim
  obtain ⟨kd, a, n, lo, hi, m, fts⟩ := T
  match kd, e2 with
  | 0, ⟨fs, x1, x2, x3⟩ =>
    refine ⟨fs, x1, by rw [x2]; show _ = (fts.map wz_unF).length; rw [List.length_map], fun j f c hj hc => ?_⟩
    have hj : (fts.map wz_unF)[j]? = some f := hj
    rw [List.getElem?_map] at hj
    cases ef : fts[j]? with
    | none => rw [ef] at hj; cases hj
    | some f0 =>
      rw [ef] at hj
      cases hj
      exact fk f0 c (x3 j f0 c ef hc)
  | 1, e2 => exact e2
  | 2, e2 => exact e2
  | 3, ⟨l, x1, x2, x3⟩ => exact ⟨l, x1, x2, fun r hr => by
      obtain ⟨k2, y1, y2⟩ := x3 r hr
      exact ⟨k2, y1, wz_to hAB y2⟩⟩
  | n + 4, e2 => exact e2.elim
theorem wz_fr {A B : Nat} (hAB : wz_two A B) {ms : List (Nat × Nat)} (hm : ms.all (fun q => decide (q.1 < 110)) = true) {h h2 : ae_H} (hf : sv_fr (wz_tyX A) ms h h2) : sv_fr sv_ty ms h h2 := fun k t ht c hc => by
  obtain ⟨t', g1, g2, g3⟩ := wz_un_of hAB ht
  have nin : ∀ j, (t, j) ∉ ms → (t', j) ∉ ms := fun j hj hm2 => by
    rcases g3 with e | e
    · subst e; exact hj hm2
    · have := of_decide_eq_true (List.all_eq_true.mp hm _ hm2)
      have this : t' < 110 := this
      omega
  have q := hf k t' g1 c hc
  match c, q with
  | .inl x, q => exact fun hn => q (nin 0 hn)
  | .inr (ci, fs), ⟨fs', x1, x2⟩ => exact ⟨fs', x1, fun j hj => x2 j (nin j hj)⟩
theorem wz_flds : (List.range 110).all (fun t => t == 2 || t == 11 || (match sv_tt[t]? with
  | some T => (T.2.2.2.2.2.2.all fun f => !((f.1 == 1 || f.1 == 3) && wz_in f.2.2.2)) && !(T.1 == 3 && wz_in T.2.2.2.2.2.1)
  | none => true)) = true := by decide +kernel
theorem wz_fk {A B : Nat} (hAB : wz_two A B) {f : sv_ft} {c : ae_V} (hf : sv_fk sv_ty f c) (hp : (!((f.1 == 1 || f.1 == 3) && wz_in f.2.2.2)) = true) : sv_fk (wz_tyX A) f c := by
  obtain ⟨kd, lo, hi, u⟩ := f
  match kd, hf, hp with
  | 0, hf, _ => exact hf
  | 1, ⟨k2, a1, a2⟩, hp => exact ⟨k2, a1, wz_plain hAB a2 (by simpa using hp)⟩
  | 3, hf, hp =>
    rcases hf with a | ⟨k2, a1, a2⟩
    · exact Or.inl a
    · exact Or.inr ⟨k2, a1, wz_plain hAB a2 (by simpa using hp)⟩
  | 4, hf, _ => exact hf
  | 2, hf, _ => exact hf.elim
  | n + 5, hf, _ => exact hf.elim
/-- the rows of a JOB, by their fields -/
def wz_row (j : Nat) : Nat := if j < 3 then j + 1 else j
theorem wz_own_at {h : ae_H} {a : Nat} (ho : wz_own h a) {j : Nat} (hj : j < 9) (h3 : j ≠ 3) : wk_F h a j = some (wk_r (a + wz_row j)) := by
  obtain ⟨o0, o1, o2, o4, o5, o6, o7, o8⟩ := ho
  match j, hj, h3 with
  | 0, _, _ => exact o0
  | 1, _, _ => exact o1
  | 2, _, _ => exact o2
  | 4, _, _ => exact o4
  | 5, _, _ => exact o5
  | 6, _, _ => exact o6
  | 7, _, _ => exact o7
  | 8, _, _ => exact o8
theorem wz_j2 : (List.range 10).all (fun j => match tF_2[j]? with
  | some f => (if j == 3 || j == 9 then f.1 == 0 else f == ((1, 0, 0, 39 + wz_row j) : sv_ft))
  | none => false) = true := by decide +kernel
theorem wz_F11_ok : (List.range 14).all (fun j => or (Nat.beq j 10) (or (Nat.beq j 11) (and (wz_bG (wz_F11[j]?) (tF_11[j]?)) (match tF_11[j]? with
  | some f => !((f.1 == 1 || f.1 == 3) && wz_in f.2.2.2)
  | none => false)))) = true := by decide +kernel
theorem wz_forth {A B : Nat} (hAB : wz_two A B) {h : ae_H} (hk : sv_hk sv_ty sv_tt h) (FA : wk_F h 0 10 = some (wk_r A)) (FB : wk_F h 0 11 = some (wk_r B)) (oA : wz_own h A) (oB : wz_own h B) : sv_hk (wz_tyX A) sv_ttX h := by
  have up : ∀ {t : Nat} {T : sv_T}, sv_tt[t]? = some T → sv_ttX[t]? = some T := fun {t} {T} e => by
    have hl := (List.getElem?_eq_some_iff.mp e).1
    unfold sv_ttX
    rw [List.getElem?_append_left hl]; exact e
  intro k t' ht'
  have ht := wz_to hAB ht'
  obtain ⟨T, e1, e2⟩ := hk k _ ht
  have hB : sv_ty B = some 2 := by rcases hAB with ⟨-, eb⟩ | ⟨-, eb⟩ <;> subst eb <;> rfl
  have hA : sv_ty A = some 2 := by rcases hAB with ⟨ea, -⟩ | ⟨ea, -⟩ <;> subst ea <;> rfl
  have xA : wz_tyX A A = some 111 := by unfold wz_tyX; rw [hA]; show some (if A = 0 then _ else _) = _; rw [if_neg (by rcases hAB with ⟨ea, -⟩ | ⟨ea, -⟩ <;> omega), if_pos rfl]
  have xB : wz_tyX A B = some 2 := by unfold wz_tyX; rw [hB]; show some (if B = 0 then _ else _) = _; rw [if_neg (by rcases hAB with ⟨-, ea⟩ | ⟨-, ea⟩ <;> omega), if_neg (by rcases hAB with ⟨x, y⟩ | ⟨x, y⟩ <;> omega), if_neg (by rcases hAB with ⟨x, y⟩ | ⟨x, y⟩ <;> omega)]
  by_cases e0 : k = 0
  · subst e0
    have et : t' = 110 := by
      unfold wz_tyX at ht'
      rw [wz_ty0] at ht'
      have ht' : some (if (0 : Nat) = 0 then 110 else _) = some t' := ht'
      rw [if_pos rfl] at ht'
      exact (Option.some.inj ht').symm
    subst et
    obtain ⟨fs, g1, g2, g3⟩ := sv_hk_o (ci := 0) hk wz_ty0 tT_11 rfl
    refine ⟨_, rfl, fs, g1, g2, fun j f c hj hc => ?_⟩
    by_cases j10 : j = 10
    · subst j10
      cases hj
      rw [wk_F_of g1, hc] at FA
      cases FA
      exact ⟨A, rfl, xA⟩
    · by_cases j11 : j = 11
      · subst j11
        cases hj
        rw [wk_F_of g1, hc] at FB
        cases FB
        exact ⟨B, rfl, xB⟩
      · have hlt : j < 14 := (List.getElem?_eq_some_iff.mp hj).1
        have key : ∀ j, j < 14 → j ≠ 10 → j ≠ 11 → wz_F11[j]? = tF_11[j]? ∧ (match tF_11[j]? with
          | some f => !((f.1 == 1 || f.1 == 3) && wz_in f.2.2.2)
          | none => false) = true := by
          intro j hj j10 j11
          have q := List.all_eq_true.mp wz_F11_ok j (List.mem_range.mpr hj)
          rw [Bool.or_eq_true, Bool.or_eq_true] at q
          rcases q with q | q | q
          · exact absurd (Nat.eq_of_beq_eq_true q) j10
          · exact absurd (Nat.eq_of_beq_eq_true q) j11
          · rw [Bool.and_eq_true] at q
            exact ⟨wz_bG_ok q.1, q.2⟩
        obtain ⟨q1, q2⟩ := key j hlt j10 j11
        have hj2 : tF_11[j]? = some f := q1.symm.trans hj
        rw [hj2] at q2
        exact wz_fk hAB (g3 j f c hj2 hc) q2
  · by_cases e1' : k = A
    · subst e1'
      have et : t' = 111 := by rw [xA] at ht'; exact (Option.some.inj ht').symm
      subst et
      obtain ⟨fs, g1, g2, g3⟩ := sv_hk_o (ci := 0) hk hA tT_2 rfl
      refine ⟨_, rfl, fs, g1, g2, fun j f c hj hc => ?_⟩
      have hlt : j < 10 := (List.getElem?_eq_some_iff.mp hj).1
      have key : ∀ j, j < 10 → (match wz_F2[j]?, tF_2[j]? with
          | some f, some g => (if j == 3 || j == 9 then f == g && f.1 == 0 else f == ((1, 0, 0, 111 + wz_row j) : sv_ft))
          | _, _ => false) = true := by decide +kernel
      have q := key j hlt
      rw [show wz_F2[j]? = some f from hj] at q
      by_cases j3 : (j == 3 || j == 9) = true
      · cases eg : tF_2[j]? with
        | none => rw [eg] at q; cases q
        | some g =>
          rw [eg] at q
          have q : (if (j == 3 || j == 9) = true then (f == g && f.1 == 0) else _) = true := q
          rw [if_pos j3, Bool.and_eq_true] at q
          have ef : f = g := by simpa using q.1
          subst ef
          exact wz_fk hAB (g3 j f c eg hc) (by have := q.2; simp only [beq_iff_eq] at this; rw [this]; rfl)
      · cases eg : tF_2[j]? with
        | none => rw [eg] at q; cases q
        | some g =>
          rw [eg] at q
          have q : (if (j == 3 || j == 9) = true then _ else f == ((1, 0, 0, 111 + wz_row j) : sv_ft)) = true := q
          rw [if_neg j3] at q
          have ef : f = (1, 0, 0, 111 + wz_row j) := by simpa using q
          subst ef
          have j3' : j ≠ 3 ∧ j ≠ 9 := by simpa using j3
          have o := wz_own_at oA (j := j) (by omega) j3'.1
          rw [wk_F_of g1, hc] at o
          cases o
          refine ⟨_, rfl, ?_⟩
          have rj : 1 ≤ wz_row j ∧ wz_row j ≤ 8 := by unfold wz_row; split <;> omega
          obtain ⟨tr, hr⟩ : ∃ tr, sv_ty (k + wz_row j) = some tr ∧ tr = 39 + wz_row j := by
            have : ∀ r, 1 ≤ r → r ≤ 8 → sv_ty (96 + r) = some (39 + r) ∧ sv_ty (105 + r) = some (39 + r) := by
              intro r a b
              match r, a, b with
              | 1, _, _ => exact ⟨rfl, rfl⟩
              | 2, _, _ => exact ⟨rfl, rfl⟩
              | 3, _, _ => exact ⟨rfl, rfl⟩
              | 4, _, _ => exact ⟨rfl, rfl⟩
              | 5, _, _ => exact ⟨rfl, rfl⟩
              | 6, _, _ => exact ⟨rfl, rfl⟩
              | 7, _, _ => exact ⟨rfl, rfl⟩
              | 8, _, _ => exact ⟨rfl, rfl⟩
            rcases hAB with ⟨ea, -⟩ | ⟨ea, -⟩ <;> subst ea
            · exact ⟨_, (this _ rj.1 rj.2).1, rfl⟩
            · exact ⟨_, (this _ rj.1 rj.2).2, rfl⟩
          unfold wz_tyX
          rw [hr.1]
          show some (if k + wz_row j = 0 then _ else if k + wz_row j = k then _ else if k < k + wz_row j ∧ k + wz_row j ≤ k + 8 then tr + 72 else tr) = _
          rw [if_neg (by omega), if_neg (by omega), if_pos (by omega), hr.2]
          congr 1
          show 39 + wz_row j + 72 = 111 + wz_row j
          omega
    · by_cases e2' : A < k ∧ k ≤ A + 8
      · have et : t' = wz_un t' + 72 := by
          cases e : sv_ty k with
          | none => rw [e] at ht; cases ht
          | some u =>
            unfold wz_tyX at ht'
            rw [e] at ht'
            have ht' : some (if k = 0 then _ else if k = A then _ else if A < k ∧ k ≤ A + 8 then u + 72 else u) = some t' := ht'
            rw [if_neg e0, if_neg e1', if_pos e2'] at ht'
            have := Option.some.inj ht'
            rw [e] at ht
            have := Option.some.inj ht
            omega
        have hu : 40 ≤ wz_un t' ∧ wz_un t' ≤ 47 := by
          obtain ⟨-, -, h3, h4⟩ := wz_ty_k ht
          rcases hAB with ⟨ea, -⟩ | ⟨ea, -⟩ <;> subst ea
          · have := h3 e2'.1 (by omega); omega
          · have := h4 e2'.1 (by omega); omega
        have key : ∀ u, 40 ≤ u → u ≤ 47 → sv_ttX[u + 72]? = sv_tt[u]? ∧ (sv_tt[u]?).map (fun T => T.1) = some 1 := by
          intro u a b
          have q : ∀ u, u < 8 → sv_ttX[u + 40 + 72]? = sv_tt[u + 40]? ∧ (sv_tt[u + 40]?).map (fun T => T.1) = some 1 := by
            intro u hu
            have q := List.all_eq_true.mp wz_rows_ok u (List.mem_range.mpr hu)
            rw [Bool.and_eq_true] at q
            refine ⟨wz_bO_ok q.1, ?_⟩
            have q2 := q.2
            cases hc : sv_tt[u + 40]? with
            | none => rw [hc] at q2; cases q2
            | some T => rw [hc] at q2; show some T.1 = some 1; rw [Nat.eq_of_beq_eq_true (show Nat.beq T.1 1 = true from q2)]
          have := q (u - 40) (by omega)
          rw [show u - 40 + 40 = u by omega] at this
          exact this
        obtain ⟨q1, q2⟩ := key _ hu.1 hu.2
        rw [e1] at q1 q2
        refine ⟨T, by rw [et]; exact q1, ?_⟩
        have q2 : T.1 = 1 := Option.some.inj q2
        unfold sv_ok at e2 ⊢
        rw [q2] at e2 ⊢
        exact e2
      · have et : t' = wz_un t' := by
          cases e : sv_ty k with
          | none => rw [e] at ht; cases ht
          | some u =>
            unfold wz_tyX at ht'
            rw [e] at ht'
            have ht' : some (if k = 0 then _ else if k = A then _ else if A < k ∧ k ≤ A + 8 then _ else u) = some t' := ht'
            rw [if_neg e0, if_neg e1', if_neg e2'] at ht'
            have := Option.some.inj ht'
            rw [e] at ht
            have := Option.some.inj ht
            omega
        rw [← et] at ht e1
        refine ⟨T, up e1, ?_⟩
        by_cases t2 : t' = 2
        · subst t2
          have ek : k = B := by
            have key : ∀ k, k < 174 → sv_tys[k]? = some 2 → k = 96 ∨ k = 105 := by decide +kernel
            have hk174 : k < 174 := by
              have := (List.getElem?_eq_some_iff.mp ht).1
              have e : sv_tys.length = 174 := by decide +kernel
              omega
            have := key k hk174 ht
            rcases hAB with ⟨x, y⟩ | ⟨x, y⟩ <;> omega
          subst ek
          have eT : T = (0, 2, 0, 0, 0, 0, tF_2) := by rw [tT_2] at e1; exact (Option.some.inj e1).symm
          subst eT
          obtain ⟨fs, g1, g2, g3⟩ := sv_hk_o (ci := 0) hk hB tT_2 rfl
          refine ⟨fs, g1, g2, fun j f c hj hc => ?_⟩
          have hlt : j < 10 := (List.getElem?_eq_some_iff.mp hj).1
          have q := List.all_eq_true.mp wz_j2 j (List.mem_range.mpr hlt)
          rw [show tF_2[j]? = some f from hj] at q
          by_cases j3 : (j == 3 || j == 9) = true
          · have q : (if (j == 3 || j == 9) = true then f.1 == 0 else _) = true := q
            rw [if_pos j3] at q
            exact wz_fk hAB (g3 j f c hj hc) (by simp only [beq_iff_eq] at q; rw [q]; rfl)
          · have q : (if (j == 3 || j == 9) = true then _ else f == ((1, 0, 0, 39 + wz_row j) : sv_ft)) = true := q
            rw [if_neg j3] at q
            have ef : f = (1, 0, 0, 39 + wz_row j) := by simpa using q
            subst ef
            have j3' : j ≠ 3 ∧ j ≠ 9 := by simpa using j3
            have o := wz_own_at oB (j := j) (by omega) j3'.1
            obtain ⟨k2, y1, y2⟩ := g3 j _ c hj hc
            rw [wk_F_of g1, hc] at o
            cases o
            cases y1
            refine ⟨_, rfl, ?_⟩
            have rj : 1 ≤ wz_row j ∧ wz_row j ≤ 8 := by unfold wz_row; split <;> omega
            have y2 : sv_ty (k + wz_row j) = some (39 + wz_row j) := y2
            unfold wz_tyX
            rw [y2]
            show some (if k + wz_row j = 0 then _ else if k + wz_row j = A then _ else if A < k + wz_row j ∧ k + wz_row j ≤ A + 8 then _ else 39 + wz_row j) = some (39 + wz_row j)
            rw [if_neg (by omega), if_neg (by rcases hAB with ⟨x, y⟩ | ⟨x, y⟩ <;> omega), if_neg (by rcases hAB with ⟨x, y⟩ | ⟨x, y⟩ <;> omega)]
        · have t11 : t' ≠ 11 := fun z => by
            subst z
            have := (tU_11 ht wz_ty0)
            exact e0 this
          have hlt := (wz_ty_k ht).1
          have q := List.all_eq_true.mp wz_flds t' (List.mem_range.mpr hlt)
          rw [e1] at q
          have q : (t' == 2 || t' == 11 || ((T.2.2.2.2.2.2.all fun f => !((f.1 == 1 || f.1 == 3) && wz_in f.2.2.2)) && !(T.1 == 3 && wz_in T.2.2.2.2.2.1))) = true := q
          rw [beq_false_of_ne t2, beq_false_of_ne t11, Bool.false_or, Bool.false_or, Bool.and_eq_true] at q
          obtain ⟨kd, a, n, lo, hi, m, fts⟩ := T
          match kd, e2, q with
          | 0, ⟨fs, x1, x2, x3⟩, q => exact ⟨fs, x1, x2, fun j f c hj hc => wz_fk hAB (x3 j f c hj hc) (List.all_eq_true.mp q.1 f (List.mem_of_getElem? hj))⟩
          | 1, e2, _ => exact e2
          | 2, e2, _ => exact e2
          | 3, ⟨l, x1, x2, x3⟩, q => exact ⟨l, x1, x2, fun r hr => by
              obtain ⟨k2, y1, y2⟩ := x3 r hr
              exact ⟨k2, y1, wz_plain hAB y2 (by simpa using q.2)⟩⟩
          | n + 4, e2, _ => exact e2.elim

