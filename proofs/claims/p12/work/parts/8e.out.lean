/-! WHAT STANDS OUTSIDE, AT THE LAW'S START (printed by wip/p2/law/g8e.py) -/
def le_own (i : Nat) : String := match i with
  | 0 => "PlugHall$Board"
  | _ => "PlugHall$Job"
def le_idx (i : Nat) : Nat := match i with
  | 0 => 96
  | 1 => 79
  | 2 => 89
  | 3 => 70
  | 4 => 101
  | _ => 84
def le_tm (i : Nat) : Jvm.Term := .string (le_own i) (le_idx i)
def le_va (i : Nat) : Jvm.Term := .field (le_tm i) "java/lang/String" "value" "[B"
def le_N : List Jvm.Cond := flatC (Jvm.Cond.and given_1 narrow_1)
def le_len : List Nat := (ae_exs.drop 3).map List.length
def le_byt : List (List Int32) := (ae_exs.drop 3).map (List.map nI)
def le_st (j : Nat) : Jvm.Term := .static "PlugHall$Board" (ae_sn j) "[I"
theorem le_r1 : (List.range 3).all (fun j => and (decide (Jvm.Cond.arrayOf (le_st j) .int ∈ le_N)) (and (decide (Jvm.Cond.eq (.length (le_st j)) (.int (Int32.ofNat (ae_xr9 j).length)) ∈ le_N)) (and (decide (Jvm.Cond.laysStatic "PlugHall$Board" (ae_sn j) "[I" ∈ lw_tbl)) (decide ((ae_xr9 j).length < 1000))))) = true := by decide +kernel
theorem le_r2 : (List.range 3).all (fun j => (List.range (ae_xr9 j).length).all (fun i => decide (Jvm.Cond.eq (.elem (le_st j) (.int (Int32.ofNat i))) (.int (nI ((ae_xr9 j).getD i 0))) ∈ le_N))) = true := by decide +kernel
theorem le_t1 : (List.range 6).all (fun i => and (decide (Jvm.Cond.exactly (le_tm i) "java/lang/String" ∈ le_N)) (and (decide (Jvm.Cond.eq (.field (le_tm i) "java/lang/String" "coder" "B") (.int 0) ∈ le_N)) (and (decide (Jvm.Cond.arrayOf (le_va i) .byte ∈ le_N)) (and (decide (Jvm.Cond.eq (.length (le_va i)) (.int (Int32.ofNat (le_len.getD i 0))) ∈ le_N)) (decide (le_len.getD i 0 < 1000)))))) = true := by decide +kernel
noncomputable def le_zc (l e : List Jvm.Cond) : Bool := List.rec (motive := fun _ => List Jvm.Cond → Bool) (fun _ => true) (fun b _ ih l => match l with
  | a :: l => and (decide (a = b)) (ih l)
  | [] => false) e l
theorem le_zc_ok : ∀ {e l : List Jvm.Cond}, le_zc l e = true → ∀ w ∈ e, w ∈ l
  | [], l, _, w, hw => by cases hw
  | b :: e, [], h, w, hw => by cases h
  | b :: e, a :: l, h, w, hw => by
    obtain ⟨h1, h2⟩ := ae_band (show and (decide (a = b)) (le_zc l e) = true from h)
    rcases List.mem_cons.mp hw with q | q
    · subst q; rw [of_decide_eq_true h1]; exact List.mem_cons_self
    · exact List.mem_cons_of_mem _ (le_zc_ok h2 w q)
def le_el (i : Nat) : List Jvm.Cond := (List.range (le_len.getD i 0)).map (fun j => Jvm.Cond.eq (.elem (le_va i) (.int (Int32.ofNat j))) (.int ((le_byt.getD i []).getD j 0)))
theorem le_e0 : le_zc (le_N.drop 107) (le_el 0) = true := by decide +kernel
theorem le_e1 : le_zc (le_N.drop 236) (le_el 1) = true := by decide +kernel
theorem le_e2 : le_zc (le_N.drop 257) (le_el 2) = true := by decide +kernel
theorem le_e3 : le_zc (le_N.drop 226) (le_el 3) = true := by decide +kernel
theorem le_e4 : le_zc (le_N.drop 270) (le_el 4) = true := by decide +kernel
theorem le_e5 : le_zc (le_N.drop 247) (le_el 5) = true := by decide +kernel
theorem le_t2 {i j : Nat} (hi : i < 6) (hj : j < le_len.getD i 0) : Jvm.Cond.eq (.elem (le_va i) (.int (Int32.ofNat j))) (.int ((le_byt.getD i []).getD j 0)) ∈ le_N := by
  have hm : Jvm.Cond.eq (.elem (le_va i) (.int (Int32.ofNat j))) (.int ((le_byt.getD i []).getD j 0)) ∈ le_el i := List.mem_map.mpr ⟨j, List.mem_range.mpr hj, rfl⟩
  match i, hi, hm with
  | 0, _, hm => exact List.mem_of_mem_drop (le_zc_ok le_e0 _ hm)
  | 1, _, hm => exact List.mem_of_mem_drop (le_zc_ok le_e1 _ hm)
  | 2, _, hm => exact List.mem_of_mem_drop (le_zc_ok le_e2 _ hm)
  | 3, _, hm => exact List.mem_of_mem_drop (le_zc_ok le_e3 _ hm)
  | 4, _, hm => exact List.mem_of_mem_drop (le_zc_ok le_e4 _ hm)
  | 5, _, hm => exact List.mem_of_mem_drop (le_zc_ok le_e5 _ hm)
  | i + 6, h, _ => omega
def le_pn : List (Nat × Nat × Nat) := [(0, 3, 231), (0, 1, 241), (3, 1, 242), (0, 5, 250), (3, 5, 251), (1, 5, 252), (0, 2, 262), (3, 2, 263), (1, 2, 264), (5, 2, 265), (0, 4, 274), (3, 4, 275), (1, 4, 276), (5, 4, 277), (2, 4, 278)]
theorem le_p1 : le_pn.all (fun q => decide (le_N[q.2.2]? = some (Jvm.Cond.not (Jvm.Cond.eq (le_tm q.1) (le_tm q.2.1))))) = true := by decide +kernel
theorem le_p2 : (List.range 6).all (fun i => (List.range 6).all (fun j => or (Nat.beq i j) (le_pn.any (fun q => or (and (Nat.beq q.1 i) (Nat.beq q.2.1 j)) (and (Nat.beq q.1 j) (Nat.beq q.2.1 i)))))) = true := by decide +kernel
theorem le_t3 {i j : Nat} (hi : (List.range 6).all (fun j => or (Nat.beq i j) (le_pn.any (fun q => or (and (Nat.beq q.1 i) (Nat.beq q.2.1 j)) (and (Nat.beq q.1 j) (Nat.beq q.2.1 i))))) = true) (hj : j < 6) (hij : i ≠ j) : Jvm.Cond.not (Jvm.Cond.eq (le_tm i) (le_tm j)) ∈ le_N ∨ Jvm.Cond.not (Jvm.Cond.eq (le_tm j) (le_tm i)) ∈ le_N := by
  have q := List.all_eq_true.mp hi j (List.mem_range.mpr hj)
  have hb : Nat.beq i j = false := by
    cases hb : Nat.beq i j with
    | false => rfl
    | true => exact absurd (Nat.eq_of_beq_eq_true hb) hij
  rw [hb, Bool.false_or] at q
  obtain ⟨x, hx, hq⟩ := List.any_eq_true.mp q
  have h1 := List.mem_of_getElem? (of_decide_eq_true (List.all_eq_true.mp le_p1 x hx))
  rw [Bool.or_eq_true] at hq
  rcases hq with hq | hq
  · obtain ⟨e1, e2⟩ := ae_band hq
    rw [ae_beq e1, ae_beq e2] at h1
    exact Or.inl h1
  · obtain ⟨e1, e2⟩ := ae_band hq
    rw [ae_beq e1, ae_beq e2] at h1
    exact Or.inr h1
theorem le_c1 : (List.range 18).all (fun own => (ae_cps.getD own []).all (fun q => or (!(Nat.beq q.2.1 21)) (and (decide (ae_on own = le_own (q.2.2.1 - 3))) (Nat.beq q.1 (le_idx (q.2.2.1 - 3)))))) = true := by decide +kernel
theorem le_bi : Jvm.Cond.initialized "PlugHall$Board" ∈ lw_tbl := by decide +kernel
theorem le_s1 : Jvm.Cond.laysStatic "java/lang/String" "COMPACT_STRINGS" "Z" ∈ lw_tbl := by decide +kernel
theorem le_s2 : Jvm.Cond.initialized "java/lang/String" ∈ lw_tbl := by decide +kernel
theorem le_s3 : Jvm.Cond.eq (.static "java/lang/String" "COMPACT_STRINGS" "Z") (.int 1) ∈ le_N := by decide +kernel
theorem le_f1 : Jvm.Cond.laysStatic "jdk/internal/util/Preconditions" "SIOOBE_FORMATTER" "Ljava/util/function/BiFunction;" ∈ lw_tbl := by decide +kernel
theorem le_f2 : Jvm.Cond.initialized "jdk/internal/util/Preconditions" ∈ lw_tbl := by decide +kernel
theorem le_f3 : Jvm.Cond.isRef (.static "jdk/internal/util/Preconditions" "SIOOBE_FORMATTER" "Ljava/util/function/BiFunction;") ∈ le_N := by decide +kernel
theorem le_rg {n : Nat} {f : Nat → Bool} (h : (List.range n).all f = true) {i : Nat} (hi : i < n) : f i = true := List.all_eq_true.mp h i (List.mem_range.mpr hi)
/-- the numbers of classes, and from 256 on what stands outside -/
def le_kA (k0 : Nat → ClassId) (r : Nat → Nat) (t : Nat → Nat) (k : Nat) : Nat := match Nat.ble 256 k, Nat.ble 259 k with
  | false, _ => k0 k
  | true, false => r (k - 256)
  | true, true => t (k - 259)
theorem le_cpo {own idx j z : Nat} (h : ae_cp own idx = some (21, j, z)) : ae_on own = le_own (j - 3) ∧ idx = le_idx (j - 3) := by
  unfold ae_cp at h
  rw [ae_nth_eq] at h
  cases hl : ae_cps[own]? with
  | none => rw [hl] at h; cases h
  | some l =>
    rw [hl] at h
    have hlt : own < 18 := (List.getElem?_eq_some_iff.mp hl).1
    have hq := List.all_eq_true.mp (le_rg le_c1 hlt) (idx, 21, j, z) (by rw [List.getD_eq_getElem?_getD, hl]; exact ae_lk_mem h)
    have hq : or (!(Nat.beq 21 21)) (and (decide (ae_on own = le_own (j - 3))) (Nat.beq idx (le_idx (j - 3)))) = true := hq
    rw [Nat.beq_refl] at hq
    obtain ⟨q1, q2⟩ := ae_band (show and (decide (ae_on own = le_own (j - 3))) (Nat.beq idx (le_idx (j - 3))) = true from hq)
    exact ⟨of_decide_eq_true q1, ae_beq q2⟩
theorem le_EX {s : State} {args : Array Value} (hts : ∀ w ∈ lw_tbl, w.before args s = true) (hnar : ∀ w ∈ le_N, w.before args s = true) (k0 : Nat → ClassId) : ∃ r t : Nat → Nat, ae_EX (le_kA k0 r t) (fun q => s.heap.size ≤ q) s s.heap := by
  have hA : ∀ a : Nat, a < s.heap.size → ¬ (s.heap.size ≤ a) := fun a h => Nat.not_le.mpr h
  have hrow : ∀ j, ∃ t : Nat, j < 3 → va_Z "PlugHall$Board" (ae_sn j) "[I" (.ref t) (fun q => s.heap.size ≤ q) s s.heap ∧ va_T .int t (ae_xr9 j).length (fun i => .int (nI ((ae_xr9 j).getD i 0))) (fun q => s.heap.size ≤ q) s s.heap := by
    intro j
    by_cases hj : j < 3
    · obtain ⟨q1, q⟩ := ae_band (le_rg le_r1 hj)
      obtain ⟨q2, q⟩ := ae_band q
      obtain ⟨q3, q4⟩ := ae_band q
      have q4 := of_decide_eq_true q4
      obtain ⟨t, ht, hT⟩ := va_Tof (f := fun i => .int (nI ((ae_xr9 j).getD i 0))) (A := fun q => s.heap.size ≤ q) (by omega) (hnar _ (of_decide_eq_true q1)) (va_eqt (hnar _ (of_decide_eq_true q2))) (fun i hi => va_eqt (hnar _ (of_decide_eq_true (le_rg (le_rg le_r2 hj) hi)))) hA
      exact ⟨t, fun _ => ⟨va_Zref (hts _ (of_decide_eq_true q3)) (hts _ le_bi) ht hA, hT⟩⟩
    · exact ⟨0, fun h => absurd h hj⟩
  obtain ⟨r, hr⟩ := Classical.axiomOfChoice hrow
  have h1 : ∀ i, i < 6 → _ := fun i hi => ae_band (le_rg le_t1 hi)
  obtain ⟨adK, adV, hV, hK⟩ := vk_Sof (args := args) (s := s) (N := 6) (tm := le_tm) (len := le_len) (byt := le_byt) (A := fun q => s.heap.size ≤ q)
    (fun i hi => by
      have := of_decide_eq_true (ae_band (ae_band (ae_band (h1 i hi).2).2).2).2
      omega)
    (fun i hi => hnar _ (of_decide_eq_true (h1 i hi).1))
    (fun i hi => hnar _ (of_decide_eq_true (ae_band (h1 i hi).2).1))
    (fun i hi => hnar _ (of_decide_eq_true (ae_band (ae_band (h1 i hi).2).2).1))
    (fun i hi => hnar _ (of_decide_eq_true (ae_band (ae_band (ae_band (h1 i hi).2).2).2).1))
    (fun i hi j hj => hnar _ (le_t2 hi hj))
    (fun i j hi hj hij => by
      rcases le_t3 (le_rg le_p2 hi) hj hij with q | q
      · exact Or.inl (hnar _ q)
      · exact Or.inr (hnar _ q)) hA
  refine ⟨r, adK, fun j hj => ?_, fun own idx j z hc => ?_, ⟨adV, ?_⟩, va_Zof (hts _ le_s1) (hts _ le_s2) (va_eqi (hnar _ le_s3)) hA, ?_⟩
  · have e : le_kA k0 r adK (256 + j) = r j := by
      unfold le_kA
      rw [show Nat.ble 256 (256 + j) = true from Nat.ble_eq_true_of_le (by omega), show Nat.ble 259 (256 + j) = false by
        cases hb : Nat.ble 259 (256 + j) with
        | false => rfl
        | true => have := Nat.le_of_ble_eq_true hb; omega]
      show r (256 + j - 256) = r j
      rw [Nat.add_sub_cancel_left]
    rw [e]
    exact hr j hj
  · obtain ⟨hw, hsd⟩ := ae_cp_ok hc
    have hsd : and (Nat.ble 3 j) (Nat.blt j 9) = true := hsd
    obtain ⟨q1, q2⟩ := ae_band hsd
    have q1 := ae_ble q1
    have q2 := ae_blt q2
    have hw : Jvm.Cond.stringRef (ae_on own) idx (ae_tx j) ∈ lw_tbl := hw
    obtain ⟨e1, e2⟩ := le_cpo hc
    have e : le_kA k0 r adK (256 + j) = adK (j - 3) := by
      unfold le_kA
      rw [show Nat.ble 256 (256 + j) = true from Nat.ble_eq_true_of_le (by omega), show Nat.ble 259 (256 + j) = true from Nat.ble_eq_true_of_le (by omega)]
      show adK (256 + j - 259) = adK (j - 3)
      rw [show 256 + j - 259 = j - 3 by omega]
    rw [e]
    refine ⟨ae_tx j, vk_R.of (hts _ hw) ?_⟩
    rw [e1, e2]
    exact hK (j - 3) (by omega)
  · have e : (fun i => le_kA k0 r adK (259 + i)) = adK := by
      funext i
      unfold le_kA
      rw [show Nat.ble 256 (259 + i) = true from Nat.ble_eq_true_of_le (by omega), show Nat.ble 259 (259 + i) = true from Nat.ble_eq_true_of_le (by omega)]
      show adK (259 + i - 259) = adK i
      rw [Nat.add_sub_cancel_left]
    rw [e]
    exact hV
  · rcases va_Zqof (hts _ le_f1) (hts _ le_f2) (hnar _ le_f3) hA with q | ⟨t, q⟩
    · exact ⟨.null, Or.inl rfl, q⟩
    · exact ⟨.ref t, Or.inr ⟨t, rfl⟩, q⟩
