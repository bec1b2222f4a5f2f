/-! the words, table by table: place = 10000 * table + place in it -/
theorem ae_tu0 {w : Jvm.Cond} (h : w ∈ tables_1) : w ∈ lw_tbl := List.mem_append_right _ h
theorem ae_tu1 {w : Jvm.Cond} (h : w ∈ tables_1_1) : w ∈ lw_tbl := ae_tu0 (List.mem_append_left _ h)
theorem ae_tu2 {w : Jvm.Cond} (h : w ∈ tables_1_2) : w ∈ lw_tbl := ae_tu0 (List.mem_append_right _ (List.mem_append_left _ h))
theorem ae_tu3 {w : Jvm.Cond} (h : w ∈ tables_1_3) : w ∈ lw_tbl := ae_tu0 (List.mem_append_right _ (List.mem_append_right _ (List.mem_append_left _ h)))
theorem ae_tu4 {w : Jvm.Cond} (h : w ∈ tables_1_4) : w ∈ lw_tbl := ae_tu0 (List.mem_append_right _ (List.mem_append_right _ (List.mem_append_right _ (List.mem_append_left _ h))))
theorem ae_tu5 {w : Jvm.Cond} (h : w ∈ tables_1_5) : w ∈ lw_tbl := ae_tu0 (List.mem_append_right _ (List.mem_append_right _ (List.mem_append_right _ (List.mem_append_right _ (List.mem_append_left _ h)))))
theorem ae_tu6 {w : Jvm.Cond} (h : w ∈ tables_1_6) : w ∈ lw_tbl := ae_tu0 (List.mem_append_right _ (List.mem_append_right _ (List.mem_append_right _ (List.mem_append_right _ (List.mem_append_right _ (List.mem_append_left _ h))))))
theorem ae_tu7 {w : Jvm.Cond} (h : w ∈ tables_1_7) : w ∈ lw_tbl := ae_tu0 (List.mem_append_right _ (List.mem_append_right _ (List.mem_append_right _ (List.mem_append_right _ (List.mem_append_right _ (List.mem_append_right _ (List.mem_append_left _ h)))))))
theorem ae_tu8 {w : Jvm.Cond} (h : w ∈ tables_1_8) : w ∈ lw_tbl := ae_tu0 (List.mem_append_right _ (List.mem_append_right _ (List.mem_append_right _ (List.mem_append_right _ (List.mem_append_right _ (List.mem_append_right _ (List.mem_append_right _ (List.mem_append_left _ h))))))))
theorem ae_tu9 {w : Jvm.Cond} (h : w ∈ tables_1_9) : w ∈ lw_tbl := ae_tu0 (List.mem_append_right _ (List.mem_append_right _ (List.mem_append_right _ (List.mem_append_right _ (List.mem_append_right _ (List.mem_append_right _ (List.mem_append_right _ (List.mem_append_right _ (List.mem_append_left _ h)))))))))
theorem ae_tu10 {w : Jvm.Cond} (h : w ∈ tables_1_10) : w ∈ lw_tbl := ae_tu0 (List.mem_append_right _ (List.mem_append_right _ (List.mem_append_right _ (List.mem_append_right _ (List.mem_append_right _ (List.mem_append_right _ (List.mem_append_right _ (List.mem_append_right _ (List.mem_append_right _ (h))))))))))
def ae_wtl (t : Nat) : List Jvm.Cond := match t with
  | 0 => k2_sels lw_privs
  | 1 => tables_1_1
  | 2 => tables_1_2
  | 3 => tables_1_3
  | 4 => tables_1_4
  | 5 => tables_1_5
  | 6 => tables_1_6
  | 7 => tables_1_7
  | 8 => tables_1_8
  | 9 => tables_1_9
  | 10 => tables_1_10
  | _ => []
def ae_wtb (p : Nat) : Option Jvm.Cond := (ae_wtl (p / 10000))[p % 10000]?
theorem ae_wtb_ok {p : Nat} {w : Jvm.Cond} (h : ae_wtb p = some w) : w ∈ lw_tbl := by
  have h1 : w ∈ ae_wtl (p / 10000) := List.mem_of_getElem? h
  generalize p / 10000 = t at h1
  match t, h1 with
  | 0, h => exact List.mem_append_left _ h
  | 1, h => exact ae_tu1 h
  | 2, h => exact ae_tu2 h
  | 3, h => exact ae_tu3 h
  | 4, h => exact ae_tu4 h
  | 5, h => exact ae_tu5 h
  | 6, h => exact ae_tu6 h
  | 7, h => exact ae_tu7 h
  | 8, h => exact ae_tu8 h
  | 9, h => exact ae_tu9 h
  | 10, h => exact ae_tu10 h
  | n + 11, h =>
    have h : w ∈ ([] : List Jvm.Cond) := h
    cases h
/-- the names of the static rows -/
def ae_sn (j : Nat) : String := match j with
  | 0 => "FIRST_HUB"
  | 1 => "MOST_NUMBER"
  | _ => "MOST_BEHIND_DOT"
/-- the texts, by their numbers from 3 on -/
def ae_tx (j : Nat) : String := match j with
  | 3 => "c    a    x    e    u    t    o    z    i    plus minusclearp    s    ka   kb   b    q    m    halt rc   rn   rt   "
  | 4 => "break"
  | 5 => "count"
  | 6 => "field"
  | 7 => "over"
  | _ => "sum"
/-- the word that a link stands for -/
noncomputable def ae_wd (own : Nat) (q : Nat × Nat × Nat × Nat) : Jvm.Cond := match q with
  | (idx, 0, ci, k) => (match ae_cl[ci]? with
    | some (_, T, _) => .fieldLink (ae_on own) idx (T k).1 (T k).2.1 (T k).2.2.1
    | none => .initialized "")
  | (idx, 1, mj, _) => (match ae_m mj with
    | some N => .methodLink (ae_on own) idx N.2.1
    | none => .initialized "")
  | (idx, 2, mj, _) => (match ae_m mj with
    | some N => .methodLinkNest (ae_on own) idx N.2.1 "PlugHall"
    | none => .initialized "")
  | (idx, 3, ci, _) => .classLink (ae_on own) idx (ae_on ci)
  | (idx, 4, n, _) => .constant (ae_on own) idx (nI n)
  | (idx, 5, n, _) => .constantLong (ae_on own) idx (lN n)
  | (idx, 6, _, _) => .methodLink (ae_on own) idx objectInit
  | (idx, 7, _, _) => .methodLink (ae_on own) idx arraycopyName
  | (idx, 8, _, _) => .methodLink (ae_on own) idx Lib.Math.min.name
  | (idx, 9, _, _) => .methodLink (ae_on own) idx Lib.Math.max.name
  | (idx, 10, _, _) => .methodLink (ae_on own) idx Lib.Math.abs.name
  | (idx, 20, j, _) => .fieldLink (ae_on own) idx "PlugHall$Board" (ae_sn j) "[I"
  | (idx, 21, j, _) => .stringRef (ae_on own) idx (ae_tx j)
  | (idx, 22, _, _) => .methodLink (ae_on own) idx yJ0_length_8abf5
  | (idx, _, _, _) => .methodLink (ae_on own) idx yJ0_charAt_5068e
noncomputable def ae_sd (q : Nat × Nat × Nat × Nat) : Bool := match q with
  | (_, 0, ci, k) => (match ae_cl[ci]? with
    | some (_, _, N) => Nat.blt k N
    | none => false)
  | (_, 1, mj, _) => (ae_m mj).isSome
  | (_, 2, mj, _) => (match ae_m mj with
    | some N => Nat.beq N.2.2.2.2.2.1 2
    | none => false)
  | (_, 3, ci, _) => Nat.blt ci 13
  | (_, 4, n, _) => Nat.blt n 4294967296
  | (_, 5, n, _) => Nat.blt n 18446744073709551616
  | (_, 6, _, _) => true
  | (_, 20, j, _) => Nat.blt j 3
  | (_, 21, j, _) => and (Nat.ble 3 j) (Nat.blt j 9)
  | (_, k, _, _) => or (Nat.ble k 10) (or (Nat.beq k 22) (Nat.beq k 23))
noncomputable def ae_chk (own : Nat) (L : List (Nat × Nat × Nat × Nat)) (P : List Nat) : Bool := Nat.beq L.length P.length && (L.zip P).all fun x => decide (ae_wtb (x.2) = some (ae_wd own x.1)) && ae_sd x.1
theorem ae_chk_ok {own : Nat} {L : List (Nat × Nat × Nat × Nat)} {P : List Nat} (h : ae_chk own L P = true) : ∀ q ∈ L, ae_wd own q ∈ lw_tbl ∧ ae_sd q = true := by
  unfold ae_chk at h
  rw [Bool.and_eq_true] at h
  have hl := Nat.eq_of_beq_eq_true h.1
  intro q hq
  obtain ⟨i, hi⟩ := List.getElem?_of_mem hq
  have hil : i < L.length := (List.getElem?_eq_some_iff.mp hi).1
  obtain ⟨p, hp⟩ : ∃ p, P[i]? = some p := ⟨_, List.getElem?_eq_getElem (by omega)⟩
  have hz : (L.zip P)[i]? = some (q, p) := by rw [List.getElem?_zip_eq_some]; exact ⟨hi, hp⟩
  have h2 := List.all_eq_true.mp h.2 _ (List.mem_of_getElem? hz)
  rw [Bool.and_eq_true] at h2
  exact ⟨ae_wtb_ok (of_decide_eq_true h2.1), h2.2⟩

theorem ae_k0 : ae_chk 0 ae_cp0 ae_ps0 = true := by decide +kernel
theorem ae_k1 : ae_chk 1 ae_cp1 ae_ps1 = true := by decide +kernel
theorem ae_k2 : ae_chk 2 ae_cp2 ae_ps2 = true := by decide +kernel
theorem ae_k3 : ae_chk 3 ae_cp3 ae_ps3 = true := by decide +kernel
theorem ae_k4 : ae_chk 4 ae_cp4 ae_ps4 = true := by decide +kernel
theorem ae_k5 : ae_chk 5 ae_cp5 ae_ps5 = true := by decide +kernel
theorem ae_k6 : ae_chk 6 ae_cp6 ae_ps6 = true := by decide +kernel
theorem ae_k7 : ae_chk 7 ae_cp7 ae_ps7 = true := by decide +kernel
theorem ae_k8 : ae_chk 8 ae_cp8 ae_ps8 = true := by decide +kernel
theorem ae_k9 : ae_chk 9 ae_cp9 ae_ps9 = true := by decide +kernel
theorem ae_k10 : ae_chk 10 ae_cp10 ae_ps10 = true := by decide +kernel
theorem ae_k11 : ae_chk 11 ae_cp11 ae_ps11 = true := by decide +kernel
theorem ae_k12 : ae_chk 12 ae_cp12 ae_ps12 = true := by decide +kernel
theorem ae_k13 : ae_chk 13 ae_cp13 ae_ps13 = true := by decide +kernel
theorem ae_k14 : ae_chk 14 ae_cp14 ae_ps14 = true := by decide +kernel
theorem ae_k15 : ae_chk 15 ae_cp15 ae_ps15 = true := by decide +kernel
theorem ae_k16 : ae_chk 16 ae_cp16 ae_ps16 = true := by decide +kernel
theorem ae_k17 : ae_chk 17 ae_cp17 ae_ps17 = true := by decide +kernel
theorem ae_cps_ok : ∀ (own : Nat) (l : List (Nat × Nat × Nat × Nat)), ae_cps[own]? = some l → ∀ q ∈ l, ae_wd own q ∈ lw_tbl ∧ ae_sd q = true := by
  intro own l h
  match own, h with
  | 0, h => cases h; exact ae_chk_ok ae_k0
  | 1, h => cases h; exact ae_chk_ok ae_k1
  | 2, h => cases h; exact ae_chk_ok ae_k2
  | 3, h => cases h; exact ae_chk_ok ae_k3
  | 4, h => cases h; exact ae_chk_ok ae_k4
  | 5, h => cases h; exact ae_chk_ok ae_k5
  | 6, h => cases h; exact ae_chk_ok ae_k6
  | 7, h => cases h; exact ae_chk_ok ae_k7
  | 8, h => cases h; exact ae_chk_ok ae_k8
  | 9, h => cases h; exact ae_chk_ok ae_k9
  | 10, h => cases h; exact ae_chk_ok ae_k10
  | 11, h => cases h; exact ae_chk_ok ae_k11
  | 12, h => cases h; exact ae_chk_ok ae_k12
  | 13, h => cases h; exact ae_chk_ok ae_k13
  | 14, h => cases h; exact ae_chk_ok ae_k14
  | 15, h => cases h; exact ae_chk_ok ae_k15
  | 16, h => cases h; exact ae_chk_ok ae_k16
  | 17, h => cases h; exact ae_chk_ok ae_k17
  | n + 18, h => simp [ae_cps] at h
theorem ae_cp_ok {own idx : Nat} {v : Nat × Nat × Nat} (h : ae_cp own idx = some v) : ae_wd own (idx, v) ∈ lw_tbl ∧ ae_sd (idx, v) = true := by
  unfold ae_cp at h
  rw [ae_nth_eq] at h
  cases hl : ae_cps[own]? with
  | none => rw [hl] at h; cases h
  | some l =>
    rw [hl] at h
    exact ae_cps_ok own l hl _ (ae_lk_mem h)
/-- what must hold of a method of the table -/
noncomputable def ae_mc (M : ae_M) (q : Nat × Nat × Nat × Nat) : Bool :=
  (decide (ae_wtb (q.2.1) = some (.initialized M.2.1.cls)) && ((match M.2.2.2.2.2.1 with
  | 0 => decide (ae_wtb (q.2.2.1) = some (.static M.2.1))
  | 1 => decide (ae_wtb (q.2.2.1) = some (.instanceMethod M.2.1)) && decide (ae_wtb (q.2.2.2) = some (.selects M.2.1.cls M.2.1 M.2.1))
  | 2 => decide (ae_wtb (q.2.2.1) = some (.instanceMethod M.2.1)) && (decide (M.2.1.name = "<init>") && decide (M.2.2.2.2.1 = none))
  | _ => false) && (plainFor M.2.1 && (decide (M.2.1.cls = ae_on M.1) && (decide ((parseMethodDescriptor M.2.1.desc).map (fun d => d.parameters.length) = some M.2.2.2.2.2.2.1) && (decide (M.2.1.cls ≠ "java/lang/invoke/MethodHandle") && decide (M.2.1.cls ≠ "java/lang/invoke/VarHandle")))))))
noncomputable def ae_mchk (L : List ae_M) (P : List (Nat × Nat × Nat × Nat)) : Bool := Nat.beq L.length P.length && (L.zip P).all fun x => ae_mc x.1 x.2
theorem ae_mchk_ok {L : List ae_M} {P : List (Nat × Nat × Nat × Nat)} (h : ae_mchk L P = true) : ∀ M ∈ L, ∃ q, ae_mc M q = true := by
  unfold ae_mchk at h
  rw [Bool.and_eq_true] at h
  have hl := Nat.eq_of_beq_eq_true h.1
  intro q hq
  obtain ⟨i, hi⟩ := List.getElem?_of_mem hq
  have hil : i < L.length := (List.getElem?_eq_some_iff.mp hi).1
  obtain ⟨p, hp⟩ : ∃ p, P[i]? = some p := ⟨_, List.getElem?_eq_getElem (by omega)⟩
  have hz : (L.zip P)[i]? = some (q, p) := by rw [List.getElem?_zip_eq_some]; exact ⟨hi, hp⟩
  exact ⟨p, List.all_eq_true.mp h.2 _ (List.mem_of_getElem? hz)⟩
theorem ae_mk0 : ae_mchk ae_ml0 ae_mp0 = true := by decide +kernel
theorem ae_mk1 : ae_mchk ae_ml1 ae_mp1 = true := by decide +kernel
theorem ae_mk2 : ae_mchk ae_ml2 ae_mp2 = true := by decide +kernel
theorem ae_mk3 : ae_mchk ae_ml3 ae_mp3 = true := by decide +kernel
theorem ae_mk4 : ae_mchk ae_ml4 ae_mp4 = true := by decide +kernel
theorem ae_mk5 : ae_mchk ae_ml5 ae_mp5 = true := by decide +kernel
theorem ae_mk6 : ae_mchk ae_ml6 ae_mp6 = true := by decide +kernel
theorem ae_mk7 : ae_mchk ae_ml7 ae_mp7 = true := by decide +kernel
theorem ae_mls_ok : ∀ (k : Nat) (l : List ae_M), ae_mls[k]? = some l → ∀ M ∈ l, ∃ q, ae_mc M q = true := by
  intro k l h
  match k, h with
  | 0, h => cases h; exact ae_mchk_ok ae_mk0
  | 1, h => cases h; exact ae_mchk_ok ae_mk1
  | 2, h => cases h; exact ae_mchk_ok ae_mk2
  | 3, h => cases h; exact ae_mchk_ok ae_mk3
  | 4, h => cases h; exact ae_mchk_ok ae_mk4
  | 5, h => cases h; exact ae_mchk_ok ae_mk5
  | 6, h => cases h; exact ae_mchk_ok ae_mk6
  | 7, h => cases h; exact ae_mchk_ok ae_mk7
  | n + 8, h => simp [ae_mls] at h
theorem ae_m_ok {mi : Nat} {M : ae_M} (h : ae_m mi = some M) : ∃ q, ae_mc M q = true := by
  unfold ae_m at h
  rw [ae_nth_eq] at h
  cases hl : ae_mls[Nat.div mi 40]? with
  | none => rw [hl] at h; cases h
  | some l =>
    rw [hl] at h
    have h : ae_nth l (Nat.mod mi 40) = some M := h
    rw [ae_nth_eq] at h
    exact ae_mls_ok _ l hl M (List.mem_of_getElem? h)
