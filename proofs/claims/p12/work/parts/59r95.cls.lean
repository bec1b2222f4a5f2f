/-- the words that a callee may have of its caller -/
def ae_gw : List Jvm.Cond := lw_tbl.filter goodWord
theorem ae_gw_in {w : Jvm.Cond} (h : w ∈ lw_tbl) (g : goodWord w = true) : w ∈ ae_gw := List.mem_filter.mpr ⟨h, g⟩
theorem ae_gw_tbl {w : Jvm.Cond} (h : w ∈ ae_gw) : w ∈ lw_tbl := (List.mem_filter.mp h).1
theorem ae_gw_good {w : Jvm.Cond} (h : w ∈ ae_gw) : goodWord w = true := (List.mem_filter.mp h).2
def ae_ws (M : ae_M) : List Jvm.Cond := ae_cwd M :: ae_gw
/-- a field's kind and its type -/
def ae_kb (fk : Nat) (ty : FieldType) (fin : Bool) : Bool := (fin == Nat.ble 10 fk) && (match (cond (Nat.ble 10 fk) (Nat.sub fk 10) fk), ty with
  | 0, .int => true
  | 1, .boolean => true
  | 2, .byte => true
  | 3, .long => true
  | 4, .object _ => true
  | 4, .array _ => true
  | _, _ => false)
/-- what a new field holds -/
def ae_dv (ty : FieldType) : ae_V := match ty with
  | .long => .inr (.inl 0)
  | .object _ => .inr (.inr none)
  | .array _ => .inr (.inr none)
  | _ => .inl (.inl 0)
def ae_CK (ci : Nat) (C : String) (T : u_T) (N : Nat) (ty : Nat → FieldType) : Prop :=
  (∀ w ∈ u_ws C T N, w ∈ ae_gw) ∧ (∀ k, k < N → parseFieldDescriptor (T k).2.2.1 = some (ty k)) ∧ (∀ a, a < N → ∀ b, b < N → a ≠ b → (T a).2.1 ≠ (T b).2.1) ∧ Jvm.Cond.instantiable C N ∈ ae_gw ∧ Jvm.Cond.initialized C ∈ ae_gw ∧ C = ae_on ci ∧
  (∀ k, k < N → (T k).1 = C ∧ ∃ fk, ae_fk ci k = some fk ∧ ae_kb fk (ty k) (T k).2.2.2 = true) ∧ ae_nf ci = some ((List.range N).map (fun k => ae_dv (ty k)))
noncomputable def ae_ck (ci : Nat) (C : String) (T : u_T) (N : Nat) (ty : Nat → FieldType) (P : List Nat) (p1 p2 : Nat) : Bool :=
  Nat.beq P.length N && (((List.range N).zip P).all (fun x => decide (ae_wtb (x.2) = some (u_lay C T x.1)) && goodWord (u_lay C T x.1)) && (decide (ae_wtb (p1) = some (.instantiable C N)) && (goodWord (.instantiable C N) && (decide (ae_wtb (p2) = some (.initialized C)) && (goodWord (.initialized C) && (decide (C = ae_on ci) && ((List.range N).all (fun k => decide ((T k).1 = C) && (match ae_fk ci k with
  | some fk => ae_kb fk (ty k) (T k).2.2.2
  | none => false)) && decide (ae_nf ci = some ((List.range N).map (fun k => ae_dv (ty k)))))))))))
theorem ae_ck_ok {ci : Nat} {C : String} {T : u_T} {N : Nat} {ty : Nat → FieldType} {P : List Nat} {p1 p2 : Nat} (h : ae_ck ci C T N ty P p1 p2 = true) (h1 : ∀ k, k < N → parseFieldDescriptor (T k).2.2.1 = some (ty k)) (h2 : ∀ a, a < N → ∀ b, b < N → a ≠ b → (T a).2.1 ≠ (T b).2.1) : ae_CK ci C T N ty := by
  unfold ae_ck at h
  simp only [Bool.and_eq_true] at h
  obtain ⟨g1, g2, g3, g4, g5, g6, g7, g8, g9⟩ := h
  have hl := Nat.eq_of_beq_eq_true g1
  refine ⟨fun w hw => ?_, h1, h2, ae_gw_in (ae_wtb_ok (of_decide_eq_true g3)) g4, ae_gw_in (ae_wtb_ok (of_decide_eq_true g5)) g6, of_decide_eq_true g7, fun k hk => ?_, of_decide_eq_true g9⟩
  · obtain ⟨k, hk, rfl⟩ := List.mem_map.mp hw
    have hk2 := List.mem_range.mp hk
    obtain ⟨p, hp⟩ : ∃ p, P[k]? = some p := ⟨_, List.getElem?_eq_getElem (by omega)⟩
    have hz : ((List.range N).zip P)[k]? = some (k, p) := by rw [List.getElem?_zip_eq_some]; exact ⟨by simp [hk2], hp⟩
    have h3 := List.all_eq_true.mp g2 _ (List.mem_of_getElem? hz)
    rw [Bool.and_eq_true] at h3
    exact ae_gw_in (ae_wtb_ok (of_decide_eq_true h3.1)) h3.2
  · have h3 := List.all_eq_true.mp g8 k (List.mem_range.mpr hk)
    rw [Bool.and_eq_true] at h3
    refine ⟨of_decide_eq_true h3.1, ?_⟩
    have h4 := h3.2
    cases hf : ae_fk ci k with
    | none => rw [hf] at h4; cases h4
    | some fk => rw [hf] at h4; exact ⟨fk, rfl, h4⟩
theorem ae_ck0 : ae_ck 0 RX0 TX0 3 tyX0 [20150, 20152, 20154] 20133 10010 = true := by decide +kernel
theorem ae_ck1 : ae_ck 1 RX1 TX1 8 tyX1 [10109, 10111, 10113, 10115, 10117, 10119, 10121, 10123] 10089 10003 = true := by decide +kernel
theorem ae_ck2 : ae_ck 2 RX2 TX2 10 tyX2 [30029, 30031, 30033, 30035, 30037, 30039, 30041, 30043, 30045, 30047] 30005 10012 = true := by decide +kernel
theorem ae_ck3 : ae_ck 3 RX3 TX3 15 tyX3 [20034, 20036, 20038, 20040, 20042, 20044, 20046, 20048, 20050, 20052, 20054, 20056, 20058, 20060, 20062] 10198 10006 = true := by decide +kernel
theorem ae_ck4 : ae_ck 4 RX4 TX4 14 tyX4 [10230, 10232, 10234, 10236, 10238, 20000, 20002, 20004, 20006, 20008, 20010, 20012, 20014, 20016] 10204 10007 = true := by decide +kernel
theorem ae_ck5 : ae_ck 5 RX5 TX5 10 tyX5 [10176, 10178, 10180, 10182, 10184, 10186, 10188, 10190, 10192, 10194] 10128 10004 = true := by decide +kernel
theorem ae_ck6 : ae_ck 6 RX6 TX6 12 tyX6 [20172, 20174, 20176, 20178, 20180, 20182, 20184, 20186, 20188, 20190, 20192, 20194] 20127 10009 = true := by decide +kernel
theorem ae_ck7 : ae_ck 7 RX7 TX7 2 tyX7 [10144, 10146] 10134 10005 = true := by decide +kernel
theorem ae_ck8 : ae_ck 8 RX8 TX8 10 tyX8 [20219, 20221, 20223, 20225, 20227, 20229, 20231, 20233, 20235, 20237] 20198 10011 = true := by decide +kernel
theorem ae_ck9 : ae_ck 9 RX9 TX9 10 tyX9 [10066, 10068, 10070, 10072, 10074, 10076, 10078, 10080, 10082, 10084] 10036 10002 = true := by decide +kernel
theorem ae_ck10 : ae_ck 10 RX10 TX10 14 tyX10 [20096, 20098, 20100, 20102, 20104, 20106, 20108, 20110, 20112, 20114, 20116, 20118, 20120, 20122] 20066 10008 = true := by decide +kernel
theorem ae_ck11 : ae_ck 11 RX11 TX11 14 tyX11 [30064, 30066, 30068, 30070, 30072, 30074, 30076, 30078, 30080, 30082, 30084, 30086, 30088, 30090] 10028 10001 = true := by decide +kernel
theorem ae_ck12 : ae_ck 12 RX12 TX12 92 tyX12 [70116, 70118, 70120, 70122, 70124, 70126, 70128, 70130, 70132, 70134, 70136, 70138, 70140, 70142, 70144, 70146, 70148, 70150, 70152, 70154, 70156, 70158, 70160, 70162, 70164, 70166, 70168, 70170, 70172, 70174, 70176, 70178, 70180, 70182, 70184, 70186, 70188, 70190, 70192, 70194, 70196, 70198, 70200, 70202, 70204, 70206, 70208, 70210, 70212, 70214, 70216, 70218, 70220, 70222, 70224, 70226, 70228, 70230, 70232, 70234, 70236, 70238, 80000, 80002, 80004, 80006, 80008, 80010, 80012, 80014, 80016, 80018, 80020, 80022, 80024, 80026, 80028, 80030, 80032, 80034, 80036, 80038, 80040, 80042, 80044, 80046, 80048, 80050, 80052, 80054, 80056, 80058] 70019 10013 = true := by decide +kernel
theorem ae_cls : ∀ (ci : Nat) (q : vw_C), ae_cl[ci]? = some q → ∃ ty, ae_CK ci q.1 q.2.1 q.2.2 ty := by
  intro ci q h
  match ci, h with
  | 0, h => cases h; exact ⟨tyX0, ae_ck_ok ae_ck0 tyX0_ok nmX0⟩
  | 1, h => cases h; exact ⟨tyX1, ae_ck_ok ae_ck1 tyX1_ok nmX1⟩
  | 2, h => cases h; exact ⟨tyX2, ae_ck_ok ae_ck2 tyX2_ok nmX2⟩
  | 3, h => cases h; exact ⟨tyX3, ae_ck_ok ae_ck3 tyX3_ok nmX3⟩
  | 4, h => cases h; exact ⟨tyX4, ae_ck_ok ae_ck4 tyX4_ok nmX4⟩
  | 5, h => cases h; exact ⟨tyX5, ae_ck_ok ae_ck5 tyX5_ok nmX5⟩
  | 6, h => cases h; exact ⟨tyX6, ae_ck_ok ae_ck6 tyX6_ok nmX6⟩
  | 7, h => cases h; exact ⟨tyX7, ae_ck_ok ae_ck7 tyX7_ok nmX7⟩
  | 8, h => cases h; exact ⟨tyX8, ae_ck_ok ae_ck8 tyX8_ok nmX8⟩
  | 9, h => cases h; exact ⟨tyX9, ae_ck_ok ae_ck9 tyX9_ok nmX9⟩
  | 10, h => cases h; exact ⟨tyX10, ae_ck_ok ae_ck10 tyX10_ok nmX10⟩
  | 11, h => cases h; exact ⟨tyX11, ae_ck_ok ae_ck11 tyX11_ok nmX11⟩
  | 12, h => cases h; exact ⟨tyX12, ae_ck_ok ae_ck12 tyX12_ok nmX12⟩
  | n + 13, h => simp [ae_cl] at h
