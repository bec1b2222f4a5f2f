/-- the words that a callee may have of its caller -/
def ae_gw : List Jvm.Cond := lw_tbl.filter goodWord
theorem ae_gw_in {w : Jvm.Cond} (h : w ∈ lw_tbl) (g : goodWord w = true) : w ∈ ae_gw := List.mem_filter.mpr ⟨h, g⟩
theorem ae_gw_tbl {w : Jvm.Cond} (h : w ∈ ae_gw) : w ∈ lw_tbl := (List.mem_filter.mp h).1
theorem ae_gw_good {w : Jvm.Cond} (h : w ∈ ae_gw) : goodWord w = true := (List.mem_filter.mp h).2
def ae_ws (M : ae_M) : List Jvm.Cond := ae_cwd M :: ae_gw
/-- a field's kind and its type -/
def ae_kb (fk : Nat) (ty : FieldType) (fin : Bool) : Bool := (fin == Nat.ble 10 fk) && (match (cond (Nat.ble 10 fk) (Nat.sub fk 10) fk), ty with
  | 0, .int => true
  | 1, .boolean => true
  | 2, .byte => true
  | 3, .long => true
  | 4, .object _ => true
  | 4, .array _ => true
  | _, _ => false)
/-- what a new field holds -/
def ae_dv (ty : FieldType) : ae_V := match ty with
  | .long => .inr (.inl 0)
  | .object _ => .inr (.inr none)
  | .array _ => .inr (.inr none)
  | _ => .inl (.inl 0)
def ae_CK (ci : Nat) (C : String) (T : u_T) (N : Nat) (ty : Nat → FieldType) : Prop :=
  (∀ w ∈ u_ws C T N, w ∈ ae_gw) ∧ (∀ k, k < N → parseFieldDescriptor (T k).2.2.1 = some (ty k)) ∧ (∀ a, a < N → ∀ b, b < N → a ≠ b → (T a).2.1 ≠ (T b).2.1) ∧ Jvm.Cond.instantiable C N ∈ ae_gw ∧ Jvm.Cond.initialized C ∈ ae_gw ∧ C = ae_on ci ∧
  (∀ k, k < N → (T k).1 = C ∧ ∃ fk, ae_fk ci k = some fk ∧ ae_kb fk (ty k) (T k).2.2.2 = true) ∧ ae_nf ci = some ((List.range N).map (fun k => ae_dv (ty k)))
noncomputable def ae_ck (ci : Nat) (C : String) (T : u_T) (N : Nat) (ty : Nat → FieldType) (P : List Nat) (p1 p2 : Nat) : Bool :=
  Nat.beq P.length N && (((List.range N).zip P).all (fun x => decide (lw_tbl[x.2]? = some (u_lay C T x.1)) && goodWord (u_lay C T x.1)) && (decide (lw_tbl[p1]? = some (.instantiable C N)) && (goodWord (.instantiable C N) && (decide (lw_tbl[p2]? = some (.initialized C)) && (goodWord (.initialized C) && (decide (C = ae_on ci) && ((List.range N).all (fun k => decide ((T k).1 = C) && (match ae_fk ci k with
  | some fk => ae_kb fk (ty k) (T k).2.2.2
  | none => false)) && decide (ae_nf ci = some ((List.range N).map (fun k => ae_dv (ty k)))))))))))
theorem ae_ck_ok {ci : Nat} {C : String} {T : u_T} {N : Nat} {ty : Nat → FieldType} {P : List Nat} {p1 p2 : Nat} (h : ae_ck ci C T N ty P p1 p2 = true) (h1 : ∀ k, k < N → parseFieldDescriptor (T k).2.2.1 = some (ty k)) (h2 : ∀ a, a < N → ∀ b, b < N → a ≠ b → (T a).2.1 ≠ (T b).2.1) : ae_CK ci C T N ty := by
  unfold ae_ck at h
  simp only [Bool.and_eq_true] at h
  obtain ⟨g1, g2, g3, g4, g5, g6, g7, g8, g9⟩ := h
  have hl := Nat.eq_of_beq_eq_true g1
  refine ⟨fun w hw => ?_, h1, h2, ae_gw_in (List.mem_of_getElem? (of_decide_eq_true g3)) g4, ae_gw_in (List.mem_of_getElem? (of_decide_eq_true g5)) g6, of_decide_eq_true g7, fun k hk => ?_, of_decide_eq_true g9⟩
  · obtain ⟨k, hk, rfl⟩ := List.mem_map.mp hw
    have hk2 := List.mem_range.mp hk
    obtain ⟨p, hp⟩ : ∃ p, P[k]? = some p := ⟨_, List.getElem?_eq_getElem (by omega)⟩
    have hz : ((List.range N).zip P)[k]? = some (k, p) := by rw [List.getElem?_zip_eq_some]; exact ⟨by simp [hk2], hp⟩
    have h3 := List.all_eq_true.mp g2 _ (List.mem_of_getElem? hz)
    rw [Bool.and_eq_true] at h3
    exact ae_gw_in (List.mem_of_getElem? (of_decide_eq_true h3.1)) h3.2
  · have h3 := List.all_eq_true.mp g8 k (List.mem_range.mpr hk)
    rw [Bool.and_eq_true] at h3
    refine ⟨of_decide_eq_true h3.1, ?_⟩
    have h4 := h3.2
    cases hf : ae_fk ci k with
    | none => rw [hf] at h4; cases h4
    | some fk => rw [hf] at h4; exact ⟨fk, rfl, h4⟩
theorem ae_ck0 : ae_ck 0 RX0 TX0 3 tyX0 [503, 505, 507] 486 123 = true := by decide +kernel
theorem ae_ck1 : ae_ck 1 RX1 TX1 8 tyX1 [222, 224, 226, 228, 230, 232, 234, 236] 202 116 = true := by decide +kernel
theorem ae_ck2 : ae_ck 2 RX2 TX2 10 tyX2 [622, 624, 626, 628, 630, 632, 634, 636, 638, 640] 598 125 = true := by decide +kernel
theorem ae_ck3 : ae_ck 3 RX3 TX3 15 tyX3 [387, 389, 391, 393, 395, 397, 399, 401, 403, 405, 407, 409, 411, 413, 415] 311 119 = true := by decide +kernel
theorem ae_ck4 : ae_ck 4 RX4 TX4 14 tyX4 [343, 345, 347, 349, 351, 353, 355, 357, 359, 361, 363, 365, 367, 369] 317 120 = true := by decide +kernel
theorem ae_ck5 : ae_ck 5 RX5 TX5 10 tyX5 [289, 291, 293, 295, 297, 299, 301, 303, 305, 307] 241 117 = true := by decide +kernel
theorem ae_ck6 : ae_ck 6 RX6 TX6 12 tyX6 [525, 527, 529, 531, 533, 535, 537, 539, 541, 543, 545, 547] 480 122 = true := by decide +kernel
theorem ae_ck7 : ae_ck 7 RX7 TX7 2 tyX7 [257, 259] 247 118 = true := by decide +kernel
theorem ae_ck8 : ae_ck 8 RX8 TX8 10 tyX8 [572, 574, 576, 578, 580, 582, 584, 586, 588, 590] 551 124 = true := by decide +kernel
theorem ae_ck9 : ae_ck 9 RX9 TX9 10 tyX9 [179, 181, 183, 185, 187, 189, 191, 193, 195, 197] 149 115 = true := by decide +kernel
theorem ae_ck10 : ae_ck 10 RX10 TX10 14 tyX10 [449, 451, 453, 455, 457, 459, 461, 463, 465, 467, 469, 471, 473, 475] 419 121 = true := by decide +kernel
theorem ae_ck11 : ae_ck 11 RX11 TX11 14 tyX11 [657, 659, 661, 663, 665, 667, 669, 671, 673, 675, 677, 679, 681, 683] 141 114 = true := by decide +kernel
theorem ae_ck12 : ae_ck 12 RX12 TX12 92 tyX12 [1669, 1671, 1673, 1675, 1677, 1679, 1681, 1683, 1685, 1687, 1689, 1691, 1693, 1695, 1697, 1699, 1701, 1703, 1705, 1707, 1709, 1711, 1713, 1715, 1717, 1719, 1721, 1723, 1725, 1727, 1729, 1731, 1733, 1735, 1737, 1739, 1741, 1743, 1745, 1747, 1749, 1751, 1753, 1755, 1757, 1759, 1761, 1763, 1765, 1767, 1769, 1771, 1773, 1775, 1777, 1779, 1781, 1783, 1785, 1787, 1789, 1791, 1793, 1795, 1797, 1799, 1801, 1803, 1805, 1807, 1809, 1811, 1813, 1815, 1817, 1819, 1821, 1823, 1825, 1827, 1829, 1831, 1833, 1835, 1837, 1839, 1841, 1843, 1845, 1847, 1849, 1851] 1572 126 = true := by decide +kernel
theorem ae_cls : ∀ (ci : Nat) (q : vw_C), ae_cl[ci]? = some q → ∃ ty, ae_CK ci q.1 q.2.1 q.2.2 ty := by
  intro ci q h
  match ci, h with
  | 0, h => cases h; exact ⟨tyX0, ae_ck_ok ae_ck0 tyX0_ok nmX0⟩
  | 1, h => cases h; exact ⟨tyX1, ae_ck_ok ae_ck1 tyX1_ok nmX1⟩
  | 2, h => cases h; exact ⟨tyX2, ae_ck_ok ae_ck2 tyX2_ok nmX2⟩
  | 3, h => cases h; exact ⟨tyX3, ae_ck_ok ae_ck3 tyX3_ok nmX3⟩
  | 4, h => cases h; exact ⟨tyX4, ae_ck_ok ae_ck4 tyX4_ok nmX4⟩
  | 5, h => cases h; exact ⟨tyX5, ae_ck_ok ae_ck5 tyX5_ok nmX5⟩
  | 6, h => cases h; exact ⟨tyX6, ae_ck_ok ae_ck6 tyX6_ok nmX6⟩
  | 7, h => cases h; exact ⟨tyX7, ae_ck_ok ae_ck7 tyX7_ok nmX7⟩
  | 8, h => cases h; exact ⟨tyX8, ae_ck_ok ae_ck8 tyX8_ok nmX8⟩
  | 9, h => cases h; exact ⟨tyX9, ae_ck_ok ae_ck9 tyX9_ok nmX9⟩
  | 10, h => cases h; exact ⟨tyX10, ae_ck_ok ae_ck10 tyX10_ok nmX10⟩
  | 11, h => cases h; exact ⟨tyX11, ae_ck_ok ae_ck11 tyX11_ok nmX11⟩
  | 12, h => cases h; exact ⟨tyX12, ae_ck_ok ae_ck12 tyX12_ok nmX12⟩
  | n + 13, h => simp [ae_cl] at h
