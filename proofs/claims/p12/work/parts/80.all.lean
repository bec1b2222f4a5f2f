/-! EVERY CONTRACT HOLDS (printed by wip/p2/asm.py) -/
def sv_all (l : List (Nat × List sv_C)) : Prop := ∀ mj, ∀ C ∈ sv_cf l mj, C.1 = mj ∧ sv_ctk sv_ty sv_tt sv_op C
theorem sv_all0 : sv_all sv_ct0 := fun mj C hC => by cases hC
theorem sv_alls {l : List (Nat × List sv_C)} {mj : Nat} {cs : List sv_C} (hl : sv_all l) (hc : wa_A (fun C => C.1 = mj ∧ sv_ctk sv_ty sv_tt sv_op C) cs) : sv_all ((mj, cs) :: l) := fun mj' C hC => by
  have e : sv_cf ((mj, cs) :: l) mj' = cond (Nat.beq mj mj') cs (sv_cf l mj') := by
    unfold sv_cf
    show (match cond (Nat.beq mj mj') (some cs) (ae_lk l mj') with
      | some c => c
      | none => []) = _
    cases Nat.beq mj mj' <;> rfl
  rw [e] at hC
  cases hb : Nat.beq mj mj' with
  | true =>
    rw [hb, cond_true] at hC
    rw [← Nat.eq_of_beq_eq_true hb]
    exact wa_A_ok hc C hC
  | false => rw [hb, cond_false] at hC; exact hl mj' C hC
/-- Tape.isCard, 0 -/
theorem svC_0_ok : sv_ctk sv_ty sv_tt sv_op svC_0 := svC_0_h
theorem svS_1_h : sv_all svS_1 := sv_alls sv_all0 ⟨⟨rfl, svC_0_ok⟩, trivial⟩
/-- Tape.isColumns, 0 -/
theorem svC_1_ok : sv_ctk sv_ty sv_tt sv_op svC_1 := sx_meth_ok sv_ty_lt sv_op_k svS_1_h svC_1_k
theorem svS_2_h : sv_all svS_2 := sv_alls svS_1_h ⟨⟨rfl, svC_1_ok⟩, trivial⟩
/-- Tape.readWord, 0 -/
theorem svC_2_ok : sv_ctk sv_ty sv_tt sv_op svC_2 := sx_meth_ok sv_ty_lt sv_op_k svS_2_h svC_2_k
theorem svS_3_h : sv_all svS_3 := sv_alls svS_2_h ⟨⟨rfl, svC_2_ok⟩, trivial⟩
/-- Tape.readNumber, 0 -/
theorem svC_3_ok : sv_ctk sv_ty sv_tt sv_op svC_3 := sx_meth_ok sv_ty_lt sv_op_k svS_3_h svC_3_k
theorem svS_4_h : sv_all svS_4 := sv_alls svS_3_h ⟨⟨rfl, svC_3_ok⟩, trivial⟩
/-- Tape.advance, 0 -/
theorem svC_4_ok : sv_ctk sv_ty sv_tt sv_op svC_4 := sx_meth_ok sv_ty_lt sv_op_k svS_4_h svC_4_k
theorem svS_5_h : sv_all svS_5 := sv_alls svS_4_h ⟨⟨rfl, svC_4_ok⟩, trivial⟩
/-- Tape.stands, 0 -/
theorem svC_5_ok : sv_ctk sv_ty sv_tt sv_op svC_5 := sx_meth_ok sv_ty_lt sv_op_k svS_5_h svC_5_k
/-- Tape.stands, 1 -/
theorem svC_6_ok : sv_ctk sv_ty sv_tt sv_op svC_6 := sx_meth_ok sv_ty_lt sv_op_k svS_5_h svC_6_k
/-- Tape.stands, 2 -/
theorem svC_7_ok : sv_ctk sv_ty sv_tt sv_op svC_7 := sx_meth_ok sv_ty_lt sv_op_k svS_5_h svC_7_k
/-- Tape.stands, 3 -/
theorem svC_8_ok : sv_ctk sv_ty sv_tt sv_op svC_8 := sx_meth_ok sv_ty_lt sv_op_k svS_5_h svC_8_k
/-- Tape.stands, 4 -/
theorem svC_9_ok : sv_ctk sv_ty sv_tt sv_op svC_9 := sx_meth_ok sv_ty_lt sv_op_k svS_5_h svC_9_k
/-- Tape.stands, 5 -/
theorem svC_10_ok : sv_ctk sv_ty sv_tt sv_op svC_10 := sx_meth_ok sv_ty_lt sv_op_k svS_5_h svC_10_k
theorem svS_11_h : sv_all svS_11 := sv_alls svS_5_h ⟨⟨rfl, svC_5_ok⟩, ⟨rfl, svC_6_ok⟩, ⟨rfl, svC_7_ok⟩, ⟨rfl, svC_8_ok⟩, ⟨rfl, svC_9_ok⟩, ⟨rfl, svC_10_ok⟩, trivial⟩
/-- Tape.takeSign, 0 -/
theorem svC_11_ok : sv_ctk sv_ty sv_tt sv_op svC_11 := sx_meth_ok sv_ty_lt sv_op_k svS_11_h svC_11_k
theorem svS_12_h : sv_all svS_12 := sv_alls svS_11_h ⟨⟨rfl, svC_11_ok⟩, trivial⟩
/-- Tape.takeNumber, 0 -/
theorem svC_12_ok : sv_ctk sv_ty sv_tt sv_op svC_12 := sx_meth_ok sv_ty_lt sv_op_k svS_12_h svC_12_k
theorem svS_13_h : sv_all svS_13 := sv_alls svS_12_h ⟨⟨rfl, svC_12_ok⟩, trivial⟩
/-- Board.usesOf, 0 -/
theorem svC_13_ok : sv_ctk sv_ty sv_tt sv_op svC_13 := sx_meth_ok sv_ty_lt sv_op_k svS_13_h svC_13_k
theorem svS_14_h : sv_all svS_14 := sv_alls svS_13_h ⟨⟨rfl, svC_13_ok⟩, trivial⟩
/-- Board.wordOfHub, 0 -/
theorem svC_14_ok : sv_ctk sv_ty sv_tt sv_op svC_14 := sx_meth_ok sv_ty_lt sv_op_k svS_14_h svC_14_k
theorem svS_15_h : sv_all svS_15 := sv_alls svS_14_h ⟨⟨rfl, svC_14_ok⟩, trivial⟩
/-- Board.findWire, 0 -/
theorem svC_15_ok : sv_ctk sv_ty sv_tt sv_op svC_15 := sx_meth_ok sv_ty_lt sv_op_k svS_15_h svC_15_k
theorem svS_16_h : sv_all svS_16 := sv_alls svS_15_h ⟨⟨rfl, svC_15_ok⟩, trivial⟩
/-- Board.wiresApart, 0 -/
theorem svC_16_ok : sv_ctk sv_ty sv_tt sv_op svC_16 := sx_meth_ok sv_ty_lt sv_op_k svS_16_h svC_16_k
theorem svS_17_h : sv_all svS_17 := sv_alls svS_16_h ⟨⟨rfl, svC_16_ok⟩, trivial⟩
/-- Board.wordOnTape, 0 -/
theorem svC_17_ok : sv_ctk sv_ty sv_tt sv_op svC_17 := sx_meth_ok sv_ty_lt sv_op_k svS_17_h svC_17_k
/-- Board.wordOnTape, 1 -/
theorem svC_18_ok : sv_ctk sv_ty sv_tt sv_op svC_18 := sx_meth_ok sv_ty_lt sv_op_k svS_17_h svC_18_k
/-- Board.wordOnTape, 2 -/
theorem svC_19_ok : sv_ctk sv_ty sv_tt sv_op svC_19 := sx_meth_ok sv_ty_lt sv_op_k svS_17_h svC_19_k
theorem svS_20_h : sv_all svS_20 := sv_alls svS_17_h ⟨⟨rfl, svC_17_ok⟩, ⟨rfl, svC_18_ok⟩, ⟨rfl, svC_19_ok⟩, trivial⟩
/-- Board.readHubNumbers, 0 -/
theorem svC_20_ok : sv_ctk sv_ty sv_tt sv_op svC_20 := sx_meth_ok sv_ty_lt sv_op_k svS_20_h svC_20_k
/-- Board.readHubNumbers, 1 -/
theorem svC_21_ok : sv_ctk sv_ty sv_tt sv_op svC_21 := sx_meth_ok sv_ty_lt sv_op_k svS_20_h svC_21_k
/-- Board.readHubNumbers, 2 -/
theorem svC_22_ok : sv_ctk sv_ty sv_tt sv_op svC_22 := sx_meth_ok sv_ty_lt sv_op_k svS_20_h svC_22_k
theorem svS_23_h : sv_all svS_23 := sv_alls svS_20_h ⟨⟨rfl, svC_20_ok⟩, ⟨rfl, svC_21_ok⟩, ⟨rfl, svC_22_ok⟩, trivial⟩
/-- Board.readHub, 0 -/
theorem svC_23_ok : sv_ctk sv_ty sv_tt sv_op svC_23 := sx_meth_ok sv_ty_lt sv_op_k svS_23_h svC_23_k
/-- Board.readHub, 1 -/
theorem svC_24_ok : sv_ctk sv_ty sv_tt sv_op svC_24 := sx_meth_ok sv_ty_lt sv_op_k svS_23_h svC_24_k
/-- Board.readHub, 2 -/
theorem svC_25_ok : sv_ctk sv_ty sv_tt sv_op svC_25 := sx_meth_ok sv_ty_lt sv_op_k svS_23_h svC_25_k
theorem svS_26_h : sv_all svS_26 := sv_alls svS_23_h ⟨⟨rfl, svC_23_ok⟩, ⟨rfl, svC_24_ok⟩, ⟨rfl, svC_25_ok⟩, trivial⟩
/-- Board.readWire, 0 -/
theorem svC_26_ok : sv_ctk sv_ty sv_tt sv_op svC_26 := sx_meth_ok sv_ty_lt sv_op_k svS_26_h svC_26_k
/-- Board.readWire, 1 -/
theorem svC_27_ok : sv_ctk sv_ty sv_tt sv_op svC_27 := sx_meth_ok sv_ty_lt sv_op_k svS_26_h svC_27_k
/-- Board.readWire, 2 -/
theorem svC_28_ok : sv_ctk sv_ty sv_tt sv_op svC_28 := sx_meth_ok sv_ty_lt sv_op_k svS_26_h svC_28_k
theorem svS_29_h : sv_all svS_29 := sv_alls svS_26_h ⟨⟨rfl, svC_26_ok⟩, ⟨rfl, svC_27_ok⟩, ⟨rfl, svC_28_ok⟩, trivial⟩
/-- Board.readText, 0 -/
theorem svC_29_ok : sv_ctk sv_ty sv_tt sv_op svC_29 := sx_meth_ok sv_ty_lt sv_op_k svS_29_h svC_29_k
theorem svS_30_h : sv_all svS_30 := sv_alls svS_29_h ⟨⟨rfl, svC_29_ok⟩, trivial⟩
/-- Sheet.addBlankLine, 0 -/
theorem svC_30_ok : sv_ctk sv_ty sv_tt sv_op svC_30 := sx_meth_ok sv_ty_lt sv_op_k svS_30_h svC_30_k
theorem svS_31_h : sv_all svS_31 := sv_alls svS_30_h ⟨⟨rfl, svC_30_ok⟩, trivial⟩
/-- Sheet.hasLikeLine, 0 -/
theorem svC_31_ok : sv_ctk sv_ty sv_tt sv_op svC_31 := sx_meth_ok sv_ty_lt sv_op_k svS_31_h svC_31_k
theorem svS_32_h : sv_all svS_32 := sv_alls svS_31_h ⟨⟨rfl, svC_31_ok⟩, trivial⟩
/-- Sheet.readLines, 0 -/
theorem svC_32_ok : sv_ctk sv_ty sv_tt sv_op svC_32 := sx_meth_ok sv_ty_lt sv_op_k svS_32_h svC_32_k
theorem svS_33_h : sv_all svS_33 := sv_alls svS_32_h ⟨⟨rfl, svC_32_ok⟩, trivial⟩
/-- Outcome.endsLike, 0 -/
theorem svC_33_ok : sv_ctk sv_ty sv_tt sv_op svC_33 := sx_meth_ok sv_ty_lt sv_op_k svS_33_h svC_33_k
theorem svS_34_h : sv_all svS_34 := sv_alls svS_33_h ⟨⟨rfl, svC_33_ok⟩, trivial⟩
/-- java/util/Arrays.fill, 0 -/
theorem svC_34_ok : sv_ctk sv_ty sv_tt sv_op svC_34 := sx_meth_ok sv_ty_lt sv_op_k svS_34_h svC_34_k
/-- java/util/Arrays.fill, 1 -/
theorem svC_35_ok : sv_ctk sv_ty sv_tt sv_op svC_35 := sx_meth_ok sv_ty_lt sv_op_k svS_34_h svC_35_k
/-- java/util/Arrays.fill, 2 -/
theorem svC_36_ok : sv_ctk sv_ty sv_tt sv_op svC_36 := sx_meth_ok sv_ty_lt sv_op_k svS_34_h svC_36_k
/-- java/util/Arrays.fill, 3 -/
theorem svC_37_ok : sv_ctk sv_ty sv_tt sv_op svC_37 := sx_meth_ok sv_ty_lt sv_op_k svS_34_h svC_37_k
/-- java/util/Arrays.fill, 4 -/
theorem svC_38_ok : sv_ctk sv_ty sv_tt sv_op svC_38 := sx_meth_ok sv_ty_lt sv_op_k svS_34_h svC_38_k
/-- java/util/Arrays.fill, 5 -/
theorem svC_39_ok : sv_ctk sv_ty sv_tt sv_op svC_39 := sx_meth_ok sv_ty_lt sv_op_k svS_34_h svC_39_k
theorem svS_40_h : sv_all svS_40 := sv_alls svS_34_h ⟨⟨rfl, svC_34_ok⟩, ⟨rfl, svC_35_ok⟩, ⟨rfl, svC_36_ok⟩, ⟨rfl, svC_37_ok⟩, ⟨rfl, svC_38_ok⟩, ⟨rfl, svC_39_ok⟩, trivial⟩
/-- Nets.rootOf, 0 -/
theorem svC_40_ok : sv_ctk sv_ty sv_tt sv_op svC_40 := sx_meth_ok sv_ty_lt sv_op_k svS_40_h svC_40_k
/-- Nets.rootOf, 1 -/
theorem svC_41_ok : sv_ctk sv_ty sv_tt sv_op svC_41 := sx_meth_ok sv_ty_lt sv_op_k svS_40_h svC_41_k
theorem svS_42_h : sv_all svS_42 := sv_alls svS_40_h ⟨⟨rfl, svC_40_ok⟩, ⟨rfl, svC_41_ok⟩, trivial⟩
/-- Nets.listGiversBelow, 0 -/
theorem svC_42_ok : sv_ctk sv_ty sv_tt sv_op svC_42 := sx_meth_ok sv_ty_lt sv_op_k svS_42_h svC_42_k
/-- Nets.listGiversBelow, 1 -/
theorem svC_43_ok : sv_ctk sv_ty sv_tt sv_op svC_43 := sx_meth_ok sv_ty_lt sv_op_k svS_42_h svC_43_k
theorem svS_44_h : sv_all svS_44 := sv_alls svS_42_h ⟨⟨rfl, svC_42_ok⟩, ⟨rfl, svC_43_ok⟩, trivial⟩
/-- Nets.listTakers, 0 -/
theorem svC_44_ok : sv_ctk sv_ty sv_tt sv_op svC_44 := sx_meth_ok sv_ty_lt sv_op_k svS_44_h svC_44_k
theorem svS_45_h : sv_all svS_45 := sv_alls svS_44_h ⟨⟨rfl, svC_44_ok⟩, trivial⟩
/-- Nets.listPoints, 0 -/
theorem svC_45_ok : sv_ctk sv_ty sv_tt sv_op svC_45 := sx_meth_ok sv_ty_lt sv_op_k svS_45_h svC_45_k
theorem svS_46_h : sv_all svS_46 := sv_alls svS_45_h ⟨⟨rfl, svC_45_ok⟩, trivial⟩
/-- Nets.build, 0 -/
theorem svC_46_ok : sv_ctk sv_ty sv_tt sv_op svC_46 := sx_meth_ok sv_ty_lt sv_op_k svS_46_h svC_46_k
theorem svS_47_h : sv_all svS_47 := sv_alls svS_46_h ⟨⟨rfl, svC_46_ok⟩, trivial⟩
/-- Nets.want, 0 -/
theorem svC_47_ok : sv_ctk sv_ty sv_tt sv_op svC_47 := sx_meth_ok sv_ty_lt sv_op_k svS_47_h svC_47_k
theorem svS_48_h : sv_all svS_48 := sv_alls svS_47_h ⟨⟨rfl, svC_47_ok⟩, trivial⟩
/-- Boxes.cardsInAll, 0 -/
theorem svC_48_ok : sv_ctk sv_ty sv_tt sv_op svC_48 := sx_meth_ok sv_ty_lt sv_op_k svS_48_h svC_48_k
theorem svS_49_h : sv_all svS_49 := sv_alls svS_48_h ⟨⟨rfl, svC_48_ok⟩, trivial⟩
/-- Boxes.addTold, 0 -/
theorem svC_49_ok : sv_ctk sv_ty sv_tt sv_op svC_49 := svC_49_h
theorem svS_50_h : sv_all svS_50 := sv_alls svS_49_h ⟨⟨rfl, svC_49_ok⟩, trivial⟩
/-- Boxes.addPunched, 0 -/
theorem svC_50_ok : sv_ctk sv_ty sv_tt sv_op svC_50 := sx_meth_ok sv_ty_lt sv_op_k svS_50_h svC_50_k
theorem svS_51_h : sv_all svS_51 := sv_alls svS_50_h ⟨⟨rfl, svC_50_ok⟩, trivial⟩
/-- Boxes.dealWithout, 0 -/
theorem svC_51_ok : sv_ctk sv_ty sv_tt sv_op svC_51 := sx_meth_ok sv_ty_lt sv_op_k svS_51_h svC_51_k
theorem svS_52_h : sv_all svS_52 := sv_alls svS_51_h ⟨⟨rfl, svC_51_ok⟩, trivial⟩
/-- Boxes.digitOf, 0 -/
theorem svC_52_ok : sv_ctk sv_ty sv_tt sv_op svC_52 := svC_52_h
theorem svS_53_h : sv_all svS_53 := sv_alls svS_52_h ⟨⟨rfl, svC_52_ok⟩, trivial⟩
/-- Boxes.sortRow, 0 -/
theorem svC_53_ok : sv_ctk sv_ty sv_tt sv_op svC_53 := svC_53_h
theorem svS_54_h : sv_all svS_54 := sv_alls svS_53_h ⟨⟨rfl, svC_53_ok⟩, trivial⟩
/-- Boxes.isBehind, 0 -/
theorem svC_54_ok : sv_ctk sv_ty sv_tt sv_op svC_54 := sx_meth_ok sv_ty_lt sv_op_k svS_54_h svC_54_k
theorem svS_55_h : sv_all svS_55 := sv_alls svS_54_h ⟨⟨rfl, svC_54_ok⟩, trivial⟩
/-- Boxes.putsInOrder, 0 -/
theorem svC_55_ok : sv_ctk sv_ty sv_tt sv_op svC_55 := sx_meth_ok sv_ty_lt sv_op_k svS_55_h svC_55_k
theorem svS_56_h : sv_all svS_56 := sv_alls svS_55_h ⟨⟨rfl, svC_55_ok⟩, trivial⟩
/-- Boxes.leastPasses, 0 -/
theorem svC_56_ok : sv_ctk sv_ty sv_tt sv_op svC_56 := sx_meth_ok sv_ty_lt sv_op_k svS_56_h svC_56_k
theorem svS_57_h : sv_all svS_57 := sv_alls svS_56_h ⟨⟨rfl, svC_56_ok⟩, trivial⟩
/-- Machine.decimalOf, 0 -/
theorem svC_57_ok : sv_ctk sv_ty sv_tt sv_op svC_57 := sx_meth_ok sv_ty_lt sv_op_k svS_57_h svC_57_k
/-- Machine.decimalOf, 1 -/
theorem svC_58_ok : sv_ctk sv_ty sv_tt sv_op svC_58 := sx_meth_ok sv_ty_lt sv_op_k svS_57_h svC_58_k
theorem svS_59_h : sv_all svS_59 := sv_alls svS_57_h ⟨⟨rfl, svC_57_ok⟩, ⟨rfl, svC_58_ok⟩, trivial⟩
/-- Machine.greatestOrder, 0 -/
theorem svC_59_ok : sv_ctk sv_ty sv_tt sv_op svC_59 := sx_meth_ok sv_ty_lt sv_op_k svS_59_h svC_59_k
theorem svS_60_h : sv_all svS_60 := sv_alls svS_59_h ⟨⟨rfl, svC_59_ok⟩, trivial⟩
/-- Machine.givenByCard, 0 -/
theorem svC_60_ok : sv_ctk sv_ty sv_tt sv_op svC_60 := sx_meth_ok sv_ty_lt sv_op_k svS_60_h svC_60_k
theorem svS_61_h : sv_all svS_61 := sv_alls svS_60_h ⟨⟨rfl, svC_60_ok⟩, trivial⟩
/-- Machine.givenByTotal, 0 -/
theorem svC_61_ok : sv_ctk sv_ty sv_tt sv_op svC_61 := sx_meth_ok sv_ty_lt sv_op_k svS_61_h svC_61_k
theorem svS_62_h : sv_all svS_62 := sv_alls svS_61_h ⟨⟨rfl, svC_61_ok⟩, trivial⟩
/-- Machine.giveAll, 0 -/
theorem svC_62_ok : sv_ctk sv_ty sv_tt sv_op svC_62 := sx_meth_ok sv_ty_lt sv_op_k svS_62_h svC_62_k
theorem svS_63_h : sv_all svS_63 := sv_alls svS_62_h ⟨⟨rfl, svC_62_ok⟩, trivial⟩
/-- Machine.look, 0 -/
theorem svC_63_ok : sv_ctk sv_ty sv_tt sv_op svC_63 := sx_meth_ok sv_ty_lt sv_op_k svS_63_h svC_63_k
theorem svS_64_h : sv_all svS_64 := sv_alls svS_63_h ⟨⟨rfl, svC_63_ok⟩, trivial⟩
/-- Machine.compare, 0 -/
theorem svC_64_ok : sv_ctk sv_ty sv_tt sv_op svC_64 := sx_meth_ok sv_ty_lt sv_op_k svS_64_h svC_64_k
theorem svS_65_h : sv_all svS_65 := sv_alls svS_64_h ⟨⟨rfl, svC_64_ok⟩, trivial⟩
/-- Machine.turnWheel, 0 -/
theorem svC_65_ok : sv_ctk sv_ty sv_tt sv_op svC_65 := sx_meth_ok sv_ty_lt sv_op_k svS_65_h svC_65_k
theorem svS_66_h : sv_all svS_66 := sv_alls svS_65_h ⟨⟨rfl, svC_65_ok⟩, trivial⟩
/-- Machine.pickRelays, 0 -/
theorem svC_66_ok : sv_ctk sv_ty sv_tt sv_op svC_66 := sx_meth_ok sv_ty_lt sv_op_k svS_66_h svC_66_k
theorem svS_67_h : sv_all svS_67 := sv_alls svS_66_h ⟨⟨rfl, svC_66_ok⟩, trivial⟩
/-- Machine.print, 0 -/
theorem svC_67_ok : sv_ctk sv_ty sv_tt sv_op svC_67 := sx_meth_ok sv_ty_lt sv_op_k svS_67_h svC_67_k
theorem svS_68_h : sv_all svS_68 := sv_alls svS_67_h ⟨⟨rfl, svC_67_ok⟩, trivial⟩
/-- Machine.punch, 0 -/
theorem svC_68_ok : sv_ctk sv_ty sv_tt sv_op svC_68 := sx_meth_ok sv_ty_lt sv_op_k svS_68_h svC_68_k
theorem svS_69_h : sv_all svS_69 := sv_alls svS_68_h ⟨⟨rfl, svC_68_ok⟩, trivial⟩
/-- Machine.finishCycle, 0 -/
theorem svC_69_ok : sv_ctk sv_ty sv_tt sv_op svC_69 := sx_meth_ok sv_ty_lt sv_op_k svS_69_h svC_69_k
theorem svS_70_h : sv_all svS_70 := sv_alls svS_69_h ⟨⟨rfl, svC_69_ok⟩, trivial⟩
/-- Machine.cardCycle, 0 -/
theorem svC_70_ok : sv_ctk sv_ty sv_tt sv_op svC_70 := sx_meth_ok sv_ty_lt sv_op_k svS_70_h svC_70_k
theorem svS_71_h : sv_all svS_71 := sv_alls svS_70_h ⟨⟨rfl, svC_70_ok⟩, trivial⟩
/-- Machine.totalCycle, 0 -/
theorem svC_71_ok : sv_ctk sv_ty sv_tt sv_op svC_71 := sx_meth_ok sv_ty_lt sv_op_k svS_71_h svC_71_k
theorem svS_72_h : sv_all svS_72 := sv_alls svS_71_h ⟨⟨rfl, svC_71_ok⟩, trivial⟩
/-- Machine.perform, 0 -/
theorem svC_72_ok : sv_ctk sv_ty sv_tt sv_op svC_72 := sx_meth_ok sv_ty_lt sv_op_k svS_72_h svC_72_k
theorem svS_73_h : sv_all svS_73 := sv_alls svS_72_h ⟨⟨rfl, svC_72_ok⟩, trivial⟩
/-- Machine.plug, 0 -/
theorem svC_73_ok : sv_ctk sv_ty sv_tt sv_op svC_73 := sx_meth_ok sv_ty_lt sv_op_k svS_73_h svC_73_k
theorem svS_74_h : sv_all svS_74 := sv_alls svS_73_h ⟨⟨rfl, svC_73_ok⟩, trivial⟩
/-- Trials.findIdle, 0 -/
theorem svC_74_ok : sv_ctk sv_ty sv_tt sv_op svC_74 := sx_meth_ok sv_ty_lt sv_op_k svS_74_h svC_74_k
theorem svS_75_h : sv_all svS_75 := sv_alls svS_74_h ⟨⟨rfl, svC_74_ok⟩, trivial⟩
/-- Trials.findMissing, 0 -/
theorem svC_75_ok : sv_ctk sv_ty sv_tt sv_op svC_75 := sx_meth_ok sv_ty_lt sv_op_k svS_75_h svC_75_k
theorem svS_76_h : sv_all svS_76 := sv_alls svS_75_h ⟨⟨rfl, svC_75_ok⟩, trivial⟩
/-- Trials.wiresShown, 0 -/
theorem svC_76_ok : sv_ctk sv_ty sv_tt sv_op svC_76 := sx_meth_ok sv_ty_lt sv_op_k svS_76_h svC_76_k
theorem svS_77_h : sv_all svS_77 := sv_alls svS_76_h ⟨⟨rfl, svC_76_ok⟩, trivial⟩
/-- Trials.shownBy, 0 -/
theorem svC_77_ok : sv_ctk sv_ty sv_tt sv_op svC_77 := sx_meth_ok sv_ty_lt sv_op_k svS_77_h svC_77_k
theorem svS_78_h : sv_all svS_78 := sv_alls svS_77_h ⟨⟨rfl, svC_77_ok⟩, trivial⟩
/-- Trials.fewestCards, 0 -/
theorem svC_78_ok : sv_ctk sv_ty sv_tt sv_op svC_78 := sx_meth_ok sv_ty_lt sv_op_k svS_78_h svC_78_k
theorem svS_79_h : sv_all svS_79 := sv_alls svS_78_h ⟨⟨rfl, svC_78_ok⟩, trivial⟩
/-- Trials.findTests, 0 -/
theorem svC_79_ok : sv_ctk sv_ty sv_tt sv_op svC_79 := sx_meth_ok sv_ty_lt sv_op_k svS_79_h svC_79_k
theorem svS_80_h : sv_all svS_80 := sv_alls svS_79_h ⟨⟨rfl, svC_79_ok⟩, trivial⟩
/-- Trials.findUnseen, 0 -/
theorem svC_80_ok : sv_ctk sv_ty sv_tt sv_op svC_80 := sx_meth_ok sv_ty_lt sv_op_k svS_80_h svC_80_k
theorem svS_81_h : sv_all svS_81 := sv_alls svS_80_h ⟨⟨rfl, svC_80_ok⟩, trivial⟩
/-- Trials.tryHubs, 0 -/
theorem svC_81_ok : sv_ctk sv_ty sv_tt sv_op svC_81 := sx_meth_ok sv_ty_lt sv_op_k svS_81_h svC_81_k
theorem svS_82_h : sv_all svS_82 := sv_alls svS_81_h ⟨⟨rfl, svC_81_ok⟩, trivial⟩
/-- Trials.findMoves, 0 -/
theorem svC_82_ok : sv_ctk sv_ty sv_tt sv_op svC_82 := sx_meth_ok sv_ty_lt sv_op_k svS_82_h svC_82_k
theorem svS_83_h : sv_all svS_83 := sv_alls svS_82_h ⟨⟨rfl, svC_82_ok⟩, trivial⟩
/-- Job.isName, 0 -/
theorem svC_83_ok : sv_ctk sv_ty sv_tt sv_op svC_83 := sx_meth_ok sv_ty_lt sv_op_k svS_83_h svC_83_k
/-- Job.isName, 1 -/
theorem svC_84_ok : sv_ctk sv_ty sv_tt sv_op svC_84 := sx_meth_ok sv_ty_lt sv_op_k svS_83_h svC_84_k
/-- Job.isName, 2 -/
theorem svC_85_ok : sv_ctk sv_ty sv_tt sv_op svC_85 := sx_meth_ok sv_ty_lt sv_op_k svS_83_h svC_85_k
theorem svS_86_h : sv_all svS_86 := sv_alls svS_83_h ⟨⟨rfl, svC_83_ok⟩, ⟨rfl, svC_84_ok⟩, ⟨rfl, svC_85_ok⟩, trivial⟩
/-- Job.fieldOf, 0 -/
theorem svC_86_ok : sv_ctk sv_ty sv_tt sv_op svC_86 := sx_meth_ok sv_ty_lt sv_op_k svS_86_h svC_86_k
theorem svS_87_h : sv_all svS_87 := sv_alls svS_86_h ⟨⟨rfl, svC_86_ok⟩, trivial⟩
/-- Job.readDigitsAndOrder, 0 -/
theorem svC_87_ok : sv_ctk sv_ty sv_tt sv_op svC_87 := sx_meth_ok sv_ty_lt sv_op_k svS_87_h svC_87_k
theorem svS_88_h : sv_all svS_88 := sv_alls svS_87_h ⟨⟨rfl, svC_87_ok⟩, trivial⟩
/-- Job.readField, 0 -/
theorem svC_88_ok : sv_ctk sv_ty sv_tt sv_op svC_88 := sx_meth_ok sv_ty_lt sv_op_k svS_88_h svC_88_k
/-- Job.readField, 1 -/
theorem svC_89_ok : sv_ctk sv_ty sv_tt sv_op svC_89 := sx_meth_ok sv_ty_lt sv_op_k svS_88_h svC_89_k
/-- Job.readField, 2 -/
theorem svC_90_ok : sv_ctk sv_ty sv_tt sv_op svC_90 := sx_meth_ok sv_ty_lt sv_op_k svS_88_h svC_90_k
theorem svS_91_h : sv_all svS_91 := sv_alls svS_88_h ⟨⟨rfl, svC_88_ok⟩, ⟨rfl, svC_89_ok⟩, ⟨rfl, svC_90_ok⟩, trivial⟩
/-- Job.readBreak, 0 -/
theorem svC_91_ok : sv_ctk sv_ty sv_tt sv_op svC_91 := sx_meth_ok sv_ty_lt sv_op_k svS_91_h svC_91_k
/-- Job.readBreak, 1 -/
theorem svC_92_ok : sv_ctk sv_ty sv_tt sv_op svC_92 := sx_meth_ok sv_ty_lt sv_op_k svS_91_h svC_92_k
/-- Job.readBreak, 2 -/
theorem svC_93_ok : sv_ctk sv_ty sv_tt sv_op svC_93 := sx_meth_ok sv_ty_lt sv_op_k svS_91_h svC_93_k
theorem svS_94_h : sv_all svS_94 := sv_alls svS_91_h ⟨⟨rfl, svC_91_ok⟩, ⟨rfl, svC_92_ok⟩, ⟨rfl, svC_93_ok⟩, trivial⟩
/-- Job.readSum, 0 -/
theorem svC_94_ok : sv_ctk sv_ty sv_tt sv_op svC_94 := sx_meth_ok sv_ty_lt sv_op_k svS_94_h svC_94_k
/-- Job.readSum, 1 -/
theorem svC_95_ok : sv_ctk sv_ty sv_tt sv_op svC_95 := sx_meth_ok sv_ty_lt sv_op_k svS_94_h svC_95_k
/-- Job.readSum, 2 -/
theorem svC_96_ok : sv_ctk sv_ty sv_tt sv_op svC_96 := sx_meth_ok sv_ty_lt sv_op_k svS_94_h svC_96_k
theorem svS_97_h : sv_all svS_97 := sv_alls svS_94_h ⟨⟨rfl, svC_94_ok⟩, ⟨rfl, svC_95_ok⟩, ⟨rfl, svC_96_ok⟩, trivial⟩
/-- Job.readCount, 0 -/
theorem svC_97_ok : sv_ctk sv_ty sv_tt sv_op svC_97 := sx_meth_ok sv_ty_lt sv_op_k svS_97_h svC_97_k
/-- Job.readCount, 1 -/
theorem svC_98_ok : sv_ctk sv_ty sv_tt sv_op svC_98 := sx_meth_ok sv_ty_lt sv_op_k svS_97_h svC_98_k
/-- Job.readCount, 2 -/
theorem svC_99_ok : sv_ctk sv_ty sv_tt sv_op svC_99 := sx_meth_ok sv_ty_lt sv_op_k svS_97_h svC_99_k
theorem svS_100_h : sv_all svS_100 := sv_alls svS_97_h ⟨⟨rfl, svC_97_ok⟩, ⟨rfl, svC_98_ok⟩, ⟨rfl, svC_99_ok⟩, trivial⟩
/-- Job.readLine, 0 -/
theorem svC_100_ok : sv_ctk sv_ty sv_tt sv_op svC_100 := sx_meth_ok sv_ty_lt sv_op_k svS_100_h svC_100_k
/-- Job.readLine, 1 -/
theorem svC_101_ok : sv_ctk sv_ty sv_tt sv_op svC_101 := sx_meth_ok sv_ty_lt sv_op_k svS_100_h svC_101_k
/-- Job.readLine, 2 -/
theorem svC_102_ok : sv_ctk sv_ty sv_tt sv_op svC_102 := sx_meth_ok sv_ty_lt sv_op_k svS_100_h svC_102_k
theorem svS_103_h : sv_all svS_103 := sv_alls svS_100_h ⟨⟨rfl, svC_100_ok⟩, ⟨rfl, svC_101_ok⟩, ⟨rfl, svC_102_ok⟩, trivial⟩
/-- Job.readText, 0 -/
theorem svC_103_ok : sv_ctk sv_ty sv_tt sv_op svC_103 := sx_meth_ok sv_ty_lt sv_op_k svS_103_h svC_103_k
theorem svS_104_h : sv_all svS_104 := sv_alls svS_103_h ⟨⟨rfl, svC_103_ok⟩, trivial⟩
/-- Plan.firstPart, 0 -/
theorem svC_104_ok : sv_ctk sv_ty sv_tt sv_op svC_104 := sx_meth_ok sv_ty_lt sv_op_k svS_104_h svC_104_k
theorem svS_105_h : sv_all svS_105 := sv_alls svS_104_h ⟨⟨rfl, svC_104_ok⟩, trivial⟩
/-- Plan.takePoint, 0 -/
theorem svC_105_ok : sv_ctk sv_ty sv_tt sv_op svC_105 := sx_meth_ok sv_ty_lt sv_op_k svS_105_h svC_105_k
theorem svS_106_h : sv_all svS_106 := sv_alls svS_105_h ⟨⟨rfl, svC_105_ok⟩, trivial⟩
/-- Plan.wireBreaks, 0 -/
theorem svC_106_ok : sv_ctk sv_ty sv_tt sv_op svC_106 := sx_meth_ok sv_ty_lt sv_op_k svS_106_h svC_106_k
theorem svS_107_h : sv_all svS_107 := sv_alls svS_106_h ⟨⟨rfl, svC_106_ok⟩, trivial⟩
/-- Plan.wireAdding, 0 -/
theorem svC_107_ok : sv_ctk sv_ty sv_tt sv_op svC_107 := sx_meth_ok sv_ty_lt sv_op_k svS_107_h svC_107_k
theorem svS_108_h : sv_all svS_108 := sv_alls svS_107_h ⟨⟨rfl, svC_107_ok⟩, trivial⟩
/-- Plan.wirePrinting, 0 -/
theorem svC_108_ok : sv_ctk sv_ty sv_tt sv_op svC_108 := sx_meth_ok sv_ty_lt sv_op_k svS_108_h svC_108_k
theorem svS_109_h : sv_all svS_109 := sv_alls svS_108_h ⟨⟨rfl, svC_108_ok⟩, trivial⟩
/-- Plan.wireWants, 0 -/
theorem svC_109_ok : sv_ctk sv_ty sv_tt sv_op svC_109 := sx_meth_ok sv_ty_lt sv_op_k svS_109_h svC_109_k
theorem svS_110_h : sv_all svS_110 := sv_alls svS_109_h ⟨⟨rfl, svC_109_ok⟩, trivial⟩
/-- Plan.makeBoard, 0 -/
theorem svC_110_ok : sv_ctk sv_ty sv_tt sv_op svC_110 := sx_meth_ok sv_ty_lt sv_op_k svS_110_h svC_110_k
theorem svS_111_h : sv_all svS_111 := sv_alls svS_110_h ⟨⟨rfl, svC_110_ok⟩, trivial⟩
/-- Plan.partWants, 0 -/
theorem svC_111_ok : sv_ctk sv_ty sv_tt sv_op svC_111 := sx_meth_ok sv_ty_lt sv_op_k svS_111_h svC_111_k
theorem svS_112_h : sv_all svS_112 := sv_alls svS_111_h ⟨⟨rfl, svC_111_ok⟩, trivial⟩
/-- Plan.addWorth, 0 -/
theorem svC_112_ok : sv_ctk sv_ty sv_tt sv_op svC_112 := sx_meth_ok sv_ty_lt sv_op_k svS_112_h svC_112_k
theorem svS_113_h : sv_all svS_113 := sv_alls svS_112_h ⟨⟨rfl, svC_112_ok⟩, trivial⟩
/-- Plan.orderBehind, 0 -/
theorem svC_113_ok : sv_ctk sv_ty sv_tt sv_op svC_113 := sx_meth_ok sv_ty_lt sv_op_k svS_113_h svC_113_k
theorem svS_114_h : sv_all svS_114 := sv_alls svS_113_h ⟨⟨rfl, svC_113_ok⟩, trivial⟩
/-- Plan.writeOrder, 0 -/
theorem svC_114_ok : sv_ctk sv_ty sv_tt sv_op svC_114 := sx_meth_ok sv_ty_lt sv_op_k svS_114_h svC_114_k
theorem svS_115_h : sv_all svS_115 := sv_alls svS_114_h ⟨⟨rfl, svC_114_ok⟩, trivial⟩
/-- Plan.writeWanted, 0 -/
theorem svC_115_ok : sv_ctk sv_ty sv_tt sv_op svC_115 := sx_meth_ok sv_ty_lt sv_op_k svS_115_h svC_115_k
theorem svS_116_h : sv_all svS_116 := sv_alls svS_115_h ⟨⟨rfl, svC_115_ok⟩, trivial⟩
/-- Shelf.readFriday, 0 -/
theorem svC_116_ok : sv_ctk sv_ty sv_tt sv_op svC_116 := sx_meth_ok sv_ty_lt sv_op_k svS_116_h svC_116_k
theorem svS_117_h : sv_all svS_117 := sv_alls svS_116_h ⟨⟨rfl, svC_116_ok⟩, trivial⟩
/-- Shelf.priceSettings, 0 -/
theorem svC_117_ok : sv_ctk sv_ty sv_tt sv_op svC_117 := sx_meth_ok sv_ty_lt sv_op_k svS_117_h svC_117_k
theorem svS_118_h : sv_all svS_118 := sv_alls svS_117_h ⟨⟨rfl, svC_117_ok⟩, trivial⟩
/-- Shelf.endOfTried, 0 -/
theorem svC_118_ok : sv_ctk sv_ty sv_tt sv_op svC_118 := sx_meth_ok sv_ty_lt sv_op_k svS_118_h svC_118_k
theorem svS_119_h : sv_all svS_119 := sv_alls svS_118_h ⟨⟨rfl, svC_118_ok⟩, trivial⟩
/-- Shelf.goToNextOrder, 0 -/
theorem svC_119_ok : sv_ctk sv_ty sv_tt sv_op svC_119 := sx_meth_ok sv_ty_lt sv_op_k svS_119_h svC_119_k
theorem svS_120_h : sv_all svS_120 := sv_alls svS_119_h ⟨⟨rfl, svC_119_ok⟩, trivial⟩
/-- Shelf.planFriday, 0 -/
theorem svC_120_ok : sv_ctk sv_ty sv_tt sv_op svC_120 := sx_meth_ok sv_ty_lt sv_op_k svS_120_h svC_120_k
theorem svS_121_h : sv_all svS_121 := sv_alls svS_120_h ⟨⟨rfl, svC_120_ok⟩, trivial⟩
/-- PlugHall.cards, 0 -/
theorem svC_121_ok : sv_ctk sv_ty sv_tt sv_op svC_121 := sx_meth_ok sv_ty_lt sv_op_k svS_121_h svC_121_k
theorem svS_122_h : sv_all svS_122 := sv_alls svS_121_h ⟨⟨rfl, svC_121_ok⟩, trivial⟩
/-- PlugHall.empty, 0 -/
theorem svC_122_ok : sv_ctk sv_ty sv_tt sv_op svC_122 := sx_meth_ok sv_ty_lt sv_op_k svS_122_h svC_122_k
theorem svS_123_h : sv_all svS_123 := sv_alls svS_122_h ⟨⟨rfl, svC_122_ok⟩, trivial⟩
/-- PlugHall.fault, 0 -/
theorem svC_123_ok : sv_ctk sv_ty sv_tt sv_op svC_123 := sx_meth_ok sv_ty_lt sv_op_k svS_123_h svC_123_k
theorem svS_124_h : sv_all svS_124 := sv_alls svS_123_h ⟨⟨rfl, svC_123_ok⟩, trivial⟩
/-- PlugHall.run, 0 -/
theorem svC_124_ok : sv_ctk sv_ty sv_tt sv_op svC_124 := sx_meth_ok sv_ty_lt sv_op_k svS_124_h svC_124_k
theorem svS_125_h : sv_all svS_125 := sv_alls svS_124_h ⟨⟨rfl, svC_124_ok⟩, trivial⟩
/-- PlugHall.ran, 0 -/
theorem svC_125_ok : sv_ctk sv_ty sv_tt sv_op svC_125 := sx_meth_ok sv_ty_lt sv_op_k svS_125_h svC_125_k
theorem svS_126_h : sv_all svS_126 := sv_alls svS_125_h ⟨⟨rfl, svC_125_ok⟩, trivial⟩
/-- PlugHall.pass, 0 -/
theorem svC_126_ok : sv_ctk sv_ty sv_tt sv_op svC_126 := sx_meth_ok sv_ty_lt sv_op_k svS_126_h svC_126_k
theorem svS_127_h : sv_all svS_127 := sv_alls svS_126_h ⟨⟨rfl, svC_126_ok⟩, trivial⟩
/-- PlugHall.idle, 0 -/
theorem svC_127_ok : sv_ctk sv_ty sv_tt sv_op svC_127 := sx_meth_ok sv_ty_lt sv_op_k svS_127_h svC_127_k
theorem svS_128_h : sv_all svS_128 := sv_alls svS_127_h ⟨⟨rfl, svC_127_ok⟩, trivial⟩
/-- PlugHall.wire, 0 -/
theorem svC_128_ok : sv_ctk sv_ty sv_tt sv_op svC_128 := sx_meth_ok sv_ty_lt sv_op_k svS_128_h svC_128_k
theorem svS_129_h : sv_all svS_129 := sv_alls svS_128_h ⟨⟨rfl, svC_128_ok⟩, trivial⟩
/-- PlugHall.tests, 0 -/
theorem svC_129_ok : sv_ctk sv_ty sv_tt sv_op svC_129 := sx_meth_ok sv_ty_lt sv_op_k svS_129_h svC_129_k
theorem svS_130_h : sv_all svS_130 := sv_alls svS_129_h ⟨⟨rfl, svC_129_ok⟩, trivial⟩
/-- PlugHall.testSet, 0 -/
theorem svC_130_ok : sv_ctk sv_ty sv_tt sv_op svC_130 := sx_meth_ok sv_ty_lt sv_op_k svS_130_h svC_130_k
theorem svS_131_h : sv_all svS_131 := sv_alls svS_130_h ⟨⟨rfl, svC_130_ok⟩, trivial⟩
/-- PlugHall.shown, 0 -/
theorem svC_131_ok : sv_ctk sv_ty sv_tt sv_op svC_131 := sx_meth_ok sv_ty_lt sv_op_k svS_131_h svC_131_k
theorem svS_132_h : sv_all svS_132 := sv_alls svS_131_h ⟨⟨rfl, svC_131_ok⟩, trivial⟩
/-- PlugHall.runs, 0 -/
theorem svC_132_ok : sv_ctk sv_ty sv_tt sv_op svC_132 := sx_meth_ok sv_ty_lt sv_op_k svS_132_h svC_132_k
theorem svS_133_h : sv_all svS_133 := sv_alls svS_132_h ⟨⟨rfl, svC_132_ok⟩, trivial⟩
/-- PlugHall.wants, 0 -/
theorem svC_133_ok : sv_ctk sv_ty sv_tt sv_op svC_133 := sx_meth_ok sv_ty_lt sv_op_k svS_133_h svC_133_k
theorem svS_134_h : sv_all svS_134 := sv_alls svS_133_h ⟨⟨rfl, svC_133_ok⟩, trivial⟩
/-- PlugHall.make, 0 -/
theorem svC_134_ok : sv_ctk sv_ty sv_tt sv_op svC_134 := sx_meth_ok sv_ty_lt sv_op_k svS_134_h svC_134_k
theorem svS_135_h : sv_all svS_135 := sv_alls svS_134_h ⟨⟨rfl, svC_134_ok⟩, trivial⟩
/-- PlugHall.wanted, 0 -/
theorem svC_135_ok : sv_ctk sv_ty sv_tt sv_op svC_135 := sx_meth_ok sv_ty_lt sv_op_k svS_135_h svC_135_k
theorem svS_136_h : sv_all svS_136 := sv_alls svS_135_h ⟨⟨rfl, svC_135_ok⟩, trivial⟩
/-- PlugHall.same, 0 -/
theorem svC_136_ok : sv_ctk sv_ty sv_tt sv_op svC_136 := sx_meth_ok sv_ty_lt sv_op_k svS_136_h svC_136_k
theorem svS_137_h : sv_all svS_137 := sv_alls svS_136_h ⟨⟨rfl, svC_136_ok⟩, trivial⟩
/-- PlugHall.neededSet, 0 -/
theorem svC_137_ok : sv_ctk sv_ty sv_tt sv_op svC_137 := sx_meth_ok sv_ty_lt sv_op_k svS_137_h svC_137_k
theorem svS_138_h : sv_all svS_138 := sv_alls svS_137_h ⟨⟨rfl, svC_137_ok⟩, trivial⟩
/-- PlugHall.unseen, 0 -/
theorem svC_138_ok : sv_ctk sv_ty sv_tt sv_op svC_138 := sx_meth_ok sv_ty_lt sv_op_k svS_138_h svC_138_k
theorem svS_139_h : sv_all svS_139 := sv_alls svS_138_h ⟨⟨rfl, svC_138_ok⟩, trivial⟩
/-- PlugHall.unseenAt, 0 -/
theorem svC_139_ok : sv_ctk sv_ty sv_tt sv_op svC_139 := sx_meth_ok sv_ty_lt sv_op_k svS_139_h svC_139_k
theorem svS_140_h : sv_all svS_140 := sv_alls svS_139_h ⟨⟨rfl, svC_139_ok⟩, trivial⟩
/-- PlugHall.move, 0 -/
theorem svC_140_ok : sv_ctk sv_ty sv_tt sv_op svC_140 := sx_meth_ok sv_ty_lt sv_op_k svS_140_h svC_140_k
theorem svS_141_h : sv_all svS_141 := sv_alls svS_140_h ⟨⟨rfl, svC_140_ok⟩, trivial⟩
/-- PlugHall.keep, 0 -/
theorem svC_141_ok : sv_ctk sv_ty sv_tt sv_op svC_141 := sx_meth_ok sv_ty_lt sv_op_k svS_141_h svC_141_k
theorem svS_142_h : sv_all svS_142 := sv_alls svS_141_h ⟨⟨rfl, svC_141_ok⟩, trivial⟩
/-- PlugHall.use, 0 -/
theorem svC_142_ok : sv_ctk sv_ty sv_tt sv_op svC_142 := sx_meth_ok sv_ty_lt sv_op_k svS_142_h svC_142_k
theorem svS_143_h : sv_all svS_143 := sv_alls svS_142_h ⟨⟨rfl, svC_142_ok⟩, trivial⟩
/-- PlugHall.apart, 0 -/
theorem svC_143_ok : sv_ctk sv_ty sv_tt sv_op svC_143 := sx_meth_ok sv_ty_lt sv_op_k svS_143_h svC_143_k
theorem svS_144_h : sv_all svS_144 := sv_alls svS_143_h ⟨⟨rfl, svC_143_ok⟩, trivial⟩
/-- PlugHall.fridayAt, 0 -/
theorem svC_144_ok : sv_ctk sv_ty sv_tt sv_op svC_144 := sx_meth_ok sv_ty_lt sv_op_k svS_144_h svC_144_k
theorem svS_145_h : sv_all svS_145 := sv_alls svS_144_h ⟨⟨rfl, svC_144_ok⟩, trivial⟩
/-- PlugHall.count, 0 -/
theorem svC_145_ok : sv_ctk sv_ty sv_tt sv_op svC_145 := sx_meth_ok sv_ty_lt sv_op_k svS_145_h svC_145_k
theorem svS_146_h : sv_all svS_146 := sv_alls svS_145_h ⟨⟨rfl, svC_145_ok⟩, trivial⟩
/-- PlugHall.card, 0 -/
theorem svC_146_ok : sv_ctk sv_ty sv_tt sv_op svC_146 := sx_meth_ok sv_ty_lt sv_op_k svS_146_h svC_146_k
theorem svS_147_h : sv_all svS_147 := sv_alls svS_146_h ⟨⟨rfl, svC_146_ok⟩, trivial⟩
/-- PlugHall.board, 0 -/
theorem svC_147_ok : sv_ctk sv_ty sv_tt sv_op svC_147 := sx_meth_ok sv_ty_lt sv_op_k svS_147_h svC_147_k
theorem svS_148_h : sv_all svS_148 := sv_alls svS_147_h ⟨⟨rfl, svC_147_ok⟩, trivial⟩
/-- PlugHall.missing, 0 -/
theorem svC_148_ok : sv_ctk sv_ty sv_tt sv_op svC_148 := sx_meth_ok sv_ty_lt sv_op_k svS_148_h svC_148_k
theorem svS_149_h : sv_all svS_149 := sv_alls svS_148_h ⟨⟨rfl, svC_148_ok⟩, trivial⟩
theorem svS_150_h : sv_all svS_150 := svS_149_h
/-- PlugHall.needed, 0 -/
theorem svC_150_ok : sv_ctk sv_ty sv_tt sv_op svC_150 := sx_meth_ok sv_ty_lt sv_op_k svS_150_h svC_150_k
theorem svS_151_h : sv_all svS_151 := sv_alls svS_150_h ⟨⟨rfl, svC_150_ok⟩, trivial⟩
/-- PlugHall.moves, 0 -/
theorem svC_151_ok : sv_ctk sv_ty sv_tt sv_op svC_151 := sx_meth_ok sv_ty_lt sv_op_k svS_151_h svC_151_k
theorem svS_152_h : sv_all svS_152 := sv_alls svS_151_h ⟨⟨rfl, svC_151_ok⟩, trivial⟩
/-- PlugHall.friday, 0 -/
theorem svC_152_ok : sv_ctk sv_ty sv_tt sv_op svC_152 := sx_meth_ok sv_ty_lt sv_op_k svS_152_h svC_152_k
theorem svS_153_h : sv_all svS_153 := sv_alls svS_152_h ⟨⟨rfl, svC_152_ok⟩, trivial⟩
/-- PlugHall.feed, 0 -/
theorem svC_153_ok : sv_ctk sv_ty sv_tt sv_op svC_153 := sx_meth_ok sv_ty_lt sv_op_k svS_153_h svC_153_k
theorem svS_154_h : sv_all svS_154 := sv_alls svS_153_h ⟨⟨rfl, svC_153_ok⟩, trivial⟩
/-- PlugHall.end, 0 -/
theorem svC_154_ok : sv_ctk sv_ty sv_tt sv_op svC_154 := sx_meth_ok sv_ty_lt sv_op_k svS_154_h svC_154_k
theorem svS_155_h : sv_all svS_155 := sv_alls svS_154_h ⟨⟨rfl, svC_154_ok⟩, trivial⟩
/-- Ref.next, 0 -/
theorem svC_155_ok : sv_ctk sv_ty sv_tt sv_op svC_155 := sx_meth_ok sv_ty_lt sv_op_k svS_155_h svC_155_k
theorem svS_156_h : sv_all svS_156 := sv_alls svS_155_h ⟨⟨rfl, svC_155_ok⟩, trivial⟩
/-- Ref.sign, 0 -/
theorem svC_156_ok : sv_ctk sv_ty sv_tt sv_op svC_156 := sx_meth_ok sv_ty_lt sv_op_k svS_156_h svC_156_k
theorem svS_157_h : sv_all svS_157 := sv_alls svS_156_h ⟨⟨rfl, svC_156_ok⟩, trivial⟩
/-- Ref.takes, 0 -/
theorem svC_157_ok : sv_ctk sv_ty sv_tt sv_op svC_157 := sx_meth_ok sv_ty_lt sv_op_k svS_157_h svC_157_k
theorem svS_158_h : sv_all svS_158 := sv_alls svS_157_h ⟨⟨rfl, svC_157_ok⟩, trivial⟩
/-- Ref.isHub, 0 -/
theorem svC_158_ok : sv_ctk sv_ty sv_tt sv_op svC_158 := sx_meth_ok sv_ty_lt sv_op_k svS_158_h svC_158_k
theorem svS_159_h : sv_all svS_159 := sv_alls svS_158_h ⟨⟨rfl, svC_158_ok⟩, trivial⟩
/-- Ref.hub, 0 -/
theorem svC_159_ok : sv_ctk sv_ty sv_tt sv_op svC_159 := sx_meth_ok sv_ty_lt sv_op_k svS_159_h svC_159_k
theorem svS_160_h : sv_all svS_160 := sv_alls svS_159_h ⟨⟨rfl, svC_159_ok⟩, trivial⟩
/-- Ref.read, 0 -/
theorem svC_160_ok : sv_ctk sv_ty sv_tt sv_op svC_160 := sx_meth_ok sv_ty_lt sv_op_k svS_160_h svC_160_k
theorem svS_161_h : sv_all svS_161 := sv_alls svS_160_h ⟨⟨rfl, svC_160_ok⟩, trivial⟩
/-- Ref.copyBoard, 0 -/
theorem svC_161_ok : sv_ctk sv_ty sv_tt sv_op svC_161 := sx_meth_ok sv_ty_lt sv_op_k svS_161_h svC_161_k
theorem svS_162_h : sv_all svS_162 := sv_alls svS_161_h ⟨⟨rfl, svC_161_ok⟩, trivial⟩
/-- Ref.load, 0 -/
theorem svC_162_ok : sv_ctk sv_ty sv_tt sv_op svC_162 := sx_meth_ok sv_ty_lt sv_op_k svS_162_h svC_162_k
theorem svS_163_h : sv_all svS_163 := sv_alls svS_162_h ⟨⟨rfl, svC_162_ok⟩, trivial⟩
/-- Ref.bits, 0 -/
theorem svC_163_ok : sv_ctk sv_ty sv_tt sv_op svC_163 := svC_163_h
theorem svS_164_h : sv_all svS_164 := sv_alls svS_163_h ⟨⟨rfl, svC_163_ok⟩, trivial⟩
/-- Ref.joins, 0 -/
theorem svC_164_ok : sv_ctk sv_ty sv_tt sv_op svC_164 := sx_meth_ok sv_ty_lt sv_op_k svS_164_h svC_164_k
theorem svS_165_h : sv_all svS_165 := sv_alls svS_164_h ⟨⟨rfl, svC_164_ok⟩, trivial⟩
/-- Ref.nets, 0 -/
theorem svC_165_ok : sv_ctk sv_ty sv_tt sv_op svC_165 := svC_165_h
theorem svS_166_h : sv_all svS_166 := sv_alls svS_165_h ⟨⟨rfl, svC_165_ok⟩, trivial⟩
/-- Ref.gather, 0 -/
theorem svC_166_ok : sv_ctk sv_ty sv_tt sv_op svC_166 := svC_166_h
/-- Ref.gather, 1 -/
theorem svC_167_ok : sv_ctk sv_ty sv_tt sv_op svC_167 := sx_meth_ok sv_ty_lt sv_op_k svS_166_h svC_167_k
theorem svS_168_h : sv_all svS_168 := sv_alls svS_166_h ⟨⟨rfl, svC_166_ok⟩, ⟨rfl, svC_167_ok⟩, trivial⟩
/-- Ref.total, 0 -/
theorem svC_168_ok : sv_ctk sv_ty sv_tt sv_op svC_168 := sx_meth_ok sv_ty_lt sv_op_k svS_168_h svC_168_k
theorem svS_169_h : sv_all svS_169 := sv_alls svS_168_h ⟨⟨rfl, svC_168_ok⟩, trivial⟩
/-- Ref.prints, 0 -/
theorem svC_169_ok : sv_ctk sv_ty sv_tt sv_op svC_169 := sx_meth_ok sv_ty_lt sv_op_k svS_169_h svC_169_k
theorem svS_170_h : sv_all svS_170 := sv_alls svS_169_h ⟨⟨rfl, svC_169_ok⟩, trivial⟩
/-- Ref.turn, 0 -/
theorem svC_170_ok : sv_ctk sv_ty sv_tt sv_op svC_170 := sx_meth_ok sv_ty_lt sv_op_k svS_170_h svC_170_k
theorem svS_171_h : sv_all svS_171 := sv_alls svS_170_h ⟨⟨rfl, svC_170_ok⟩, trivial⟩
/-- Ref.cycle, 0 -/
theorem svC_171_ok : sv_ctk sv_ty sv_tt sv_op svC_171 := sx_meth2_ok sv_ty_lt sv_op_k svS_171_h wc_hnd svC_171_k
theorem svS_172_h : sv_all svS_172 := sv_alls svS_171_h ⟨⟨rfl, svC_171_ok⟩, trivial⟩
/-- Ref.play, 0 -/
theorem svC_172_ok : sv_ctk sv_ty sv_tt sv_op svC_172 := sx_meth_ok sv_ty_lt sv_op_k svS_172_h svC_172_k
theorem svS_173_h : sv_all svS_173 := sv_alls svS_172_h ⟨⟨rfl, svC_172_ok⟩, trivial⟩
/-- Ref.keepRun, 0 -/
theorem svC_173_ok : sv_ctk sv_ty sv_tt sv_op svC_173 := sx_meth_ok sv_ty_lt sv_op_k svS_173_h svC_173_k
theorem svS_174_h : sv_all svS_174 := sv_alls svS_173_h ⟨⟨rfl, svC_173_ok⟩, trivial⟩
/-- Ref.isLike, 0 -/
theorem svC_174_ok : sv_ctk sv_ty sv_tt sv_op svC_174 := sx_meth_ok sv_ty_lt sv_op_k svS_174_h svC_174_k
theorem svS_175_h : sv_all svS_175 := sv_alls svS_174_h ⟨⟨rfl, svC_174_ok⟩, trivial⟩
/-- Ref.sort, 0 -/
theorem svC_175_ok : sv_ctk sv_ty sv_tt sv_op svC_175 := sx_meth_ok sv_ty_lt sv_op_k svS_175_h svC_175_k
theorem svS_176_h : sv_all svS_176 := sv_alls svS_175_h ⟨⟨rfl, svC_175_ok⟩, trivial⟩
/-- Ref.isOrdered, 0 -/
theorem svC_176_ok : sv_ctk sv_ty sv_tt sv_op svC_176 := sx_meth_ok sv_ty_lt sv_op_k svS_176_h svC_176_k
theorem svS_177_h : sv_all svS_177 := sv_alls svS_176_h ⟨⟨rfl, svC_176_ok⟩, trivial⟩
/-- Ref.takeLines, 0 -/
theorem svC_177_ok : sv_ctk sv_ty sv_tt sv_op svC_177 := sx_meth_ok sv_ty_lt sv_op_k svS_177_h svC_177_k
theorem svS_178_h : sv_all svS_178 := sv_alls svS_177_h ⟨⟨rfl, svC_177_ok⟩, trivial⟩
/-- Ref.isWanted, 0 -/
theorem svC_178_ok : sv_ctk sv_ty sv_tt sv_op svC_178 := sx_meth_ok sv_ty_lt sv_op_k svS_178_h svC_178_k
theorem svS_179_h : sv_all svS_179 := sv_alls svS_178_h ⟨⟨rfl, svC_178_ok⟩, trivial⟩
/-- Ref.named, 0 -/
theorem svC_179_ok : sv_ctk sv_ty sv_tt sv_op svC_179 := sx_meth_ok sv_ty_lt sv_op_k svS_179_h svC_179_k
theorem svS_180_h : sv_all svS_180 := sv_alls svS_179_h ⟨⟨rfl, svC_179_ok⟩, trivial⟩
/-- Ref.beginOf, 0 -/
theorem svC_180_ok : sv_ctk sv_ty sv_tt sv_op svC_180 := sx_meth_ok sv_ty_lt sv_op_k svS_180_h svC_180_k
theorem svS_181_h : sv_all svS_181 := sv_alls svS_180_h ⟨⟨rfl, svC_180_ok⟩, trivial⟩
/-- Ref.differ, 0 -/
theorem svC_181_ok : sv_ctk sv_ty sv_tt sv_op svC_181 := sx_meth_ok sv_ty_lt sv_op_k svS_181_h svC_181_k
theorem svS_182_h : sv_all svS_182 := sv_alls svS_181_h ⟨⟨rfl, svC_181_ok⟩, trivial⟩
/-- Ref.cards, 0 -/
theorem svC_182_ok : sv_ctk sv_ty sv_tt sv_op svC_182 := sx_meth_ok sv_ty_lt sv_op_k svS_182_h svC_182_k
theorem svS_183_h : sv_all svS_183 := sv_alls svS_182_h ⟨⟨rfl, svC_182_ok⟩, trivial⟩
/-- Ref.column, 0 -/
theorem svC_183_ok : sv_ctk sv_ty sv_tt sv_op svC_183 := sx_meth_ok sv_ty_lt sv_op_k svS_183_h svC_183_k
theorem svS_184_h : sv_all svS_184 := sv_alls svS_183_h ⟨⟨rfl, svC_183_ok⟩, trivial⟩
/-- Ref.empty, 0 -/
theorem svC_184_ok : sv_ctk sv_ty sv_tt sv_op svC_184 := sx_meth_ok sv_ty_lt sv_op_k svS_184_h svC_184_k
theorem svS_185_h : sv_all svS_185 := sv_alls svS_184_h ⟨⟨rfl, svC_184_ok⟩, trivial⟩
/-- Ref.fault, 0 -/
theorem svC_185_ok : sv_ctk sv_ty sv_tt sv_op svC_185 := sx_meth_ok sv_ty_lt sv_op_k svS_185_h svC_185_k
theorem svS_186_h : sv_all svS_186 := sv_alls svS_185_h ⟨⟨rfl, svC_185_ok⟩, trivial⟩
/-- Ref.run, 0 -/
theorem svC_186_ok : sv_ctk sv_ty sv_tt sv_op svC_186 := sx_meth_ok sv_ty_lt sv_op_k svS_186_h svC_186_k
theorem svS_187_h : sv_all svS_187 := sv_alls svS_186_h ⟨⟨rfl, svC_186_ok⟩, trivial⟩
/-- Ref.ran, 0 -/
theorem svC_187_ok : sv_ctk sv_ty sv_tt sv_op svC_187 := sx_meth_ok sv_ty_lt sv_op_k svS_187_h svC_187_k
theorem svS_188_h : sv_all svS_188 := sv_alls svS_187_h ⟨⟨rfl, svC_187_ok⟩, trivial⟩
/-- Ref.bar, 0 -/
theorem svC_188_ok : sv_ctk sv_ty sv_tt sv_op svC_188 := sx_meth_ok sv_ty_lt sv_op_k svS_188_h svC_188_k
theorem svS_189_h : sv_all svS_189 := sv_alls svS_188_h ⟨⟨rfl, svC_188_ok⟩, trivial⟩
/-- Ref.wheel, 0 -/
theorem svC_189_ok : sv_ctk sv_ty sv_tt sv_op svC_189 := sx_meth_ok sv_ty_lt sv_op_k svS_189_h svC_189_k
theorem svS_190_h : sv_all svS_190 := sv_alls svS_189_h ⟨⟨rfl, svC_189_ok⟩, trivial⟩
/-- Ref.pass, 0 -/
theorem svC_190_ok : sv_ctk sv_ty sv_tt sv_op svC_190 := sx_meth_ok sv_ty_lt sv_op_k svS_190_h svC_190_k
theorem svS_191_h : sv_all svS_191 := sv_alls svS_190_h ⟨⟨rfl, svC_190_ok⟩, trivial⟩
/-- Ref.idle, 0 -/
theorem svC_191_ok : sv_ctk sv_ty sv_tt sv_op svC_191 := sx_meth_ok sv_ty_lt sv_op_k svS_191_h svC_191_k
theorem svS_192_h : sv_all svS_192 := sv_alls svS_191_h ⟨⟨rfl, svC_191_ok⟩, trivial⟩
/-- Ref.wire, 0 -/
theorem svC_192_ok : sv_ctk sv_ty sv_tt sv_op svC_192 := sx_meth_ok sv_ty_lt sv_op_k svS_192_h svC_192_k
theorem svS_193_h : sv_all svS_193 := sv_alls svS_192_h ⟨⟨rfl, svC_192_ok⟩, trivial⟩
/-- Ref.tests, 0 -/
theorem svC_193_ok : sv_ctk sv_ty sv_tt sv_op svC_193 := sx_meth_ok sv_ty_lt sv_op_k svS_193_h svC_193_k
theorem svS_194_h : sv_all svS_194 := sv_alls svS_193_h ⟨⟨rfl, svC_193_ok⟩, trivial⟩
/-- Ref.testSet, 0 -/
theorem svC_194_ok : sv_ctk sv_ty sv_tt sv_op svC_194 := sx_meth_ok sv_ty_lt sv_op_k svS_194_h svC_194_k
theorem svS_195_h : sv_all svS_195 := sv_alls svS_194_h ⟨⟨rfl, svC_194_ok⟩, trivial⟩
/-- Ref.shown, 0 -/
theorem svC_195_ok : sv_ctk sv_ty sv_tt sv_op svC_195 := sx_meth_ok sv_ty_lt sv_op_k svS_195_h svC_195_k
theorem svS_196_h : sv_all svS_196 := sv_alls svS_195_h ⟨⟨rfl, svC_195_ok⟩, trivial⟩
/-- Ref.make0, 0 -/
theorem svC_196_ok : sv_ctk sv_ty sv_tt sv_op svC_196 := svC_196_h
theorem svS_197_h : sv_all svS_197 := sv_alls svS_196_h ⟨⟨rfl, svC_196_ok⟩, trivial⟩
/-- Ref.plan, 0 -/
theorem svC_197_ok : sv_ctk sv_ty sv_tt sv_op svC_197 := svC_197_h
theorem svS_198_h : sv_all svS_198 := sv_alls svS_197_h ⟨⟨rfl, svC_197_ok⟩, trivial⟩
/-- Ref.runs, 0 -/
theorem svC_198_ok : sv_ctk sv_ty sv_tt sv_op svC_198 := sx_meth_ok sv_ty_lt sv_op_k svS_198_h svC_198_k
theorem svS_199_h : sv_all svS_199 := sv_alls svS_198_h ⟨⟨rfl, svC_198_ok⟩, trivial⟩
/-- Ref.part, 0 -/
theorem svC_199_ok : sv_ctk sv_ty sv_tt sv_op svC_199 := svC_199_h
theorem svS_200_h : sv_all svS_200 := sv_alls svS_199_h ⟨⟨rfl, svC_199_ok⟩, trivial⟩
/-- Ref.wants, 0 -/
theorem svC_200_ok : sv_ctk sv_ty sv_tt sv_op svC_200 := sx_meth_ok sv_ty_lt sv_op_k svS_200_h svC_200_k
theorem svS_201_h : sv_all svS_201 := sv_alls svS_200_h ⟨⟨rfl, svC_200_ok⟩, trivial⟩
/-- Ref.make, 0 -/
theorem svC_201_ok : sv_ctk sv_ty sv_tt sv_op svC_201 := sx_meth_ok sv_ty_lt sv_op_k svS_201_h svC_201_k
theorem svS_202_h : sv_all svS_202 := sv_alls svS_201_h ⟨⟨rfl, svC_201_ok⟩, trivial⟩
/-- Ref.added, 0 -/
theorem svC_202_ok : sv_ctk sv_ty sv_tt sv_op svC_202 := sx_meth_ok sv_ty_lt sv_op_k svS_202_h svC_202_k
theorem svS_203_h : sv_all svS_203 := sv_alls svS_202_h ⟨⟨rfl, svC_202_ok⟩, trivial⟩
/-- Ref.dueLine, 0 -/
theorem svC_203_ok : sv_ctk sv_ty sv_tt sv_op svC_203 := svC_203_h
theorem svS_204_h : sv_all svS_204 := sv_alls svS_203_h ⟨⟨rfl, svC_203_ok⟩, trivial⟩
/-- Ref.dues, 0 -/
theorem svC_204_ok : sv_ctk sv_ty sv_tt sv_op svC_204 := sx_meth_ok sv_ty_lt sv_op_k svS_204_h svC_204_k
theorem svS_205_h : sv_all svS_205 := sv_alls svS_204_h ⟨⟨rfl, svC_204_ok⟩, trivial⟩
/-- Ref.wanted, 0 -/
theorem svC_205_ok : sv_ctk sv_ty sv_tt sv_op svC_205 := sx_meth_ok sv_ty_lt sv_op_k svS_205_h svC_205_k
theorem svS_206_h : sv_all svS_206 := sv_alls svS_205_h ⟨⟨rfl, svC_205_ok⟩, trivial⟩
/-- Ref.wantedAt, 0 -/
theorem svC_206_ok : sv_ctk sv_ty sv_tt sv_op svC_206 := sx_meth_ok sv_ty_lt sv_op_k svS_206_h svC_206_k
theorem svS_207_h : sv_all svS_207 := sv_alls svS_206_h ⟨⟨rfl, svC_206_ok⟩, trivial⟩
/-- Ref.same, 0 -/
theorem svC_207_ok : sv_ctk sv_ty sv_tt sv_op svC_207 := sx_meth_ok sv_ty_lt sv_op_k svS_207_h svC_207_k
theorem svS_208_h : sv_all svS_208 := sv_alls svS_207_h ⟨⟨rfl, svC_207_ok⟩, trivial⟩
/-- Ref.neededSet, 0 -/
theorem svC_208_ok : sv_ctk sv_ty sv_tt sv_op svC_208 := sx_meth_ok sv_ty_lt sv_op_k svS_208_h svC_208_k
theorem svS_209_h : sv_all svS_209 := sv_alls svS_208_h ⟨⟨rfl, svC_208_ok⟩, trivial⟩
/-- Ref.unseen, 0 -/
theorem svC_209_ok : sv_ctk sv_ty sv_tt sv_op svC_209 := sx_meth_ok sv_ty_lt sv_op_k svS_209_h svC_209_k
theorem svS_210_h : sv_all svS_210 := sv_alls svS_209_h ⟨⟨rfl, svC_209_ok⟩, trivial⟩
/-- Ref.unseenAt, 0 -/
theorem svC_210_ok : sv_ctk sv_ty sv_tt sv_op svC_210 := sx_meth_ok sv_ty_lt sv_op_k svS_210_h svC_210_k
theorem svS_211_h : sv_all svS_211 := sv_alls svS_210_h ⟨⟨rfl, svC_210_ok⟩, trivial⟩
/-- Ref.move, 0 -/
theorem svC_211_ok : sv_ctk sv_ty sv_tt sv_op svC_211 := sx_meth_ok sv_ty_lt sv_op_k svS_211_h svC_211_k
theorem svS_212_h : sv_all svS_212 := sv_alls svS_211_h ⟨⟨rfl, svC_211_ok⟩, trivial⟩
/-- Ref.keep, 0 -/
theorem svC_212_ok : sv_ctk sv_ty sv_tt sv_op svC_212 := sx_meth_ok sv_ty_lt sv_op_k svS_212_h svC_212_k
theorem svS_213_h : sv_all svS_213 := sv_alls svS_212_h ⟨⟨rfl, svC_212_ok⟩, trivial⟩
/-- Ref.use, 0 -/
theorem svC_213_ok : sv_ctk sv_ty sv_tt sv_op svC_213 := sx_meth_ok sv_ty_lt sv_op_k svS_213_h svC_213_k
theorem svS_214_h : sv_all svS_214 := sv_alls svS_213_h ⟨⟨rfl, svC_213_ok⟩, trivial⟩
/-- Ref.apart, 0 -/
theorem svC_214_ok : sv_ctk sv_ty sv_tt sv_op svC_214 := sx_meth_ok sv_ty_lt sv_op_k svS_214_h svC_214_k
theorem svS_215_h : sv_all svS_215 := sv_alls svS_214_h ⟨⟨rfl, svC_214_ok⟩, trivial⟩
/-- Ref.fridayAt, 0 -/
theorem svC_215_ok : sv_ctk sv_ty sv_tt sv_op svC_215 := sx_meth_ok sv_ty_lt sv_op_k svS_215_h svC_215_k
theorem svS_216_h : sv_all svS_216 := sv_alls svS_215_h ⟨⟨rfl, svC_215_ok⟩, trivial⟩
/-- Ref.count, 0 -/
theorem svC_216_ok : sv_ctk sv_ty sv_tt sv_op svC_216 := sx_meth_ok sv_ty_lt sv_op_k svS_216_h svC_216_k
theorem svS_217_h : sv_all svS_217 := sv_alls svS_216_h ⟨⟨rfl, svC_216_ok⟩, trivial⟩
/-- Ref.card, 0 -/
theorem svC_217_ok : sv_ctk sv_ty sv_tt sv_op svC_217 := sx_meth_ok sv_ty_lt sv_op_k svS_217_h svC_217_k
theorem svS_218_h : sv_all svS_218 := sv_alls svS_217_h ⟨⟨rfl, svC_217_ok⟩, trivial⟩
/-- Ref.board, 0 -/
theorem svC_218_ok : sv_ctk sv_ty sv_tt sv_op svC_218 := sx_meth_ok sv_ty_lt sv_op_k svS_218_h svC_218_k
theorem svS_219_h : sv_all svS_219 := sv_alls svS_218_h ⟨⟨rfl, svC_218_ok⟩, trivial⟩
/-- Ref.missing, 0 -/
theorem svC_219_ok : sv_ctk sv_ty sv_tt sv_op svC_219 := sx_meth_ok sv_ty_lt sv_op_k svS_219_h svC_219_k
theorem svS_220_h : sv_all svS_220 := sv_alls svS_219_h ⟨⟨rfl, svC_219_ok⟩, trivial⟩
/-- Ref.breaks, 0 -/
theorem svC_220_ok : sv_ctk sv_ty sv_tt sv_op svC_220 := sx_meth_ok sv_ty_lt sv_op_k svS_220_h svC_220_k
theorem svS_221_h : sv_all svS_221 := sv_alls svS_220_h ⟨⟨rfl, svC_220_ok⟩, trivial⟩
/-- Ref.field, 0 -/
theorem svC_221_ok : sv_ctk sv_ty sv_tt sv_op svC_221 := sx_meth_ok sv_ty_lt sv_op_k svS_221_h svC_221_k
theorem svS_222_h : sv_all svS_222 := sv_alls svS_221_h ⟨⟨rfl, svC_221_ok⟩, trivial⟩
/-- Ref.want, 0 -/
theorem svC_222_ok : sv_ctk sv_ty sv_tt sv_op svC_222 := sx_meth_ok sv_ty_lt sv_op_k svS_222_h svC_222_k
theorem svS_223_h : sv_all svS_223 := sv_alls svS_222_h ⟨⟨rfl, svC_222_ok⟩, trivial⟩
/-- Ref.readJob, 0 -/
theorem svC_223_ok : sv_ctk sv_ty sv_tt sv_op svC_223 := sx_meth_ok sv_ty_lt sv_op_k svS_223_h svC_223_k
theorem svS_224_h : sv_all svS_224 := sv_alls svS_223_h ⟨⟨rfl, svC_223_ok⟩, trivial⟩
/-- Ref.job, 0 -/
theorem svC_224_ok : sv_ctk sv_ty sv_tt sv_op svC_224 := sx_meth_ok sv_ty_lt sv_op_k svS_224_h svC_224_k
theorem svS_225_h : sv_all svS_225 := sv_alls svS_224_h ⟨⟨rfl, svC_224_ok⟩, trivial⟩
/-- Ref.needed, 0 -/
theorem svC_225_ok : sv_ctk sv_ty sv_tt sv_op svC_225 := sx_meth_ok sv_ty_lt sv_op_k svS_225_h svC_225_k
theorem svS_226_h : sv_all svS_226 := sv_alls svS_225_h ⟨⟨rfl, svC_225_ok⟩, trivial⟩
/-- Ref.moves, 0 -/
theorem svC_226_ok : sv_ctk sv_ty sv_tt sv_op svC_226 := sx_meth_ok sv_ty_lt sv_op_k svS_226_h svC_226_k
theorem svS_227_h : sv_all svS_227 := sv_alls svS_226_h ⟨⟨rfl, svC_226_ok⟩, trivial⟩
/-- Ref.ends, 0 -/
theorem svC_227_ok : sv_ctk sv_ty sv_tt sv_op svC_227 := sx_meth_ok sv_ty_lt sv_op_k svS_227_h svC_227_k
theorem svS_228_h : sv_all svS_228 := sv_alls svS_227_h ⟨⟨rfl, svC_227_ok⟩, trivial⟩
/-- Ref.spell, 0 -/
theorem svC_228_ok : sv_ctk sv_ty sv_tt sv_op svC_228 := sx_meth_ok sv_ty_lt sv_op_k svS_228_h svC_228_k
/-- Ref.spell, 1 -/
theorem svC_229_ok : sv_ctk sv_ty sv_tt sv_op svC_229 := sx_meth_ok sv_ty_lt sv_op_k svS_228_h svC_229_k
/-- Ref.spell, 2 -/
theorem svC_230_ok : sv_ctk sv_ty sv_tt sv_op svC_230 := sx_meth_ok sv_ty_lt sv_op_k svS_228_h svC_230_k
/-- Ref.spell, 3 -/
theorem svC_231_ok : sv_ctk sv_ty sv_tt sv_op svC_231 := sx_meth_ok sv_ty_lt sv_op_k svS_228_h svC_231_k
/-- Ref.spell, 4 -/
theorem svC_232_ok : sv_ctk sv_ty sv_tt sv_op svC_232 := sx_meth_ok sv_ty_lt sv_op_k svS_228_h svC_232_k
/-- Ref.spell, 5 -/
theorem svC_233_ok : sv_ctk sv_ty sv_tt sv_op svC_233 := sx_meth_ok sv_ty_lt sv_op_k svS_228_h svC_233_k
theorem svS_234_h : sv_all svS_234 := sv_alls svS_228_h ⟨⟨rfl, svC_228_ok⟩, ⟨rfl, svC_229_ok⟩, ⟨rfl, svC_230_ok⟩, ⟨rfl, svC_231_ok⟩, ⟨rfl, svC_232_ok⟩, ⟨rfl, svC_233_ok⟩, trivial⟩
/-- Ref.friday, 0 -/
theorem svC_234_ok : sv_ctk sv_ty sv_tt sv_op svC_234 := sx_meth_ok sv_ty_lt sv_op_k svS_234_h svC_234_k
theorem svS_235_h : sv_all svS_235 := sv_alls svS_234_h ⟨⟨rfl, svC_234_ok⟩, trivial⟩
/-- Ref.feed, 0 -/
theorem svC_235_ok : sv_ctk sv_ty sv_tt sv_op svC_235 := sx_meth_ok sv_ty_lt sv_op_k svS_235_h svC_235_k
theorem svS_236_h : sv_all svS_236 := sv_alls svS_235_h ⟨⟨rfl, svC_235_ok⟩, trivial⟩
/-- Ref.end, 0 -/
theorem svC_236_ok : sv_ctk sv_ty sv_tt sv_op svC_236 := sx_meth_ok sv_ty_lt sv_op_k svS_236_h svC_236_k
theorem svS_237_h : sv_all svS_237 := sv_alls svS_236_h ⟨⟨rfl, svC_236_ok⟩, trivial⟩
