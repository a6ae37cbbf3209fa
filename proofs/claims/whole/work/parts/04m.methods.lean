/-! ===== printed: the table of methods ===== -/
abbrev mRow : Type := MethodName × ByteArray × Nat × Option FieldType × Nat × Bool × Bool × mC
def chkA (o : Nat) (b z : Bool) (bs : ByteArray) (cd : mC) : Prop := ∀ pc, chk o b z bs pc (cd pc) = true
theorem chkA_of {o : Nat} {b z : Bool} {bs : ByteArray} {cd : mC} {n : Nat} (h : chkM o b z bs cd n) (hn : ∀ pc, n ≤ pc → cd pc = none) : chkA o b z bs cd := by
  intro pc
  by_cases q : pc < n
  · exact h pc q
  · rw [hn pc (Nat.le_of_not_lt q)]; rfl
def rowOk (r : mRow) : Prop := chkA r.2.2.2.2.1 r.2.2.2.2.2.1 r.2.2.2.2.2.2.1 r.2.1 r.2.2.2.2.2.2.2
noncomputable def mr_0 : mRow := (⟨"WindParkLaw", "law", "([I)Z"⟩, code, 4, (some (.boolean)), 14, false, true, cd_0)
theorem mo_0 : rowOk mr_0 := chkA_of ok_0 fun pc h => by show cond (Nat.ble 1701 pc) none _ = none; rw [Nat.ble_eq_true_of_le h]; rfl
noncomputable def mr_4 : mRow := (⟨"WindPark", "<init>", "(I)V"⟩, prog_1_method_1_code, 2, none, 10, true, false, cd_4)
theorem mo_4 : rowOk mr_4 := chkA_of ok_4 fun pc h => by show cond (Nat.ble 65 pc) none _ = none; rw [Nat.ble_eq_true_of_le h]; rfl
noncomputable def mr_5 : mRow := (⟨"WindPark$Trace", "<init>", "()V"⟩, prog_10_method_1_code, 1, none, 7, true, false, cd_5)
theorem mo_5 : rowOk mr_5 := chkA_of ok_5 fun pc h => by show cond (Nat.ble 13 pc) none _ = none; rw [Nat.ble_eq_true_of_le h]; rfl
noncomputable def mr_6 : mRow := (⟨"WindPark$Farm", "<init>", "(I)V"⟩, prog_3_method_1_code, 3, none, 2, true, false, cd_6)
theorem mo_6 : rowOk mr_6 := chkA_of ok_6 fun pc h => by show cond (Nat.ble 64 pc) none _ = none; rw [Nat.ble_eq_true_of_le h]; rfl
noncomputable def mr_7 : mRow := (⟨"WindPark$Turbine", "<init>", "(I)V"⟩, prog_11_method_1_code, 2, none, 8, true, false, cd_7)
theorem mo_7 : rowOk mr_7 := chkA_of ok_7 fun pc h => by show cond (Nat.ble 71 pc) none _ = none; rw [Nat.ble_eq_true_of_le h]; rfl
noncomputable def mr_8 : mRow := (⟨"WindPark$Acts", "<init>", "()V"⟩, prog_2_method_1_code, 1, none, 1, true, false, cd_8)
theorem mo_8 : rowOk mr_8 := chkA_of ok_8 fun pc h => by show cond (Nat.ble 56 pc) none _ = none; rw [Nat.ble_eq_true_of_le h]; rfl
noncomputable def mr_9 : mRow := (⟨"WindPark$Hand", "<init>", "(I)V"⟩, prog_4_method_1_code, 2, none, 3, true, false, cd_9)
theorem mo_9 : rowOk mr_9 := chkA_of ok_9 fun pc h => by show cond (Nat.ble 20 pc) none _ = none; rw [Nat.ble_eq_true_of_le h]; rfl
noncomputable def mr_10 : mRow := (⟨"WindPark$Undo", "<init>", "(I)V"⟩, prog_12_method_1_code, 2, none, 9, true, false, cd_10)
theorem mo_10 : rowOk mr_10 := chkA_of ok_10 fun pc h => by show cond (Nat.ble 45 pc) none _ = none; rw [Nat.ble_eq_true_of_le h]; rfl
noncomputable def mr_11 : mRow := (⟨"WindPark", "row", "(III)I"⟩, prog_1_method_2_code, 4, (some (.int)), 10, false, false, cd_11)
theorem mo_11 : rowOk mr_11 := chkA_of ok_11 fun pc h => by show cond (Nat.ble 67 pc) none _ = none; rw [Nat.ble_eq_true_of_le h]; rfl
noncomputable def mr_12 : mRow := (⟨"WindPark", "isCase", "(I)Z"⟩, prog_1_method_42_code, 1, (some (.boolean)), 10, false, true, cd_12)
theorem mo_12 : rowOk mr_12 := chkA_of ok_12 fun pc h => by show cond (Nat.ble 16 pc) none _ = none; rw [Nat.ble_eq_true_of_le h]; rfl
noncomputable def mr_13 : mRow := (⟨"WindPark", "refuse", "(I)I"⟩, prog_1_method_40_code, 2, (some (.int)), 10, false, false, cd_13)
theorem mo_13 : rowOk mr_13 := chkA_of ok_13 fun pc h => by show cond (Nat.ble 7 pc) none _ = none; rw [Nat.ble_eq_true_of_le h]; rfl
noncomputable def mr_14 : mRow := (⟨"WindPark", "isLane", "(I)Z"⟩, prog_1_method_43_code, 1, (some (.boolean)), 10, false, true, cd_14)
theorem mo_14 : rowOk mr_14 := chkA_of ok_14 fun pc h => by show cond (Nat.ble 16 pc) none _ = none; rw [Nat.ble_eq_true_of_le h]; rfl
noncomputable def mr_15 : mRow := (⟨"WindPark$Row", "<init>", "(II)V"⟩, prog_7_method_1_code, 3, none, 5, true, false, cd_15)
theorem mo_15 : rowOk mr_15 := chkA_of ok_15 fun pc h => by show cond (Nat.ble 17 pc) none _ = none; rw [Nat.ble_eq_true_of_le h]; rfl
noncomputable def mr_16 : mRow := (⟨"WindPark$Thing", "<init>", "()V"⟩, prog_9_method_1_code, 1, none, 13, true, false, cd_16)
theorem mo_16 : rowOk mr_16 := chkA_of ok_16 fun pc h => by show cond (Nat.ble 5 pc) none _ = none; rw [Nat.ble_eq_true_of_le h]; rfl
noncomputable def mr_17 : mRow := (⟨"WindPark", "grid", "(III)I"⟩, prog_1_method_3_code, 6, (some (.int)), 10, false, false, cd_17)
theorem mo_17 : rowOk mr_17 := chkA_of ok_17 fun pc h => by show cond (Nat.ble 111 pc) none _ = none; rw [Nat.ble_eq_true_of_le h]; rfl
noncomputable def mr_18 : mRow := (⟨"WindPark$Shelf", "<init>", "(II)V"⟩, prog_8_method_1_code, 3, none, 6, true, false, cd_18)
theorem mo_18 : rowOk mr_18 := chkA_of ok_18 fun pc h => by show cond (Nat.ble 18 pc) none _ = none; rw [Nat.ble_eq_true_of_le h]; rfl
noncomputable def mr_19 : mRow := (⟨"WindPark", "cradle", "(III)I"⟩, prog_1_method_4_code, 4, (some (.int)), 10, false, false, cd_19)
theorem mo_19 : rowOk mr_19 := chkA_of ok_19 fun pc h => by show cond (Nat.ble 67 pc) none _ = none; rw [Nat.ble_eq_true_of_le h]; rfl
noncomputable def mr_20 : mRow := (⟨"WindPark", "isKind", "(I)Z"⟩, prog_1_method_45_code, 1, (some (.boolean)), 10, false, true, cd_20)
theorem mo_20 : rowOk mr_20 := chkA_of ok_20 fun pc h => by show cond (Nat.ble 16 pc) none _ = none; rw [Nat.ble_eq_true_of_le h]; rfl
noncomputable def mr_21 : mRow := (⟨"WindPark", "part", "(II)I"⟩, prog_1_method_5_code, 4, (some (.int)), 10, false, false, cd_21)
theorem mo_21 : rowOk mr_21 := chkA_of ok_21 fun pc h => by show cond (Nat.ble 87 pc) none _ = none; rw [Nat.ble_eq_true_of_le h]; rfl
noncomputable def mr_22 : mRow := (⟨"WindPark$Part", "<init>", "(II)V"⟩, prog_6_method_1_code, 3, none, 4, true, false, cd_22)
theorem mo_22 : rowOk mr_22 := chkA_of ok_22 fun pc h => by show cond (Nat.ble 15 pc) none _ = none; rw [Nat.ble_eq_true_of_le h]; rfl
noncomputable def mr_23 : mRow := (⟨"WindPark", "set", "(II)I"⟩, prog_1_method_6_code, 3, (some (.int)), 10, false, false, cd_23)
theorem mo_23 : rowOk mr_23 := chkA_of ok_23 fun pc h => by show cond (Nat.ble 57 pc) none _ = none; rw [Nat.ble_eq_true_of_le h]; rfl
noncomputable def mr_24 : mRow := (⟨"WindPark", "clear", "(I)I"⟩, prog_1_method_7_code, 2, (some (.int)), 10, false, false, cd_24)
theorem mo_24 : rowOk mr_24 := chkA_of ok_24 fun pc h => by show cond (Nat.ble 39 pc) none _ = none; rw [Nat.ble_eq_true_of_le h]; rfl
noncomputable def mr_25 : mRow := (⟨"WindPark", "holds", "(I)I"⟩, prog_1_method_8_code, 3, (some (.int)), 10, false, false, cd_25)
theorem mo_25 : rowOk mr_25 := chkA_of ok_25 fun pc h => by show cond (Nat.ble 39 pc) none _ = none; rw [Nat.ble_eq_true_of_le h]; rfl
noncomputable def mr_26 : mRow := (⟨"WindPark$Part", "sort", "()I"⟩, prog_6_method_7_code, 1, (some (.int)), 4, false, false, cd_26)
theorem mo_26 : rowOk mr_26 := chkA_of ok_26 fun pc h => by show cond (Nat.ble 3 pc) none _ = none; rw [Nat.ble_eq_true_of_le h]; rfl
noncomputable def mr_27 : mRow := (⟨"WindPark$Row", "sort", "()I"⟩, prog_7_method_4_code, 1, (some (.int)), 5, false, false, cd_27)
theorem mo_27 : rowOk mr_27 := chkA_of ok_27 fun pc h => by show cond (Nat.ble 5 pc) none _ = none; rw [Nat.ble_eq_true_of_le h]; rfl
noncomputable def mr_28 : mRow := (⟨"WindPark$Shelf", "sort", "()I"⟩, prog_8_method_3_code, 1, (some (.int)), 6, false, false, cd_28)
theorem mo_28 : rowOk mr_28 := chkA_of ok_28 fun pc h => by show cond (Nat.ble 16 pc) none _ = none; rw [Nat.ble_eq_true_of_le h]; rfl
noncomputable def mr_29 : mRow := (⟨"WindPark", "put", "(IIIJ)I"⟩, prog_1_method_9_code, 7, (some (.int)), 10, false, false, cd_29)
theorem mo_29 : rowOk mr_29 := chkA_of ok_29 fun pc h => by show cond (Nat.ble 39 pc) none _ = none; rw [Nat.ble_eq_true_of_le h]; rfl
noncomputable def mr_30 : mRow := (⟨"WindPark", "rowToUse", "(III)LWindPark$Row;"⟩, prog_1_method_50_code, 5, (some (.object "WindPark$Row")), 10, false, false, cd_30)
theorem mo_30 : rowOk mr_30 := chkA_of ok_30 fun pc h => by show cond (Nat.ble 64 pc) none _ = none; rw [Nat.ble_eq_true_of_le h]; rfl
noncomputable def mr_31 : mRow := (⟨"WindPark", "rowIn", "(II)LWindPark$Row;"⟩, prog_1_method_47_code, 5, (some (.object "WindPark$Row")), 10, false, false, cd_31)
theorem mo_31 : rowOk mr_31 := chkA_of ok_31 fun pc h => by show cond (Nat.ble 49 pc) none _ = none; rw [Nat.ble_eq_true_of_le h]; rfl
noncomputable def mr_32 : mRow := (⟨"WindPark$Thing", "reaches", "(II)Z"⟩, prog_9_method_7_code, 3, (some (.boolean)), 13, false, true, cd_32)
theorem mo_32 : rowOk mr_32 := chkA_of ok_32 fun pc h => by show cond (Nat.ble 24 pc) none _ = none; rw [Nat.ble_eq_true_of_le h]; rfl
noncomputable def mr_33 : mRow := (⟨"WindPark$Part", "size", "()I"⟩, prog_6_method_8_code, 1, (some (.int)), 4, false, false, cd_33)
theorem mo_33 : rowOk mr_33 := chkA_of ok_33 fun pc h => by show cond (Nat.ble 2 pc) none _ = none; rw [Nat.ble_eq_true_of_le h]; rfl
noncomputable def mr_34 : mRow := (⟨"WindPark$Row", "size", "()I"⟩, prog_7_method_5_code, 1, (some (.int)), 5, false, false, cd_34)
theorem mo_34 : rowOk mr_34 := chkA_of ok_34 fun pc h => by show cond (Nat.ble 6 pc) none _ = none; rw [Nat.ble_eq_true_of_le h]; rfl
noncomputable def mr_35 : mRow := (⟨"WindPark$Shelf", "size", "()I"⟩, prog_8_method_4_code, 1, (some (.int)), 6, false, false, cd_35)
theorem mo_35 : rowOk mr_35 := chkA_of ok_35 fun pc h => by show cond (Nat.ble 6 pc) none _ = none; rw [Nat.ble_eq_true_of_le h]; rfl
noncomputable def mr_36 : mRow := (⟨"WindPark$Row", "fitted", "(IJ)J"⟩, prog_7_method_2_code, 3, (some (.long)), 5, false, false, cd_36)
theorem mo_36 : rowOk mr_36 := chkA_of ok_36 fun pc h => by show cond (Nat.ble 102 pc) none _ = none; rw [Nat.ble_eq_true_of_le h]; rfl
noncomputable def mr_37 : mRow := (⟨"WindPark$Numbers", "isFloatNumber", "(I)Z"⟩, prog_5_method_3_code, 1, (some (.boolean)), 12, false, true, cd_37)
theorem mo_37 : rowOk mr_37 := chkA_of ok_37 fun pc h => by show cond (Nat.ble 15 pc) none _ = none; rw [Nat.ble_eq_true_of_le h]; rfl
noncomputable def mr_38 : mRow := (⟨"WindPark$Numbers", "isNumber", "(J)Z"⟩, prog_5_method_2_code, 2, (some (.boolean)), 12, false, true, cd_38)
theorem mo_38 : rowOk mr_38 := chkA_of ok_38 fun pc h => by show cond (Nat.ble 17 pc) none _ = none; rw [Nat.ble_eq_true_of_le h]; rfl
noncomputable def mr_39 : mRow := (⟨"WindPark$Numbers", "sizeOf", "(J)J"⟩, prog_5_method_4_code, 2, (some (.long)), 12, false, false, cd_39)
theorem mo_39 : rowOk mr_39 := chkA_of ok_39 fun pc h => by show cond (Nat.ble 6 pc) none _ = none; rw [Nat.ble_eq_true_of_le h]; rfl
noncomputable def mr_40 : mRow := (⟨"WindPark", "get", "(III)J"⟩, prog_1_method_10_code, 5, (some (.long)), 10, false, false, cd_40)
theorem mo_40 : rowOk mr_40 := chkA_of ok_40 fun pc h => by show cond (Nat.ble 31 pc) none _ = none; rw [Nat.ble_eq_true_of_le h]; rfl
noncomputable def mr_41 : mRow := (⟨"WindPark", "putAt", "(IIII)I"⟩, prog_1_method_11_code, 6, (some (.int)), 10, false, false, cd_41)
theorem mo_41 : rowOk mr_41 := chkA_of ok_41 fun pc h => by show cond (Nat.ble 36 pc) none _ = none; rw [Nat.ble_eq_true_of_le h]; rfl
noncomputable def mr_42 : mRow := (⟨"WindPark", "gridRowToUse", "(III)LWindPark$Row;"⟩, prog_1_method_51_code, 7, (some (.object "WindPark$Row")), 10, false, false, cd_42)
theorem mo_42 : rowOk mr_42 := chkA_of ok_42 fun pc h => by show cond (Nat.ble 115 pc) none _ = none; rw [Nat.ble_eq_true_of_le h]; rfl
noncomputable def mr_43 : mRow := (⟨"WindPark", "shelfIn", "(II)LWindPark$Shelf;"⟩, prog_1_method_48_code, 5, (some (.object "WindPark$Shelf")), 10, false, false, cd_43)
theorem mo_43 : rowOk mr_43 := chkA_of ok_43 fun pc h => by show cond (Nat.ble 49 pc) none _ = none; rw [Nat.ble_eq_true_of_le h]; rfl
noncomputable def mr_44 : mRow := (⟨"WindPark", "getAt", "(III)I"⟩, prog_1_method_12_code, 5, (some (.int)), 10, false, false, cd_44)
theorem mo_44 : rowOk mr_44 := chkA_of ok_44 fun pc h => by show cond (Nat.ble 32 pc) none _ = none; rw [Nat.ble_eq_true_of_le h]; rfl
noncomputable def mr_45 : mRow := (⟨"WindPark", "link", "(III)I"⟩, prog_1_method_13_code, 4, (some (.int)), 10, false, false, cd_45)
theorem mo_45 : rowOk mr_45 := chkA_of ok_45 fun pc h => by show cond (Nat.ble 37 pc) none _ = none; rw [Nat.ble_eq_true_of_le h]; rfl
noncomputable def mr_46 : mRow := (⟨"WindPark", "layOnShelf", "(IIIII)I"⟩, prog_1_method_52_code, 8, (some (.int)), 10, false, false, cd_46)
theorem mo_46 : rowOk mr_46 := chkA_of ok_46 fun pc h => by show cond (Nat.ble 105 pc) none _ = none; rw [Nat.ble_eq_true_of_le h]; rfl
noncomputable def mr_47 : mRow := (⟨"WindPark$Shelf", "welcomes", "(LWindPark$Thing;)Z"⟩, prog_8_method_2_code, 3, (some (.boolean)), 6, false, true, cd_47)
theorem mo_47 : rowOk mr_47 := chkA_of ok_47 fun pc h => by show cond (Nat.ble 57 pc) none _ = none; rw [Nat.ble_eq_true_of_le h]; rfl
noncomputable def mr_48 : mRow := (⟨"WindPark$Part", "isOf", "(I)Z"⟩, prog_6_method_2_code, 2, (some (.boolean)), 4, false, true, cd_48)
theorem mo_48 : rowOk mr_48 := chkA_of ok_48 fun pc h => by show cond (Nat.ble 21 pc) none _ = none; rw [Nat.ble_eq_true_of_le h]; rfl
noncomputable def mr_49 : mRow := (⟨"WindPark", "lay", "(III)I"⟩, prog_1_method_14_code, 4, (some (.int)), 10, false, false, cd_49)
theorem mo_49 : rowOk mr_49 := chkA_of ok_49 fun pc h => by show cond (Nat.ble 38 pc) none _ = none; rw [Nat.ble_eq_true_of_le h]; rfl
noncomputable def mr_50 : mRow := (⟨"WindPark", "lift", "(IIII)I"⟩, prog_1_method_15_code, 8, (some (.int)), 10, false, false, cd_50)
theorem mo_50 : rowOk mr_50 := chkA_of ok_50 fun pc h => by show cond (Nat.ble 128 pc) none _ = none; rw [Nat.ble_eq_true_of_le h]; rfl
noncomputable def mr_51 : mRow := (⟨"WindPark", "copy", "(IIIII)I"⟩, prog_1_method_16_code, 9, (some (.int)), 10, false, false, cd_51)
theorem mo_51 : rowOk mr_51 := chkA_of ok_51 fun pc h => by show cond (Nat.ble 137 pc) none _ = none; rw [Nat.ble_eq_true_of_le h]; rfl
noncomputable def mr_52 : mRow := (⟨"WindPark$Part", "mayCopyTo", "(LWindPark$Thing;)Z"⟩, prog_6_method_10_code, 2, (some (.boolean)), 4, false, true, cd_52)
theorem mo_52 : rowOk mr_52 := chkA_of ok_52 fun pc h => by show cond (Nat.ble 2 pc) none _ = none; rw [Nat.ble_eq_true_of_le h]; rfl
noncomputable def mr_53 : mRow := (⟨"WindPark$Row", "mayCopyTo", "(LWindPark$Thing;)Z"⟩, prog_7_method_7_code, 2, (some (.boolean)), 5, false, true, cd_53)
theorem mo_53 : rowOk mr_53 := chkA_of ok_53 fun pc h => by show cond (Nat.ble 17 pc) none _ = none; rw [Nat.ble_eq_true_of_le h]; rfl
noncomputable def mr_54 : mRow := (⟨"WindPark$Shelf", "mayCopyTo", "(LWindPark$Thing;)Z"⟩, prog_8_method_7_code, 2, (some (.boolean)), 6, false, true, cd_54)
theorem mo_54 : rowOk mr_54 := chkA_of ok_54 fun pc h => by show cond (Nat.ble 5 pc) none _ = none; rw [Nat.ble_eq_true_of_le h]; rfl
noncomputable def mr_55 : mRow := (⟨"WindPark$Part", "copyTo", "(LWindPark$Thing;III)I"⟩, prog_6_method_11_code, 5, (some (.int)), 4, false, false, cd_55)
theorem mo_55 : rowOk mr_55 := chkA_of ok_55 fun pc h => by show cond (Nat.ble 3 pc) none _ = none; rw [Nat.ble_eq_true_of_le h]; rfl
noncomputable def mr_56 : mRow := (⟨"WindPark$Row", "copyTo", "(LWindPark$Thing;III)I"⟩, prog_7_method_8_code, 6, (some (.int)), 5, false, false, cd_56)
theorem mo_56 : rowOk mr_56 := chkA_of ok_56 fun pc h => by show cond (Nat.ble 37 pc) none _ = none; rw [Nat.ble_eq_true_of_le h]; rfl
noncomputable def mr_57 : mRow := (⟨"WindPark$Shelf", "copyTo", "(LWindPark$Thing;III)I"⟩, prog_8_method_8_code, 8, (some (.int)), 6, false, false, cd_57)
theorem mo_57 : rowOk mr_57 := chkA_of ok_57 fun pc h => by show cond (Nat.ble 96 pc) none _ = none; rw [Nat.ble_eq_true_of_le h]; rfl
noncomputable def mr_58 : mRow := (⟨"WindPark", "length", "(II)I"⟩, prog_1_method_17_code, 4, (some (.int)), 10, false, false, cd_58)
theorem mo_58 : rowOk mr_58 := chkA_of ok_58 fun pc h => by show cond (Nat.ble 76 pc) none _ = none; rw [Nat.ble_eq_true_of_le h]; rfl
noncomputable def mr_59 : mRow := (⟨"WindPark", "alike", "(II)I"⟩, prog_1_method_18_code, 5, (some (.int)), 10, false, false, cd_59)
theorem mo_59 : rowOk mr_59 := chkA_of ok_59 fun pc h => by show cond (Nat.ble 73 pc) none _ = none; rw [Nat.ble_eq_true_of_le h]; rfl
noncomputable def mr_60 : mRow := (⟨"WindPark$Part", "isLike", "(LWindPark$Thing;)Z"⟩, prog_6_method_9_code, 2, (some (.boolean)), 4, false, true, cd_60)
theorem mo_60 : rowOk mr_60 := chkA_of ok_60 fun pc h => by show cond (Nat.ble 2 pc) none _ = none; rw [Nat.ble_eq_true_of_le h]; rfl
noncomputable def mr_61 : mRow := (⟨"WindPark$Row", "isLike", "(LWindPark$Thing;)Z"⟩, prog_7_method_6_code, 4, (some (.boolean)), 5, false, true, cd_61)
theorem mo_61 : rowOk mr_61 := chkA_of ok_61 fun pc h => by show cond (Nat.ble 75 pc) none _ = none; rw [Nat.ble_eq_true_of_le h]; rfl
noncomputable def mr_62 : mRow := (⟨"WindPark$Shelf", "isLike", "(LWindPark$Thing;)Z"⟩, prog_8_method_5_code, 4, (some (.boolean)), 6, false, true, cd_62)
theorem mo_62 : rowOk mr_62 := chkA_of ok_62 fun pc h => by show cond (Nat.ble 77 pc) none _ = none; rw [Nat.ble_eq_true_of_le h]; rfl
noncomputable def mr_63 : mRow := (⟨"WindPark$Shelf", "isSame", "(LWindPark$Thing;LWindPark$Thing;)Z"⟩, prog_8_method_6_code, 3, (some (.boolean)), 6, false, true, cd_63)
theorem mo_63 : rowOk mr_63 := chkA_of ok_63 fun pc h => by show cond (Nat.ble 35 pc) none _ = none; rw [Nat.ble_eq_true_of_le h]; rfl
noncomputable def mr_64 : mRow := (⟨"WindPark", "ask", "(III)J"⟩, prog_1_method_19_code, 6, (some (.long)), 10, false, false, cd_64)
theorem mo_64 : rowOk mr_64 := chkA_of ok_64 fun pc h => by show cond (Nat.ble 123 pc) none _ = none; rw [Nat.ble_eq_true_of_le h]; rfl
noncomputable def mr_65 : mRow := (⟨"WindPark", "refuseWithZero", "(I)J"⟩, prog_1_method_41_code, 2, (some (.long)), 10, false, false, cd_65)
theorem mo_65 : rowOk mr_65 := chkA_of ok_65 fun pc h => by show cond (Nat.ble 7 pc) none _ = none; rw [Nat.ble_eq_true_of_le h]; rfl
noncomputable def mr_66 : mRow := (⟨"WindPark", "partIn", "(I)LWindPark$Part;"⟩, prog_1_method_49_code, 4, (some (.object "WindPark$Part")), 10, false, false, cd_66)
theorem mo_66 : rowOk mr_66 := chkA_of ok_66 fun pc h => by show cond (Nat.ble 38 pc) none _ = none; rw [Nat.ble_eq_true_of_le h]; rfl
noncomputable def mr_67 : mRow := (⟨"WindPark$Part", "limit", "(LWindPark$Trace;)I"⟩, prog_6_method_3_code, 2, (some (.int)), 4, false, false, cd_67)
theorem mo_67 : rowOk mr_67 := chkA_of ok_67 fun pc h => by show cond (Nat.ble 108 pc) none _ = none; rw [Nat.ble_eq_true_of_le h]; rfl
noncomputable def mr_68 : mRow := (⟨"WindPark$Trace", "begin", "(I)V"⟩, prog_10_method_2_code, 2, none, 7, false, false, cd_68)
theorem mo_68 : rowOk mr_68 := chkA_of ok_68 fun pc h => by show cond (Nat.ble 33 pc) none _ = none; rw [Nat.ble_eq_true_of_le h]; rfl
noncomputable def mr_69 : mRow := (⟨"WindPark$Part", "cost", "(LWindPark$Trace;)I"⟩, prog_6_method_4_code, 3, (some (.int)), 4, false, false, cd_69)
theorem mo_69 : rowOk mr_69 := chkA_of ok_69 fun pc h => by show cond (Nat.ble 48 pc) none _ = none; rw [Nat.ble_eq_true_of_le h]; rfl
noncomputable def mr_70 : mRow := (⟨"WindPark$Part", "wearBy", "(ILWindPark$Trace;)I"⟩, prog_6_method_5_code, 4, (some (.int)), 4, false, false, cd_70)
theorem mo_70 : rowOk mr_70 := chkA_of ok_70 fun pc h => by show cond (Nat.ble 99 pc) none _ = none; rw [Nat.ble_eq_true_of_le h]; rfl
noncomputable def mr_71 : mRow := (⟨"WindPark$Part", "addWear", "(J)I"⟩, prog_6_method_6_code, 3, (some (.int)), 4, false, false, cd_71)
theorem mo_71 : rowOk mr_71 := chkA_of ok_71 fun pc h => by show cond (Nat.ble 17 pc) none _ = none; rw [Nat.ble_eq_true_of_le h]; rfl
noncomputable def mr_72 : mRow := (⟨"WindPark", "told", "(II)J"⟩, prog_1_method_20_code, 4, (some (.long)), 10, false, false, cd_72)
theorem mo_72 : rowOk mr_72 := chkA_of ok_72 fun pc h => by show cond (Nat.ble 77 pc) none _ = none; rw [Nat.ble_eq_true_of_le h]; rfl
noncomputable def mr_73 : mRow := (⟨"WindPark", "traced", "(I)I"⟩, prog_1_method_21_code, 2, (some (.int)), 10, false, false, cd_73)
theorem mo_73 : rowOk mr_73 := chkA_of ok_73 fun pc h => by show cond (Nat.ble 34 pc) none _ = none; rw [Nat.ble_eq_true_of_le h]; rfl
noncomputable def mr_74 : mRow := (⟨"WindPark", "forget", "()I"⟩, prog_1_method_22_code, 2, (some (.int)), 10, false, false, cd_74)
theorem mo_74 : rowOk mr_74 := chkA_of ok_74 fun pc h => by show cond (Nat.ble 23 pc) none _ = none; rw [Nat.ble_eq_true_of_le h]; rfl
noncomputable def mr_75 : mRow := (⟨"WindPark", "seconds", "(III)J"⟩, prog_1_method_23_code, 6, (some (.long)), 10, false, false, cd_75)
theorem mo_75 : rowOk mr_75 := chkA_of ok_75 fun pc h => by show cond (Nat.ble 161 pc) none _ = none; rw [Nat.ble_eq_true_of_le h]; rfl
noncomputable def mr_76 : mRow := (⟨"WindPark", "isMeasuring", "(I)Z"⟩, prog_1_method_44_code, 1, (some (.boolean)), 10, false, true, cd_76)
theorem mo_76 : rowOk mr_76 := chkA_of ok_76 fun pc h => by show cond (Nat.ble 17 pc) none _ = none; rw [Nat.ble_eq_true_of_le h]; rfl
noncomputable def mr_77 : mRow := (⟨"WindPark", "measure", "(LWindPark$Row;)I"⟩, prog_1_method_53_code, 6, (some (.int)), 10, false, false, cd_77)
theorem mo_77 : rowOk mr_77 := chkA_of ok_77 fun pc h => by show cond (Nat.ble 56 pc) none _ = none; rw [Nat.ble_eq_true_of_le h]; rfl
noncomputable def mr_78 : mRow := (⟨"WindPark$Row", "doubleBits", "(I)J"⟩, prog_7_method_3_code, 2, (some (.long)), 5, false, false, cd_78)
theorem mo_78 : rowOk mr_78 := chkA_of ok_78 fun pc h => by show cond (Nat.ble 28 pc) none _ = none; rw [Nat.ble_eq_true_of_le h]; rfl
noncomputable def mr_79 : mRow := (⟨"WindPark$Numbers", "widened", "(I)J"⟩, prog_5_method_5_code, 7, (some (.long)), 12, false, false, cd_79)
theorem mo_79 : rowOk mr_79 := chkA_of ok_79 fun pc h => by show cond (Nat.ble 129 pc) none _ = none; rw [Nat.ble_eq_true_of_le h]; rfl
noncomputable def mr_80 : mRow := (⟨"WindPark", "ranked", "(II)J"⟩, prog_1_method_54_code, 3, (some (.long)), 10, false, false, cd_80)
theorem mo_80 : rowOk mr_80 := chkA_of ok_80 fun pc h => by show cond (Nat.ble 48 pc) none _ = none; rw [Nat.ble_eq_true_of_le h]; rfl
noncomputable def mr_81 : mRow := (⟨"WindPark$Numbers", "sort", "([JI)V"⟩, prog_5_method_11_code, 6, none, 12, false, false, cd_81)
theorem mo_81 : rowOk mr_81 := chkA_of ok_81 fun pc h => by show cond (Nat.ble 64 pc) none _ = none; rw [Nat.ble_eq_true_of_le h]; rfl
noncomputable def mr_82 : mRow := (⟨"WindPark$Numbers", "orderOf", "(J)J"⟩, prog_5_method_10_code, 2, (some (.long)), 12, false, false, cd_82)
theorem mo_82 : rowOk mr_82 := chkA_of ok_82 fun pc h => by show cond (Nat.ble 16 pc) none _ = none; rw [Nat.ble_eq_true_of_le h]; rfl
noncomputable def mr_83 : mRow := (⟨"WindPark$Numbers", "meanOf", "([JI)J"⟩, prog_5_method_15_code, 2, (some (.long)), 12, false, false, cd_83)
theorem mo_83 : rowOk mr_83 := chkA_of ok_83 fun pc h => by show cond (Nat.ble 30 pc) none _ = none; rw [Nat.ble_eq_true_of_le h]; rfl
noncomputable def mr_84 : mRow := (⟨"WindPark$Numbers", "isSumLost", "([JI)Z"⟩, prog_5_method_13_code, 7, (some (.boolean)), 12, false, true, cd_84)
theorem mo_84 : rowOk mr_84 := chkA_of ok_84 fun pc h => by show cond (Nat.ble 57 pc) none _ = none; rw [Nat.ble_eq_true_of_le h]; rfl
noncomputable def mr_85 : mRow := (⟨"WindPark$Numbers", "valueOf", "(J)D"⟩, prog_5_method_6_code, 7, (some (.double)), 12, false, false, cd_85)
theorem mo_85 : rowOk mr_85 := chkA_of ok_85 fun pc h => by show cond (Nat.ble 58 pc) none _ = none; rw [Nat.ble_eq_true_of_le h]; rfl
noncomputable def mr_86 : mRow := (⟨"WindPark$Numbers", "scaled", "(DI)D"⟩, prog_5_method_7_code, 6, (some (.double)), 12, false, false, cd_86)
theorem mo_86 : rowOk mr_86 := chkA_of ok_86 fun pc h => by show cond (Nat.ble 67 pc) none _ = none; rw [Nat.ble_eq_true_of_le h]; rfl
noncomputable def mr_87 : mRow := (⟨"WindPark$Numbers", "sumOf", "([JI)D"⟩, prog_5_method_14_code, 5, (some (.double)), 12, false, false, cd_87)
theorem mo_87 : rowOk mr_87 := chkA_of ok_87 fun pc h => by show cond (Nat.ble 29 pc) none _ = none; rw [Nat.ble_eq_true_of_le h]; rfl
noncomputable def mr_88 : mRow := (⟨"WindPark$Numbers", "bitsOf", "(D)J"⟩, prog_5_method_8_code, 9, (some (.long)), 12, false, false, cd_88)
theorem mo_88 : rowOk mr_88 := chkA_of ok_88 fun pc h => by show cond (Nat.ble 249 pc) none _ = none; rw [Nat.ble_eq_true_of_le h]; rfl
noncomputable def mr_89 : mRow := (⟨"WindPark$Numbers", "wholeSumOf", "([JI)J"⟩, prog_5_method_16_code, 2, (some (.long)), 12, false, false, cd_89)
theorem mo_89 : rowOk mr_89 := chkA_of ok_89 fun pc h => by show cond (Nat.ble 19 pc) none _ = none; rw [Nat.ble_eq_true_of_le h]; rfl
noncomputable def mr_90 : mRow := (⟨"WindPark", "test", "(IIIII)I"⟩, prog_1_method_24_code, 9, (some (.int)), 10, false, false, cd_90)
theorem mo_90 : rowOk mr_90 := chkA_of ok_90 fun pc h => by show cond (Nat.ble 151 pc) none _ = none; rw [Nat.ble_eq_true_of_le h]; rfl
noncomputable def mr_91 : mRow := (⟨"WindPark$Numbers", "passes", "(JJI)Z"⟩, prog_5_method_12_code, 9, (some (.boolean)), 12, false, true, cd_91)
theorem mo_91 : rowOk mr_91 := chkA_of ok_91 fun pc h => by show cond (Nat.ble 184 pc) none _ = none; rw [Nat.ble_eq_true_of_le h]; rfl
noncomputable def mr_92 : mRow := (⟨"WindPark", "step", "(IIIII)I"⟩, prog_1_method_25_code, 6, (some (.int)), 10, false, false, cd_92)
theorem mo_92 : rowOk mr_92 := chkA_of ok_92 fun pc h => by show cond (Nat.ble 134 pc) none _ = none; rw [Nat.ble_eq_true_of_le h]; rfl
noncomputable def mr_93 : mRow := (⟨"WindPark$Acts", "isPlan", "(I)Z"⟩, prog_2_method_2_code, 1, (some (.boolean)), 1, false, true, cd_93)
theorem mo_93 : rowOk mr_93 := chkA_of ok_93 fun pc h => by show cond (Nat.ble 16 pc) none _ = none; rw [Nat.ble_eq_true_of_le h]; rfl
noncomputable def mr_94 : mRow := (⟨"WindPark", "isKnownToStep", "(IIII)Z"⟩, prog_1_method_55_code, 5, (some (.boolean)), 10, false, true, cd_94)
theorem mo_94 : rowOk mr_94 := chkA_of ok_94 fun pc h => by show cond (Nat.ble 175 pc) none _ = none; rw [Nat.ble_eq_true_of_le h]; rfl
noncomputable def mr_95 : mRow := (⟨"WindPark", "isTurbine", "(I)Z"⟩, prog_1_method_46_code, 2, (some (.boolean)), 10, false, true, cd_95)
theorem mo_95 : rowOk mr_95 := chkA_of ok_95 fun pc h => by show cond (Nat.ble 22 pc) none _ = none; rw [Nat.ble_eq_true_of_le h]; rfl
noncomputable def mr_96 : mRow := (⟨"WindPark$Acts", "addStep", "(IIIII)I"⟩, prog_2_method_3_code, 7, (some (.int)), 1, false, false, cd_96)
theorem mo_96 : rowOk mr_96 := chkA_of ok_96 fun pc h => by show cond (Nat.ble 72 pc) none _ = none; rw [Nat.ble_eq_true_of_le h]; rfl
noncomputable def mr_97 : mRow := (⟨"WindPark", "drop", "(I)I"⟩, prog_1_method_26_code, 3, (some (.int)), 10, false, false, cd_97)
theorem mo_97 : rowOk mr_97 := chkA_of ok_97 fun pc h => by show cond (Nat.ble 41 pc) none _ = none; rw [Nat.ble_eq_true_of_le h]; rfl
noncomputable def mr_98 : mRow := (⟨"WindPark", "act", "(I)I"⟩, prog_1_method_27_code, 3, (some (.int)), 10, false, false, cd_98)
theorem mo_98 : rowOk mr_98 := chkA_of ok_98 fun pc h => by show cond (Nat.ble 53 pc) none _ = none; rw [Nat.ble_eq_true_of_le h]; rfl
noncomputable def mr_99 : mRow := (⟨"WindPark$Acts", "perform", "(I[LWindPark$Thing;[LWindPark$Turbine;)I"⟩, prog_2_method_4_code, 5, (some (.int)), 1, false, false, cd_99)
theorem mo_99 : rowOk mr_99 := chkA_of ok_99 fun pc h => by show cond (Nat.ble 113 pc) none _ = none; rw [Nat.ble_eq_true_of_le h]; rfl
noncomputable def mr_100 : mRow := (⟨"WindPark$Undo", "remember", "([LWindPark$Thing;[LWindPark$Turbine;)V"⟩, prog_12_method_2_code, 4, none, 9, false, false, cd_100)
theorem mo_100 : rowOk mr_100 := chkA_of ok_100 fun pc h => by show cond (Nat.ble 50 pc) none _ = none; rw [Nat.ble_eq_true_of_le h]; rfl
noncomputable def mr_101 : mRow := (⟨"WindPark$Acts", "doPlan", "(II)I"⟩, prog_2_method_5_code, 5, (some (.int)), 1, false, false, cd_101)
theorem mo_101 : rowOk mr_101 := chkA_of ok_101 fun pc h => by show cond (Nat.ble 86 pc) none _ = none; rw [Nat.ble_eq_true_of_le h]; rfl
noncomputable def mr_102 : mRow := (⟨"WindPark$Acts", "doStep", "(II)I"⟩, prog_2_method_6_code, 6, (some (.int)), 1, false, false, cd_102)
theorem mo_102 : rowOk mr_102 := chkA_of ok_102 fun pc h => by show cond (Nat.ble 242 pc) none _ = none; rw [Nat.ble_eq_true_of_le h]; rfl
noncomputable def mr_103 : mRow := (⟨"WindPark$Acts", "takeFrom", "(I)I"⟩, prog_2_method_11_code, 2, (some (.int)), 1, false, false, cd_103)
theorem mo_103 : rowOk mr_103 := chkA_of ok_103 fun pc h => by show cond (Nat.ble 35 pc) none _ = none; rw [Nat.ble_eq_true_of_le h]; rfl
noncomputable def mr_104 : mRow := (⟨"WindPark$Hand", "push", "(LWindPark$Thing;I)V"⟩, prog_4_method_3_code, 3, none, 3, false, false, cd_104)
theorem mo_104 : rowOk mr_104 := chkA_of ok_104 fun pc h => by show cond (Nat.ble 43 pc) none _ = none; rw [Nat.ble_eq_true_of_le h]; rfl
noncomputable def mr_105 : mRow := (⟨"WindPark$Acts", "layInto", "(I)I"⟩, prog_2_method_12_code, 3, (some (.int)), 1, false, false, cd_105)
theorem mo_105 : rowOk mr_105 := chkA_of ok_105 fun pc h => by show cond (Nat.ble 49 pc) none _ = none; rw [Nat.ble_eq_true_of_le h]; rfl
noncomputable def mr_106 : mRow := (⟨"WindPark$Hand", "top", "()LWindPark$Thing;"⟩, prog_4_method_2_code, 1, (some (.object "WindPark$Thing")), 3, false, false, cd_106)
theorem mo_106 : rowOk mr_106 := chkA_of ok_106 fun pc h => by show cond (Nat.ble 23 pc) none _ = none; rw [Nat.ble_eq_true_of_le h]; rfl
noncomputable def mr_107 : mRow := (⟨"WindPark$Acts", "writeItem", "(III)I"⟩, prog_2_method_13_code, 6, (some (.int)), 1, false, false, cd_107)
theorem mo_107 : rowOk mr_107 := chkA_of ok_107 fun pc h => by show cond (Nat.ble 77 pc) none _ = none; rw [Nat.ble_eq_true_of_le h]; rfl
noncomputable def mr_108 : mRow := (⟨"WindPark$Undo", "noteItem", "(LWindPark$Row;I)V"⟩, prog_12_method_3_code, 3, none, 9, false, false, cd_108)
theorem mo_108 : rowOk mr_108 := chkA_of ok_108 fun pc h => by show cond (Nat.ble 58 pc) none _ = none; rw [Nat.ble_eq_true_of_le h]; rfl
noncomputable def mr_109 : mRow := (⟨"WindPark$Acts", "say", "(I)I"⟩, prog_2_method_14_code, 2, (some (.int)), 1, false, false, cd_109)
theorem mo_109 : rowOk mr_109 := chkA_of ok_109 fun pc h => by show cond (Nat.ble 31 pc) none _ = none; rw [Nat.ble_eq_true_of_le h]; rfl
noncomputable def mr_110 : mRow := (⟨"WindPark$Acts", "doForLast", "(II)I"⟩, prog_2_method_7_code, 4, (some (.int)), 1, false, false, cd_110)
theorem mo_110 : rowOk mr_110 := chkA_of ok_110 fun pc h => by show cond (Nat.ble 26 pc) none _ = none; rw [Nat.ble_eq_true_of_le h]; rfl
noncomputable def mr_111 : mRow := (⟨"WindPark$Acts", "doTry", "(IIII)I"⟩, prog_2_method_8_code, 7, (some (.int)), 1, false, false, cd_111)
theorem mo_111 : rowOk mr_111 := chkA_of ok_111 fun pc h => by show cond (Nat.ble 63 pc) none _ = none; rw [Nat.ble_eq_true_of_le h]; rfl
noncomputable def mr_112 : mRow := (⟨"WindPark$Acts", "doFinally", "(III)I"⟩, prog_2_method_9_code, 7, (some (.int)), 1, false, false, cd_112)
theorem mo_112 : rowOk mr_112 := chkA_of ok_112 fun pc h => by show cond (Nat.ble 67 pc) none _ = none; rw [Nat.ble_eq_true_of_le h]; rfl
noncomputable def mr_113 : mRow := (⟨"WindPark$Acts", "doHolding", "(III)I"⟩, prog_2_method_10_code, 5, (some (.int)), 1, false, false, cd_113)
theorem mo_113 : rowOk mr_113 := chkA_of ok_113 fun pc h => by show cond (Nat.ble 43 pc) none _ = none; rw [Nat.ble_eq_true_of_le h]; rfl
noncomputable def mr_114 : mRow := (⟨"WindPark$Acts", "fitInto", "(LWindPark$Turbine;I)I"⟩, prog_2_method_15_code, 6, (some (.int)), 1, false, false, cd_114)
theorem mo_114 : rowOk mr_114 := chkA_of ok_114 fun pc h => by show cond (Nat.ble 125 pc) none _ = none; rw [Nat.ble_eq_true_of_le h]; rfl
noncomputable def mr_115 : mRow := (⟨"WindPark$Acts", "stripFrom", "(LWindPark$Turbine;I)I"⟩, prog_2_method_16_code, 3, (some (.int)), 1, false, false, cd_115)
theorem mo_115 : rowOk mr_115 := chkA_of ok_115 fun pc h => by show cond (Nat.ble 51 pc) none _ = none; rw [Nat.ble_eq_true_of_le h]; rfl
noncomputable def mr_116 : mRow := (⟨"WindPark$Undo", "bringBack", "([LWindPark$Thing;[LWindPark$Turbine;)V"⟩, prog_12_method_4_code, 4, none, 9, false, false, cd_116)
theorem mo_116 : rowOk mr_116 := chkA_of ok_116 fun pc h => by show cond (Nat.ble 84 pc) none _ = none; rw [Nat.ble_eq_true_of_le h]; rfl
noncomputable def mr_117 : mRow := (⟨"WindPark$Hand", "giveBack", "([LWindPark$Thing;)I"⟩, prog_4_method_4_code, 5, (some (.int)), 3, false, false, cd_117)
theorem mo_117 : rowOk mr_117 := chkA_of ok_117 fun pc h => by show cond (Nat.ble 71 pc) none _ = none; rw [Nat.ble_eq_true_of_le h]; rfl
noncomputable def mr_118 : mRow := (⟨"WindPark$Hand", "leastEmpty", "([LWindPark$Thing;)I"⟩, prog_4_method_5_code, 2, (some (.int)), 3, false, false, cd_118)
theorem mo_118 : rowOk mr_118 := chkA_of ok_118 fun pc h => by show cond (Nat.ble 24 pc) none _ = none; rw [Nat.ble_eq_true_of_le h]; rfl
noncomputable def mr_119 : mRow := (⟨"WindPark", "acted", "(I)I"⟩, prog_1_method_28_code, 2, (some (.int)), 10, false, false, cd_119)
theorem mo_119 : rowOk mr_119 := chkA_of ok_119 fun pc h => by show cond (Nat.ble 99 pc) none _ = none; rw [Nat.ble_eq_true_of_le h]; rfl
noncomputable def mr_120 : mRow := (⟨"WindPark", "said", "(I)I"⟩, prog_1_method_29_code, 2, (some (.int)), 10, false, false, cd_120)
theorem mo_120 : rowOk mr_120 := chkA_of ok_120 fun pc h => by show cond (Nat.ble 40 pc) none _ = none; rw [Nat.ble_eq_true_of_le h]; rfl
noncomputable def mr_121 : mRow := (⟨"WindPark", "place", "(III)I"⟩, prog_1_method_30_code, 4, (some (.int)), 10, false, false, cd_121)
theorem mo_121 : rowOk mr_121 := chkA_of ok_121 fun pc h => by show cond (Nat.ble 79 pc) none _ = none; rw [Nat.ble_eq_true_of_le h]; rfl
noncomputable def mr_122 : mRow := (⟨"WindPark", "read", "(IIJ)I"⟩, prog_1_method_31_code, 5, (some (.int)), 10, false, false, cd_122)
theorem mo_122 : rowOk mr_122 := chkA_of ok_122 fun pc h => by show cond (Nat.ble 76 pc) none _ = none; rw [Nat.ble_eq_true_of_le h]; rfl
noncomputable def mr_123 : mRow := (⟨"WindPark", "wind", "(IZ)I"⟩, prog_1_method_32_code, 3, (some (.int)), 10, false, false, cd_123)
theorem mo_123 : rowOk mr_123 := chkA_of ok_123 fun pc h => by show cond (Nat.ble 40 pc) none _ = none; rw [Nat.ble_eq_true_of_le h]; rfl
noncomputable def mr_124 : mRow := (⟨"WindPark", "bound", "(IJ)I"⟩, prog_1_method_33_code, 4, (some (.int)), 10, false, false, cd_124)
theorem mo_124 : rowOk mr_124 := chkA_of ok_124 fun pc h => by show cond (Nat.ble 67 pc) none _ = none; rw [Nat.ble_eq_true_of_le h]; rfl
noncomputable def mr_125 : mRow := (⟨"WindPark", "run", "(I)I"⟩, prog_1_method_34_code, 2, (some (.int)), 10, false, false, cd_125)
theorem mo_125 : rowOk mr_125 := chkA_of ok_125 fun pc h => by show cond (Nat.ble 36 pc) none _ = none; rw [Nat.ble_eq_true_of_le h]; rfl
noncomputable def mr_126 : mRow := (⟨"WindPark$Farm", "go", "(ILWindPark$Trace;)I"⟩, prog_3_method_2_code, 6, (some (.int)), 2, false, false, cd_126)
theorem mo_126 : rowOk mr_126 := chkA_of ok_126 fun pc h => by show cond (Nat.ble 62 pc) none _ = none; rw [Nat.ble_eq_true_of_le h]; rfl
noncomputable def mr_127 : mRow := (⟨"WindPark$Farm", "arrange", "()V"⟩, prog_3_method_3_code, 4, none, 2, false, false, cd_127)
theorem mo_127 : rowOk mr_127 := chkA_of ok_127 fun pc h => by show cond (Nat.ble 138 pc) none _ = none; rw [Nat.ble_eq_true_of_le h]; rfl
noncomputable def mr_128 : mRow := (⟨"WindPark$Farm", "goThrough", "(ILWindPark$Trace;)I"⟩, prog_3_method_4_code, 6, (some (.int)), 2, false, false, cd_128)
theorem mo_128 : rowOk mr_128 := chkA_of ok_128 fun pc h => by show cond (Nat.ble 143 pc) none _ = none; rw [Nat.ble_eq_true_of_le h]; rfl
noncomputable def mr_129 : mRow := (⟨"WindPark$Turbine", "rememberReadings", "()V"⟩, prog_11_method_4_code, 2, none, 8, false, false, cd_129)
theorem mo_129 : rowOk mr_129 := chkA_of ok_129 fun pc h => by show cond (Nat.ble 38 pc) none _ = none; rw [Nat.ble_eq_true_of_le h]; rfl
noncomputable def mr_130 : mRow := (⟨"WindPark$Farm", "voteOf", "(LWindPark$Turbine;)J"⟩, prog_3_method_6_code, 6, (some (.long)), 2, false, false, cd_130)
theorem mo_130 : rowOk mr_130 := chkA_of ok_130 fun pc h => by show cond (Nat.ble 129 pc) none _ = none; rw [Nat.ble_eq_true_of_le h]; rfl
noncomputable def mr_131 : mRow := (⟨"WindPark$Turbine", "isStill", "(I)Z"⟩, prog_11_method_3_code, 4, (some (.boolean)), 8, false, true, cd_131)
theorem mo_131 : rowOk mr_131 := chkA_of ok_131 fun pc h => by show cond (Nat.ble 35 pc) none _ = none; rw [Nat.ble_eq_true_of_le h]; rfl
noncomputable def mr_132 : mRow := (⟨"WindPark$Turbine", "isBlind", "()Z"⟩, prog_11_method_2_code, 1, (some (.boolean)), 8, false, true, cd_132)
theorem mo_132 : rowOk mr_132 := chkA_of ok_132 fun pc h => by show cond (Nat.ble 17 pc) none _ = none; rw [Nat.ble_eq_true_of_le h]; rfl
noncomputable def mr_133 : mRow := (⟨"WindPark$Farm", "wakeAt", "(I)D"⟩, prog_3_method_7_code, 12, (some (.double)), 2, false, false, cd_133)
theorem mo_133 : rowOk mr_133 := chkA_of ok_133 fun pc h => by show cond (Nat.ble 131 pc) none _ = none; rw [Nat.ble_eq_true_of_le h]; rfl
noncomputable def mr_134 : mRow := (⟨"WindPark$Numbers", "rootOf", "(D)D"⟩, prog_5_method_9_code, 16, (some (.double)), 12, false, false, cd_134)
theorem mo_134 : rowOk mr_134 := chkA_of ok_134 fun pc h => by show cond (Nat.ble 162 pc) none _ = none; rw [Nat.ble_eq_true_of_le h]; rfl
noncomputable def mr_135 : mRow := (⟨"WindPark$Turbine", "changeState", "()V"⟩, prog_11_method_5_code, 2, none, 8, false, false, cd_135)
theorem mo_135 : rowOk mr_135 := chkA_of ok_135 fun pc h => by show cond (Nat.ble 146 pc) none _ = none; rw [Nat.ble_eq_true_of_le h]; rfl
noncomputable def mr_136 : mRow := (⟨"WindPark$Turbine", "turnBlades", "(LWindPark$Trace;)I"⟩, prog_11_method_6_code, 6, (some (.int)), 8, false, false, cd_136)
theorem mo_136 : rowOk mr_136 := chkA_of ok_136 fun pc h => by show cond (Nat.ble 95 pc) none _ = none; rw [Nat.ble_eq_true_of_le h]; rfl
noncomputable def mr_137 : mRow := (⟨"WindPark$Turbine", "pitchGoal", "()D"⟩, prog_11_method_7_code, 3, (some (.double)), 8, false, false, cd_137)
theorem mo_137 : rowOk mr_137 := chkA_of ok_137 fun pc h => by show cond (Nat.ble 66 pc) none _ = none; rw [Nat.ble_eq_true_of_le h]; rfl
noncomputable def mr_138 : mRow := (⟨"WindPark$Turbine", "within", "(DD)D"⟩, prog_11_method_10_code, 4, (some (.double)), 8, false, false, cd_138)
theorem mo_138 : rowOk mr_138 := chkA_of ok_138 fun pc h => by show cond (Nat.ble 24 pc) none _ = none; rw [Nat.ble_eq_true_of_le h]; rfl
noncomputable def mr_139 : mRow := (⟨"WindPark$Turbine", "turnRotor", "()V"⟩, prog_11_method_8_code, 3, none, 8, false, false, cd_139)
theorem mo_139 : rowOk mr_139 := chkA_of ok_139 fun pc h => by show cond (Nat.ble 166 pc) none _ = none; rw [Nat.ble_eq_true_of_le h]; rfl
noncomputable def mr_140 : mRow := (⟨"WindPark$Turbine", "wearBlade", "(LWindPark$Trace;)I"⟩, prog_11_method_9_code, 3, (some (.int)), 8, false, false, cd_140)
theorem mo_140 : rowOk mr_140 := chkA_of ok_140 fun pc h => by show cond (Nat.ble 43 pc) none _ = none; rw [Nat.ble_eq_true_of_le h]; rfl
noncomputable def mr_141 : mRow := (⟨"WindPark$Farm", "keepFinding", "(III)V"⟩, prog_3_method_5_code, 5, none, 2, false, false, cd_141)
theorem mo_141 : rowOk mr_141 := chkA_of ok_141 fun pc h => by show cond (Nat.ble 71 pc) none _ = none; rw [Nat.ble_eq_true_of_le h]; rfl
noncomputable def mr_142 : mRow := (⟨"WindPark", "reset", "(I)I"⟩, prog_1_method_35_code, 2, (some (.int)), 10, false, false, cd_142)
theorem mo_142 : rowOk mr_142 := chkA_of ok_142 fun pc h => by show cond (Nat.ble 58 pc) none _ = none; rw [Nat.ble_eq_true_of_le h]; rfl
noncomputable def mr_143 : mRow := (⟨"WindPark", "of", "(II)J"⟩, prog_1_method_36_code, 3, (some (.long)), 10, false, false, cd_143)
theorem mo_143 : rowOk mr_143 := chkA_of ok_143 fun pc h => by show cond (Nat.ble 51 pc) none _ = none; rw [Nat.ble_eq_true_of_le h]; rfl
noncomputable def mr_144 : mRow := (⟨"WindPark$Turbine", "tell", "(I)J"⟩, prog_11_method_11_code, 3, (some (.long)), 8, false, false, cd_144)
theorem mo_144 : rowOk mr_144 := chkA_of ok_144 fun pc h => by show cond (Nat.ble 133 pc) none _ = none; rw [Nat.ble_eq_true_of_le h]; rfl
noncomputable def mr_145 : mRow := (⟨"WindPark", "finding", "(II)I"⟩, prog_1_method_37_code, 3, (some (.int)), 10, false, false, cd_145)
theorem mo_145 : rowOk mr_145 := chkA_of ok_145 fun pc h => by show cond (Nat.ble 54 pc) none _ = none; rw [Nat.ble_eq_true_of_le h]; rfl
noncomputable def mr_146 : mRow := (⟨"WindPark", "why", "()I"⟩, prog_1_method_38_code, 1, (some (.int)), 10, false, false, cd_146)
theorem mo_146 : rowOk mr_146 := chkA_of ok_146 fun pc h => by show cond (Nat.ble 5 pc) none _ = none; rw [Nat.ble_eq_true_of_le h]; rfl
noncomputable def mr_147 : mRow := (⟨"WindPark", "count", "(I)I"⟩, prog_1_method_39_code, 2, (some (.int)), 10, false, false, cd_147)
theorem mo_147 : rowOk mr_147 := chkA_of ok_147 fun pc h => by show cond (Nat.ble 94 pc) none _ = none; rw [Nat.ble_eq_true_of_le h]; rfl
noncomputable def mr_148 : mRow := (⟨"WindPark", "filledCases", "()I"⟩, prog_1_method_56_code, 3, (some (.int)), 10, false, false, cd_148)
theorem mo_148 : rowOk mr_148 := chkA_of ok_148 fun pc h => by show cond (Nat.ble 30 pc) none _ = none; rw [Nat.ble_eq_true_of_le h]; rfl
noncomputable def mr_149 : mRow := (⟨"WindParkLaw", "cell", "([II)I"⟩, method_2_code, 2, (some (.int)), 14, false, false, cd_149)
theorem mo_149 : rowOk mr_149 := chkA_of ok_149 fun pc h => by show cond (Nat.ble 14 pc) none _ = none; rw [Nat.ble_eq_true_of_le h]; rfl
noncomputable def mr_150 : mRow := (⟨"WindParkModel", "<init>", "(I)V"⟩, prog_14_method_1_code, 3, none, 11, true, false, cd_150)
theorem mo_150 : rowOk mr_150 := chkA_of ok_150 fun pc h => by show cond (Nat.ble 429 pc) none _ = none; rw [Nat.ble_eq_true_of_le h]; rfl
noncomputable def mr_151 : mRow := (⟨"WindParkModel", "begin", "()V"⟩, prog_14_method_75_code, 2, none, 11, false, false, cd_151)
theorem mo_151 : rowOk mr_151 := chkA_of ok_151 fun pc h => by show cond (Nat.ble 80 pc) none _ = none; rw [Nat.ble_eq_true_of_le h]; rfl
noncomputable def mr_152 : mRow := (⟨"WindParkModel", "row", "(III)I"⟩, prog_14_method_12_code, 4, (some (.int)), 11, false, false, cd_152)
theorem mo_152 : rowOk mr_152 := chkA_of ok_152 fun pc h => by show cond (Nat.ble 72 pc) none _ = none; rw [Nat.ble_eq_true_of_le h]; rfl
noncomputable def mr_153 : mRow := (⟨"WindParkModel", "isCase", "(I)Z"⟩, prog_14_method_7_code, 1, (some (.boolean)), 11, false, true, cd_153)
theorem mo_153 : rowOk mr_153 := chkA_of ok_153 fun pc h => by show cond (Nat.ble 16 pc) none _ = none; rw [Nat.ble_eq_true_of_le h]; rfl
noncomputable def mr_154 : mRow := (⟨"WindParkModel", "says", "(I)I"⟩, prog_14_method_4_code, 2, (some (.int)), 11, false, false, cd_154)
theorem mo_154 : rowOk mr_154 := chkA_of ok_154 fun pc h => by show cond (Nat.ble 16 pc) none _ = none; rw [Nat.ble_eq_true_of_le h]; rfl
noncomputable def mr_155 : mRow := (⟨"WindParkModel", "in", "(JJJ)Z"⟩, prog_14_method_3_code, 6, (some (.boolean)), 11, false, true, cd_155)
theorem mo_155 : rowOk mr_155 := chkA_of ok_155 fun pc h => by show cond (Nat.ble 19 pc) none _ = none; rw [Nat.ble_eq_true_of_le h]; rfl
noncomputable def mr_156 : mRow := (⟨"WindParkModel", "fails", "(I)I"⟩, prog_14_method_5_code, 2, (some (.int)), 11, false, false, cd_156)
theorem mo_156 : rowOk mr_156 := chkA_of ok_156 fun pc h => by show cond (Nat.ble 9 pc) none _ = none; rw [Nat.ble_eq_true_of_le h]; rfl
noncomputable def mr_157 : mRow := (⟨"WindParkModel", "sweep", "()V"⟩, prog_14_method_9_code, 4, none, 11, false, false, cd_157)
theorem mo_157 : rowOk mr_157 := chkA_of ok_157 fun pc h => by show cond (Nat.ble 159 pc) none _ = none; rw [Nat.ble_eq_true_of_le h]; rfl
noncomputable def mr_158 : mRow := (⟨"WindParkModel", "mark", "([ZI)V"⟩, prog_14_method_8_code, 3, none, 11, false, false, cd_158)
theorem mo_158 : rowOk mr_158 := chkA_of ok_158 fun pc h => by show cond (Nat.ble 16 pc) none _ = none; rw [Nat.ble_eq_true_of_le h]; rfl
noncomputable def mr_159 : mRow := (⟨"WindParkModel", "make", "(III)I"⟩, prog_14_method_10_code, 6, (some (.int)), 11, false, false, cd_159)
theorem mo_159 : rowOk mr_159 := chkA_of ok_159 fun pc h => by show cond (Nat.ble 102 pc) none _ = none; rw [Nat.ble_eq_true_of_le h]; rfl
noncomputable def mr_160 : mRow := (⟨"WindParkModel", "grid", "(III)I"⟩, prog_14_method_13_code, 6, (some (.int)), 11, false, false, cd_160)
theorem mo_160 : rowOk mr_160 := chkA_of ok_160 fun pc h => by show cond (Nat.ble 116 pc) none _ = none; rw [Nat.ble_eq_true_of_le h]; rfl
noncomputable def mr_161 : mRow := (⟨"WindParkModel", "cradle", "(III)I"⟩, prog_14_method_14_code, 4, (some (.int)), 11, false, false, cd_161)
theorem mo_161 : rowOk mr_161 := chkA_of ok_161 fun pc h => by show cond (Nat.ble 73 pc) none _ = none; rw [Nat.ble_eq_true_of_le h]; rfl
noncomputable def mr_162 : mRow := (⟨"WindParkModel", "part", "(II)I"⟩, prog_14_method_15_code, 3, (some (.int)), 11, false, false, cd_162)
theorem mo_162 : rowOk mr_162 := chkA_of ok_162 fun pc h => by show cond (Nat.ble 104 pc) none _ = none; rw [Nat.ble_eq_true_of_le h]; rfl
noncomputable def mr_163 : mRow := (⟨"WindParkModel", "set", "(II)I"⟩, prog_14_method_16_code, 4, (some (.int)), 11, false, false, cd_163)
theorem mo_163 : rowOk mr_163 := chkA_of ok_163 fun pc h => by show cond (Nat.ble 68 pc) none _ = none; rw [Nat.ble_eq_true_of_le h]; rfl
noncomputable def mr_164 : mRow := (⟨"WindParkModel", "clear", "(I)I"⟩, prog_14_method_17_code, 3, (some (.int)), 11, false, false, cd_164)
theorem mo_164 : rowOk mr_164 := chkA_of ok_164 fun pc h => by show cond (Nat.ble 51 pc) none _ = none; rw [Nat.ble_eq_true_of_le h]; rfl
noncomputable def mr_165 : mRow := (⟨"WindParkModel", "holds", "(I)I"⟩, prog_14_method_18_code, 2, (some (.int)), 11, false, false, cd_165)
theorem mo_165 : rowOk mr_165 := chkA_of ok_165 fun pc h => by show cond (Nat.ble 27 pc) none _ = none; rw [Nat.ble_eq_true_of_le h]; rfl
noncomputable def mr_166 : mRow := (⟨"WindParkModel", "sortOf", "(I)I"⟩, prog_14_method_11_code, 2, (some (.int)), 11, false, false, cd_166)
theorem mo_166 : rowOk mr_166 := chkA_of ok_166 fun pc h => by show cond (Nat.ble 28 pc) none _ = none; rw [Nat.ble_eq_true_of_le h]; rfl
noncomputable def mr_167 : mRow := (⟨"WindParkModel", "put", "(IIIJ)I"⟩, prog_14_method_21_code, 7, (some (.int)), 11, false, false, cd_167)
theorem mo_167 : rowOk mr_167 := chkA_of ok_167 fun pc h => by show cond (Nat.ble 87 pc) none _ = none; rw [Nat.ble_eq_true_of_le h]; rfl
noncomputable def mr_168 : mRow := (⟨"WindParkModel", "lacks", "(III)I"⟩, prog_14_method_20_code, 4, (some (.int)), 11, false, false, cd_168)
theorem mo_168 : rowOk mr_168 := chkA_of ok_168 fun pc h => by show cond (Nat.ble 51 pc) none _ = none; rw [Nat.ble_eq_true_of_le h]; rfl
noncomputable def mr_169 : mRow := (⟨"WindParkModel", "cut", "(IJ)J"⟩, prog_14_method_19_code, 3, (some (.long)), 11, false, false, cd_169)
theorem mo_169 : rowOk mr_169 := chkA_of ok_169 fun pc h => by show cond (Nat.ble 135 pc) none _ = none; rw [Nat.ble_eq_true_of_le h]; rfl
noncomputable def mr_170 : mRow := (⟨"WindParkModel", "get", "(III)J"⟩, prog_14_method_22_code, 5, (some (.long)), 11, false, false, cd_170)
theorem mo_170 : rowOk mr_170 := chkA_of ok_170 fun pc h => by show cond (Nat.ble 84 pc) none _ = none; rw [Nat.ble_eq_true_of_le h]; rfl
noncomputable def mr_171 : mRow := (⟨"WindParkModel", "none", "(I)J"⟩, prog_14_method_6_code, 2, (some (.long)), 11, false, false, cd_171)
theorem mo_171 : rowOk mr_171 := chkA_of ok_171 fun pc h => by show cond (Nat.ble 7 pc) none _ = none; rw [Nat.ble_eq_true_of_le h]; rfl
noncomputable def mr_172 : mRow := (⟨"WindParkModel", "putAt", "(IIII)I"⟩, prog_14_method_24_code, 6, (some (.int)), 11, false, false, cd_172)
theorem mo_172 : rowOk mr_172 := chkA_of ok_172 fun pc h => by show cond (Nat.ble 52 pc) none _ = none; rw [Nat.ble_eq_true_of_le h]; rfl
noncomputable def mr_173 : mRow := (⟨"WindParkModel", "placeAt", "(III)I"⟩, prog_14_method_23_code, 6, (some (.int)), 11, false, false, cd_173)
theorem mo_173 : rowOk mr_173 := chkA_of ok_173 fun pc h => by show cond (Nat.ble 83 pc) none _ = none; rw [Nat.ble_eq_true_of_le h]; rfl
noncomputable def mr_174 : mRow := (⟨"WindParkModel", "getAt", "(III)I"⟩, prog_14_method_25_code, 5, (some (.int)), 11, false, false, cd_174)
theorem mo_174 : rowOk mr_174 := chkA_of ok_174 fun pc h => by show cond (Nat.ble 54 pc) none _ = none; rw [Nat.ble_eq_true_of_le h]; rfl
noncomputable def mr_175 : mRow := (⟨"WindParkModel", "link", "(III)I"⟩, prog_14_method_26_code, 7, (some (.int)), 11, false, false, cd_175)
theorem mo_175 : rowOk mr_175 := chkA_of ok_175 fun pc h => by show cond (Nat.ble 120 pc) none _ = none; rw [Nat.ble_eq_true_of_le h]; rfl
noncomputable def mr_176 : mRow := (⟨"WindParkModel", "lay", "(III)I"⟩, prog_14_method_28_code, 7, (some (.int)), 11, false, false, cd_176)
theorem mo_176 : rowOk mr_176 := chkA_of ok_176 fun pc h => by show cond (Nat.ble 153 pc) none _ = none; rw [Nat.ble_eq_true_of_le h]; rfl
noncomputable def mr_177 : mRow := (⟨"WindParkModel", "isOf", "(II)Z"⟩, prog_14_method_27_code, 4, (some (.boolean)), 11, false, true, cd_177)
theorem mo_177 : rowOk mr_177 := chkA_of ok_177 fun pc h => by show cond (Nat.ble 60 pc) none _ = none; rw [Nat.ble_eq_true_of_le h]; rfl
noncomputable def mr_178 : mRow := (⟨"WindParkModel", "lift", "(IIII)I"⟩, prog_14_method_29_code, 7, (some (.int)), 11, false, false, cd_178)
theorem mo_178 : rowOk mr_178 := chkA_of ok_178 fun pc h => by show cond (Nat.ble 128 pc) none _ = none; rw [Nat.ble_eq_true_of_le h]; rfl
noncomputable def mr_179 : mRow := (⟨"WindParkModel", "copy", "(IIIII)I"⟩, prog_14_method_30_code, 11, (some (.int)), 11, false, false, cd_179)
theorem mo_179 : rowOk mr_179 := chkA_of ok_179 fun pc h => by show cond (Nat.ble 354 pc) none _ = none; rw [Nat.ble_eq_true_of_le h]; rfl
noncomputable def mr_180 : mRow := (⟨"WindParkModel", "length", "(II)I"⟩, prog_14_method_31_code, 4, (some (.int)), 11, false, false, cd_180)
theorem mo_180 : rowOk mr_180 := chkA_of ok_180 fun pc h => by show cond (Nat.ble 84 pc) none _ = none; rw [Nat.ble_eq_true_of_le h]; rfl
noncomputable def mr_181 : mRow := (⟨"WindParkModel", "alike", "(II)I"⟩, prog_14_method_34_code, 6, (some (.int)), 11, false, false, cd_181)
theorem mo_181 : rowOk mr_181 := chkA_of ok_181 fun pc h => by show cond (Nat.ble 141 pc) none _ = none; rw [Nat.ble_eq_true_of_le h]; rfl
noncomputable def mr_182 : mRow := (⟨"WindParkModel", "areGrids", "(II)Z"⟩, prog_14_method_33_code, 5, (some (.boolean)), 11, false, true, cd_182)
theorem mo_182 : rowOk mr_182 := chkA_of ok_182 fun pc h => by show cond (Nat.ble 78 pc) none _ = none; rw [Nat.ble_eq_true_of_le h]; rfl
noncomputable def mr_183 : mRow := (⟨"WindParkModel", "areSame", "(II)Z"⟩, prog_14_method_32_code, 5, (some (.boolean)), 11, false, true, cd_183)
theorem mo_183 : rowOk mr_183 := chkA_of ok_183 fun pc h => by show cond (Nat.ble 137 pc) none _ = none; rw [Nat.ble_eq_true_of_le h]; rfl
noncomputable def mr_184 : mRow := (⟨"WindParkModel", "ask", "(III)J"⟩, prog_14_method_40_code, 6, (some (.long)), 11, false, false, cd_184)
theorem mo_184 : rowOk mr_184 := chkA_of ok_184 fun pc h => by show cond (Nat.ble 145 pc) none _ = none; rw [Nat.ble_eq_true_of_le h]; rfl
noncomputable def mr_185 : mRow := (⟨"WindParkModel", "lacksPart", "(I)I"⟩, prog_14_method_39_code, 2, (some (.int)), 11, false, false, cd_185)
theorem mo_185 : rowOk mr_185 := chkA_of ok_185 fun pc h => by show cond (Nat.ble 27 pc) none _ = none; rw [Nat.ble_eq_true_of_le h]; rfl
noncomputable def mr_186 : mRow := (⟨"WindParkModel", "limit", "(I)I"⟩, prog_14_method_36_code, 2, (some (.int)), 11, false, false, cd_186)
theorem mo_186 : rowOk mr_186 := chkA_of ok_186 fun pc h => by show cond (Nat.ble 130 pc) none _ = none; rw [Nat.ble_eq_true_of_le h]; rfl
noncomputable def mr_187 : mRow := (⟨"WindParkModel", "body", "(I)V"⟩, prog_14_method_35_code, 2, none, 11, false, false, cd_187)
theorem mo_187 : rowOk mr_187 := chkA_of ok_187 fun pc h => by show cond (Nat.ble 30 pc) none _ = none; rw [Nat.ble_eq_true_of_le h]; rfl
noncomputable def mr_188 : mRow := (⟨"WindParkModel", "cost", "(I)J"⟩, prog_14_method_37_code, 2, (some (.long)), 11, false, false, cd_188)
theorem mo_188 : rowOk mr_188 := chkA_of ok_188 fun pc h => by show cond (Nat.ble 50 pc) none _ = none; rw [Nat.ble_eq_true_of_le h]; rfl
noncomputable def mr_189 : mRow := (⟨"WindParkModel", "wear", "(IJ)I"⟩, prog_14_method_38_code, 5, (some (.int)), 11, false, false, cd_189)
theorem mo_189 : rowOk mr_189 := chkA_of ok_189 fun pc h => by show cond (Nat.ble 117 pc) none _ = none; rw [Nat.ble_eq_true_of_le h]; rfl
noncomputable def mr_190 : mRow := (⟨"WindParkModel", "told", "(II)J"⟩, prog_14_method_41_code, 5, (some (.long)), 11, false, false, cd_190)
theorem mo_190 : rowOk mr_190 := chkA_of ok_190 fun pc h => by show cond (Nat.ble 108 pc) none _ = none; rw [Nat.ble_eq_true_of_le h]; rfl
noncomputable def mr_191 : mRow := (⟨"WindParkModel", "traced", "(I)I"⟩, prog_14_method_42_code, 2, (some (.int)), 11, false, false, cd_191)
theorem mo_191 : rowOk mr_191 := chkA_of ok_191 fun pc h => by show cond (Nat.ble 32 pc) none _ = none; rw [Nat.ble_eq_true_of_le h]; rfl
noncomputable def mr_192 : mRow := (⟨"WindParkModel", "forget", "()I"⟩, prog_14_method_43_code, 2, (some (.int)), 11, false, false, cd_192)
theorem mo_192 : rowOk mr_192 := chkA_of ok_192 fun pc h => by show cond (Nat.ble 16 pc) none _ = none; rw [Nat.ble_eq_true_of_le h]; rfl
noncomputable def mr_193 : mRow := (⟨"WindParkModel", "seconds", "(III)J"⟩, prog_14_method_49_code, 7, (some (.long)), 11, false, false, cd_193)
theorem mo_193 : rowOk mr_193 := chkA_of ok_193 fun pc h => by show cond (Nat.ble 300 pc) none _ = none; rw [Nat.ble_eq_true_of_le h]; rfl
noncomputable def mr_194 : mRow := (⟨"WindParkModel", "measure", "(II)V"⟩, prog_14_method_47_code, 7, none, 11, false, false, cd_194)
theorem mo_194 : rowOk mr_194 := chkA_of ok_194 fun pc h => by show cond (Nat.ble 118 pc) none _ = none; rw [Nat.ble_eq_true_of_le h]; rfl
noncomputable def mr_195 : mRow := (⟨"WindParkModel", "real", "(IJ)D"⟩, prog_14_method_44_code, 3, (some (.double)), 11, false, false, cd_195)
theorem mo_195 : rowOk mr_195 := chkA_of ok_195 fun pc h => by show cond (Nat.ble 42 pc) none _ = none; rw [Nat.ble_eq_true_of_le h]; rfl
noncomputable def mr_196 : mRow := (⟨"WindParkModel", "isBelow", "(DD)Z"⟩, prog_14_method_46_code, 4, (some (.boolean)), 11, false, true, cd_196)
theorem mo_196 : rowOk mr_196 := chkA_of ok_196 fun pc h => by show cond (Nat.ble 32 pc) none _ = none; rw [Nat.ble_eq_true_of_le h]; rfl
noncomputable def mr_197 : mRow := (⟨"WindParkModel", "isMinus", "(D)Z"⟩, prog_14_method_45_code, 2, (some (.boolean)), 11, false, true, cd_197)
theorem mo_197 : rowOk mr_197 := chkA_of ok_197 fun pc h => by show cond (Nat.ble 26 pc) none _ = none; rw [Nat.ble_eq_true_of_le h]; rfl
noncomputable def mr_198 : mRow := (⟨"java/lang/Double", "doubleToLongBits", "(D)J"⟩, prog_15_method_23_code, 2, (some (.long)), 15, false, false, cd_198)
theorem mo_198 : rowOk mr_198 := chkA_of ok_198 fun pc h => by show cond (Nat.ble 16 pc) none _ = none; rw [Nat.ble_eq_true_of_le h]; rfl
noncomputable def mr_199 : mRow := (⟨"java/lang/Double", "isNaN", "(D)Z"⟩, prog_15_method_6_code, 2, (some (.boolean)), 15, false, true, cd_199)
theorem mo_199 : rowOk mr_199 := chkA_of ok_199 fun pc h => by show cond (Nat.ble 12 pc) none _ = none; rw [Nat.ble_eq_true_of_le h]; rfl
noncomputable def mr_200 : mRow := (⟨"WindParkModel", "sum", "(II)D"⟩, prog_14_method_48_code, 9, (some (.double)), 11, false, false, cd_200)
theorem mo_200 : rowOk mr_200 := chkA_of ok_200 fun pc h => by show cond (Nat.ble 117 pc) none _ = none; rw [Nat.ble_eq_true_of_le h]; rfl
noncomputable def mr_201 : mRow := (⟨"WindParkModel", "test", "(IIIII)I"⟩, prog_14_method_51_code, 9, (some (.int)), 11, false, false, cd_201)
theorem mo_201 : rowOk mr_201 := chkA_of ok_201 fun pc h => by show cond (Nat.ble 169 pc) none _ = none; rw [Nat.ble_eq_true_of_le h]; rfl
noncomputable def mr_202 : mRow := (⟨"WindParkModel", "passes", "(IDD)Z"⟩, prog_14_method_50_code, 5, (some (.boolean)), 11, false, true, cd_202)
theorem mo_202 : rowOk mr_202 := chkA_of ok_202 fun pc h => by show cond (Nat.ble 108 pc) none _ = none; rw [Nat.ble_eq_true_of_le h]; rfl
noncomputable def mr_203 : mRow := (⟨"WindParkModel", "step", "(IIIII)I"⟩, prog_14_method_56_code, 7, (some (.int)), 11, false, false, cd_203)
theorem mo_203 : rowOk mr_203 := chkA_of ok_203 fun pc h => by show cond (Nat.ble 183 pc) none _ = none; rw [Nat.ble_eq_true_of_le h]; rfl
noncomputable def mr_204 : mRow := (⟨"WindParkModel", "isPlan", "(I)Z"⟩, prog_14_method_52_code, 1, (some (.boolean)), 11, false, true, cd_204)
theorem mo_204 : rowOk mr_204 := chkA_of ok_204 fun pc h => by show cond (Nat.ble 16 pc) none _ = none; rw [Nat.ble_eq_true_of_le h]; rfl
noncomputable def mr_205 : mRow := (⟨"WindParkModel", "areKnown", "(IIII)Z"⟩, prog_14_method_55_code, 5, (some (.boolean)), 11, false, true, cd_205)
theorem mo_205 : rowOk mr_205 := chkA_of ok_205 fun pc h => by show cond (Nat.ble 173 pc) none _ = none; rw [Nat.ble_eq_true_of_le h]; rfl
noncomputable def mr_206 : mRow := (⟨"WindParkModel", "isTurbine", "(I)Z"⟩, prog_14_method_53_code, 2, (some (.boolean)), 11, false, true, cd_206)
theorem mo_206 : rowOk mr_206 := chkA_of ok_206 fun pc h => by show cond (Nat.ble 18 pc) none _ = none; rw [Nat.ble_eq_true_of_le h]; rfl
noncomputable def mr_207 : mRow := (⟨"WindParkModel", "isSlot", "(I)Z"⟩, prog_14_method_54_code, 1, (some (.boolean)), 11, false, true, cd_207)
theorem mo_207 : rowOk mr_207 := chkA_of ok_207 fun pc h => by show cond (Nat.ble 15 pc) none _ = none; rw [Nat.ble_eq_true_of_le h]; rfl
noncomputable def mr_208 : mRow := (⟨"WindParkModel", "drop", "(I)I"⟩, prog_14_method_57_code, 3, (some (.int)), 11, false, false, cd_208)
theorem mo_208 : rowOk mr_208 := chkA_of ok_208 fun pc h => by show cond (Nat.ble 34 pc) none _ = none; rw [Nat.ble_eq_true_of_le h]; rfl
noncomputable def mr_209 : mRow := (⟨"WindParkModel", "act", "(I)I"⟩, prog_14_method_71_code, 2, (some (.int)), 11, false, false, cd_209)
theorem mo_209 : rowOk mr_209 := chkA_of ok_209 fun pc h => by show cond (Nat.ble 204 pc) none _ = none; rw [Nat.ble_eq_true_of_le h]; rfl
noncomputable def mr_210 : mRow := (⟨"WindParkModel", "keepAll", "(Z)V"⟩, prog_14_method_70_code, 3, none, 11, false, false, cd_210)
theorem mo_210 : rowOk mr_210 := chkA_of ok_210 fun pc h => by show cond (Nat.ble 137 pc) none _ = none; rw [Nat.ble_eq_true_of_le h]; rfl
noncomputable def mr_211 : mRow := (⟨"WindParkModel", "piece", "(II)V"⟩, prog_14_method_60_code, 3, none, 11, false, false, cd_211)
theorem mo_211 : rowOk mr_211 := chkA_of ok_211 fun pc h => by show cond (Nat.ble 103 pc) none _ = none; rw [Nat.ble_eq_true_of_le h]; rfl
noncomputable def mr_212 : mRow := (⟨"WindParkModel", "ends", "(II)V"⟩, prog_14_method_59_code, 3, none, 11, false, false, cd_212)
theorem mo_212 : rowOk mr_212 := chkA_of ok_212 fun pc h => by show cond (Nat.ble 11 pc) none _ = none; rw [Nat.ble_eq_true_of_le h]; rfl
noncomputable def mr_213 : mRow := (⟨"WindParkModel", "behind", "()V"⟩, prog_14_method_62_code, 5, none, 11, false, false, cd_213)
theorem mo_213 : rowOk mr_213 := chkA_of ok_213 fun pc h => by show cond (Nat.ble 333 pc) none _ = none; rw [Nat.ble_eq_true_of_le h]; rfl
noncomputable def mr_214 : mRow := (⟨"WindParkModel", "goesOn", "()V"⟩, prog_14_method_61_code, 1, none, 11, false, false, cd_214)
theorem mo_214 : rowOk mr_214 := chkA_of ok_214 fun pc h => by show cond (Nat.ble 21 pc) none _ = none; rw [Nat.ble_eq_true_of_le h]; rfl
noncomputable def mr_215 : mRow := (⟨"WindParkModel", "goStep", "()V"⟩, prog_14_method_67_code, 6, none, 11, false, false, cd_215)
theorem mo_215 : rowOk mr_215 := chkA_of ok_215 fun pc h => by show cond (Nat.ble 198 pc) none _ = none; rw [Nat.ble_eq_true_of_le h]; rfl
noncomputable def mr_216 : mRow := (⟨"WindParkModel", "does", "(IIII)I"⟩, prog_14_method_64_code, 6, (some (.int)), 11, false, false, cd_216)
theorem mo_216 : rowOk mr_216 := chkA_of ok_216 fun pc h => by show cond (Nat.ble 258 pc) none _ = none; rw [Nat.ble_eq_true_of_le h]; rfl
noncomputable def mr_217 : mRow := (⟨"WindParkModel", "push", "(II)V"⟩, prog_14_method_63_code, 3, none, 11, false, false, cd_217)
theorem mo_217 : rowOk mr_217 := chkA_of ok_217 fun pc h => by show cond (Nat.ble 31 pc) none _ = none; rw [Nat.ble_eq_true_of_le h]; rfl
noncomputable def mr_218 : mRow := (⟨"WindParkModel", "say", "(I)V"⟩, prog_14_method_58_code, 2, none, 11, false, false, cd_218)
theorem mo_218 : rowOk mr_218 := chkA_of ok_218 fun pc h => by show cond (Nat.ble 30 pc) none _ = none; rw [Nat.ble_eq_true_of_le h]; rfl
noncomputable def mr_219 : mRow := (⟨"WindParkModel", "fits", "(II)I"⟩, prog_14_method_65_code, 5, (some (.int)), 11, false, false, cd_219)
theorem mo_219 : rowOk mr_219 := chkA_of ok_219 fun pc h => by show cond (Nat.ble 128 pc) none _ = none; rw [Nat.ble_eq_true_of_le h]; rfl
noncomputable def mr_220 : mRow := (⟨"WindParkModel", "strips", "(II)I"⟩, prog_14_method_66_code, 4, (some (.int)), 11, false, false, cd_220)
theorem mo_220 : rowOk mr_220 := chkA_of ok_220 fun pc h => by show cond (Nat.ble 58 pc) none _ = none; rw [Nat.ble_eq_true_of_le h]; rfl
noncomputable def mr_221 : mRow := (⟨"WindParkModel", "goBack", "()V"⟩, prog_14_method_69_code, 3, none, 11, false, false, cd_221)
theorem mo_221 : rowOk mr_221 := chkA_of ok_221 fun pc h => by show cond (Nat.ble 79 pc) none _ = none; rw [Nat.ble_eq_true_of_le h]; rfl
noncomputable def mr_222 : mRow := (⟨"WindParkModel", "leastEmpty", "()I"⟩, prog_14_method_68_code, 2, (some (.int)), 11, false, false, cd_222)
theorem mo_222 : rowOk mr_222 := chkA_of ok_222 fun pc h => by show cond (Nat.ble 36 pc) none _ = none; rw [Nat.ble_eq_true_of_le h]; rfl
noncomputable def mr_223 : mRow := (⟨"WindParkModel", "acted", "(I)I"⟩, prog_14_method_72_code, 2, (some (.int)), 11, false, false, cd_223)
theorem mo_223 : rowOk mr_223 := chkA_of ok_223 fun pc h => by show cond (Nat.ble 101 pc) none _ = none; rw [Nat.ble_eq_true_of_le h]; rfl
noncomputable def mr_224 : mRow := (⟨"WindParkModel", "tells", "(I)I"⟩, prog_14_method_73_code, 2, (some (.int)), 11, false, false, cd_224)
theorem mo_224 : rowOk mr_224 := chkA_of ok_224 fun pc h => by show cond (Nat.ble 7 pc) none _ = none; rw [Nat.ble_eq_true_of_le h]; rfl
noncomputable def mr_225 : mRow := (⟨"WindParkModel", "said", "(I)I"⟩, prog_14_method_74_code, 2, (some (.int)), 11, false, false, cd_225)
theorem mo_225 : rowOk mr_225 := chkA_of ok_225 fun pc h => by show cond (Nat.ble 46 pc) none _ = none; rw [Nat.ble_eq_true_of_le h]; rfl
noncomputable def mr_226 : mRow := (⟨"WindParkModel", "place", "(III)I"⟩, prog_14_method_76_code, 4, (some (.int)), 11, false, false, cd_226)
theorem mo_226 : rowOk mr_226 := chkA_of ok_226 fun pc h => by show cond (Nat.ble 70 pc) none _ = none; rw [Nat.ble_eq_true_of_le h]; rfl
noncomputable def mr_227 : mRow := (⟨"WindParkModel", "read", "(IIJ)I"⟩, prog_14_method_77_code, 7, (some (.int)), 11, false, false, cd_227)
theorem mo_227 : rowOk mr_227 := chkA_of ok_227 fun pc h => by show cond (Nat.ble 78 pc) none _ = none; rw [Nat.ble_eq_true_of_le h]; rfl
noncomputable def mr_228 : mRow := (⟨"WindParkModel", "wind", "(IZ)I"⟩, prog_14_method_78_code, 3, (some (.int)), 11, false, false, cd_228)
theorem mo_228 : rowOk mr_228 := chkA_of ok_228 fun pc h => by show cond (Nat.ble 35 pc) none _ = none; rw [Nat.ble_eq_true_of_le h]; rfl
noncomputable def mr_229 : mRow := (⟨"WindParkModel", "bound", "(IJ)I"⟩, prog_14_method_79_code, 6, (some (.int)), 11, false, false, cd_229)
theorem mo_229 : rowOk mr_229 := chkA_of ok_229 fun pc h => by show cond (Nat.ble 54 pc) none _ = none; rw [Nat.ble_eq_true_of_le h]; rfl
noncomputable def mr_230 : mRow := (⟨"WindParkModel", "run", "(I)I"⟩, prog_14_method_94_code, 4, (some (.int)), 11, false, false, cd_230)
theorem mo_230 : rowOk mr_230 := chkA_of ok_230 fun pc h => by show cond (Nat.ble 122 pc) none _ = none; rw [Nat.ble_eq_true_of_le h]; rfl
noncomputable def mr_231 : mRow := (⟨"WindParkModel", "sortTurbines", "()V"⟩, prog_14_method_87_code, 3, none, 11, false, false, cd_231)
theorem mo_231 : rowOk mr_231 := chkA_of ok_231 fun pc h => by show cond (Nat.ble 70 pc) none _ = none; rw [Nat.ble_eq_true_of_le h]; rfl
noncomputable def mr_232 : mRow := (⟨"WindParkModel", "line", "(I)I"⟩, prog_14_method_82_code, 2, (some (.int)), 11, false, false, cd_232)
theorem mo_232 : rowOk mr_232 := chkA_of ok_232 fun pc h => by show cond (Nat.ble 24 pc) none _ = none; rw [Nat.ble_eq_true_of_le h]; rfl
noncomputable def mr_233 : mRow := (⟨"WindParkModel", "dx", "()I"⟩, prog_14_method_80_code, 1, (some (.int)), 11, false, false, cd_233)
theorem mo_233 : rowOk mr_233 := chkA_of ok_233 fun pc h => by show cond (Nat.ble 44 pc) none _ = none; rw [Nat.ble_eq_true_of_le h]; rfl
noncomputable def mr_234 : mRow := (⟨"WindParkModel", "dy", "()I"⟩, prog_14_method_81_code, 1, (some (.int)), 11, false, false, cd_234)
theorem mo_234 : rowOk mr_234 := chkA_of ok_234 fun pc h => by show cond (Nat.ble 33 pc) none _ = none; rw [Nat.ble_eq_true_of_le h]; rfl
noncomputable def mr_235 : mRow := (⟨"WindParkModel", "goTurbine", "(I)V"⟩, prog_14_method_93_code, 12, none, 11, false, false, cd_235)
theorem mo_235 : rowOk mr_235 := chkA_of ok_235 fun pc h => by show cond (Nat.ble 494 pc) none _ = none; rw [Nat.ble_eq_true_of_le h]; rfl
noncomputable def mr_236 : mRow := (⟨"WindParkModel", "voteOf", "(I)D"⟩, prog_14_method_88_code, 9, (some (.double)), 11, false, false, cd_236)
theorem mo_236 : rowOk mr_236 := chkA_of ok_236 fun pc h => by show cond (Nat.ble 210 pc) none _ = none; rw [Nat.ble_eq_true_of_le h]; rfl
noncomputable def mr_237 : mRow := (⟨"WindParkModel", "windOf", "(II)D"⟩, prog_14_method_89_code, 15, (some (.double)), 11, false, false, cd_237)
theorem mo_237 : rowOk mr_237 := chkA_of ok_237 fun pc h => by show cond (Nat.ble 173 pc) none _ = none; rw [Nat.ble_eq_true_of_le h]; rfl
noncomputable def mr_238 : mRow := (⟨"WindParkModel", "cross", "(I)I"⟩, prog_14_method_83_code, 2, (some (.int)), 11, false, false, cd_238)
theorem mo_238 : rowOk mr_238 := chkA_of ok_238 fun pc h => by show cond (Nat.ble 24 pc) none _ = none; rw [Nat.ble_eq_true_of_le h]; rfl
noncomputable def mr_239 : mRow := (⟨"WindParkModel", "root", "(D)D"⟩, prog_14_method_86_code, 16, (some (.double)), 11, false, false, cd_239)
theorem mo_239 : rowOk mr_239 := chkA_of ok_239 fun pc h => by show cond (Nat.ble 286 pc) none _ = none; rw [Nat.ble_eq_true_of_le h]; rfl
noncomputable def mr_240 : mRow := (⟨"WindParkModel", "changeState", "(I)V"⟩, prog_14_method_92_code, 4, none, 11, false, false, cd_240)
theorem mo_240 : rowOk mr_240 := chkA_of ok_240 fun pc h => by show cond (Nat.ble 162 pc) none _ = none; rw [Nat.ble_eq_true_of_le h]; rfl
noncomputable def mr_241 : mRow := (⟨"WindParkModel", "lesser", "(DD)D"⟩, prog_14_method_85_code, 4, (some (.double)), 11, false, false, cd_241)
theorem mo_241 : rowOk mr_241 := chkA_of ok_241 fun pc h => by show cond (Nat.ble 33 pc) none _ = none; rw [Nat.ble_eq_true_of_le h]; rfl
noncomputable def mr_242 : mRow := (⟨"WindParkModel", "greater", "(DD)D"⟩, prog_14_method_84_code, 4, (some (.double)), 11, false, false, cd_242)
theorem mo_242 : rowOk mr_242 := chkA_of ok_242 fun pc h => by show cond (Nat.ble 33 pc) none _ = none; rw [Nat.ble_eq_true_of_le h]; rfl
noncomputable def mr_243 : mRow := (⟨"WindParkModel", "wearsAt", "(III)Z"⟩, prog_14_method_91_code, 6, (some (.boolean)), 11, false, true, cd_243)
theorem mo_243 : rowOk mr_243 := chkA_of ok_243 fun pc h => by show cond (Nat.ble 55 pc) none _ = none; rw [Nat.ble_eq_true_of_le h]; rfl
noncomputable def mr_244 : mRow := (⟨"WindParkModel", "falls", "(III)V"⟩, prog_14_method_90_code, 4, none, 11, false, false, cd_244)
theorem mo_244 : rowOk mr_244 := chkA_of ok_244 fun pc h => by show cond (Nat.ble 103 pc) none _ = none; rw [Nat.ble_eq_true_of_le h]; rfl
noncomputable def mr_245 : mRow := (⟨"WindParkModel", "reset", "(I)I"⟩, prog_14_method_95_code, 2, (some (.int)), 11, false, false, cd_245)
theorem mo_245 : rowOk mr_245 := chkA_of ok_245 fun pc h => by show cond (Nat.ble 45 pc) none _ = none; rw [Nat.ble_eq_true_of_le h]; rfl
noncomputable def mr_246 : mRow := (⟨"WindParkModel", "of", "(II)J"⟩, prog_14_method_96_code, 3, (some (.long)), 11, false, false, cd_246)
theorem mo_246 : rowOk mr_246 := chkA_of ok_246 fun pc h => by show cond (Nat.ble 182 pc) none _ = none; rw [Nat.ble_eq_true_of_le h]; rfl
noncomputable def mr_247 : mRow := (⟨"WindParkModel", "finding", "(II)I"⟩, prog_14_method_97_code, 3, (some (.int)), 11, false, false, cd_247)
theorem mo_247 : rowOk mr_247 := chkA_of ok_247 fun pc h => by show cond (Nat.ble 55 pc) none _ = none; rw [Nat.ble_eq_true_of_le h]; rfl
noncomputable def mr_248 : mRow := (⟨"WindParkModel", "why", "()I"⟩, prog_14_method_98_code, 1, (some (.int)), 11, false, false, cd_248)
theorem mo_248 : rowOk mr_248 := chkA_of ok_248 fun pc h => by show cond (Nat.ble 5 pc) none _ = none; rw [Nat.ble_eq_true_of_le h]; rfl
noncomputable def mr_249 : mRow := (⟨"WindParkModel", "count", "(I)I"⟩, prog_14_method_99_code, 4, (some (.int)), 11, false, false, cd_249)
theorem mo_249 : rowOk mr_249 := chkA_of ok_249 fun pc h => by show cond (Nat.ble 130 pc) none _ = none; rw [Nat.ble_eq_true_of_le h]; rfl
noncomputable def mTab_0 : List mRow := [mr_4, mr_4, mr_4, mr_4, mr_4, mr_5, mr_6, mr_7, mr_8, mr_9, mr_10, mr_11, mr_12, mr_13, mr_14, mr_15, mr_16, mr_17, mr_18, mr_19, mr_20, mr_21, mr_22, mr_23, mr_24, mr_25, mr_26, mr_27, mr_28, mr_29, mr_30, mr_31]
theorem mTab_0_ok : ∀ r ∈ mTab_0, rowOk r := List.forall_mem_cons.mpr ⟨mo_4, List.forall_mem_cons.mpr ⟨mo_4, List.forall_mem_cons.mpr ⟨mo_4, List.forall_mem_cons.mpr ⟨mo_4, List.forall_mem_cons.mpr ⟨mo_4, List.forall_mem_cons.mpr ⟨mo_5, List.forall_mem_cons.mpr ⟨mo_6, List.forall_mem_cons.mpr ⟨mo_7, List.forall_mem_cons.mpr ⟨mo_8, List.forall_mem_cons.mpr ⟨mo_9, List.forall_mem_cons.mpr ⟨mo_10, List.forall_mem_cons.mpr ⟨mo_11, List.forall_mem_cons.mpr ⟨mo_12, List.forall_mem_cons.mpr ⟨mo_13, List.forall_mem_cons.mpr ⟨mo_14, List.forall_mem_cons.mpr ⟨mo_15, List.forall_mem_cons.mpr ⟨mo_16, List.forall_mem_cons.mpr ⟨mo_17, List.forall_mem_cons.mpr ⟨mo_18, List.forall_mem_cons.mpr ⟨mo_19, List.forall_mem_cons.mpr ⟨mo_20, List.forall_mem_cons.mpr ⟨mo_21, List.forall_mem_cons.mpr ⟨mo_22, List.forall_mem_cons.mpr ⟨mo_23, List.forall_mem_cons.mpr ⟨mo_24, List.forall_mem_cons.mpr ⟨mo_25, List.forall_mem_cons.mpr ⟨mo_26, List.forall_mem_cons.mpr ⟨mo_27, List.forall_mem_cons.mpr ⟨mo_28, List.forall_mem_cons.mpr ⟨mo_29, List.forall_mem_cons.mpr ⟨mo_30, List.forall_mem_cons.mpr ⟨mo_31, fun _ h => absurd h List.not_mem_nil⟩⟩⟩⟩⟩⟩⟩⟩⟩⟩⟩⟩⟩⟩⟩⟩⟩⟩⟩⟩⟩⟩⟩⟩⟩⟩⟩⟩⟩⟩⟩⟩
noncomputable def mTab_1 : List mRow := [mr_32, mr_33, mr_34, mr_35, mr_36, mr_37, mr_38, mr_39, mr_40, mr_41, mr_42, mr_43, mr_44, mr_45, mr_46, mr_47, mr_48, mr_49, mr_50, mr_51, mr_52, mr_53, mr_54, mr_55, mr_56, mr_57, mr_58, mr_59, mr_60, mr_61, mr_62, mr_63]
theorem mTab_1_ok : ∀ r ∈ mTab_1, rowOk r := List.forall_mem_cons.mpr ⟨mo_32, List.forall_mem_cons.mpr ⟨mo_33, List.forall_mem_cons.mpr ⟨mo_34, List.forall_mem_cons.mpr ⟨mo_35, List.forall_mem_cons.mpr ⟨mo_36, List.forall_mem_cons.mpr ⟨mo_37, List.forall_mem_cons.mpr ⟨mo_38, List.forall_mem_cons.mpr ⟨mo_39, List.forall_mem_cons.mpr ⟨mo_40, List.forall_mem_cons.mpr ⟨mo_41, List.forall_mem_cons.mpr ⟨mo_42, List.forall_mem_cons.mpr ⟨mo_43, List.forall_mem_cons.mpr ⟨mo_44, List.forall_mem_cons.mpr ⟨mo_45, List.forall_mem_cons.mpr ⟨mo_46, List.forall_mem_cons.mpr ⟨mo_47, List.forall_mem_cons.mpr ⟨mo_48, List.forall_mem_cons.mpr ⟨mo_49, List.forall_mem_cons.mpr ⟨mo_50, List.forall_mem_cons.mpr ⟨mo_51, List.forall_mem_cons.mpr ⟨mo_52, List.forall_mem_cons.mpr ⟨mo_53, List.forall_mem_cons.mpr ⟨mo_54, List.forall_mem_cons.mpr ⟨mo_55, List.forall_mem_cons.mpr ⟨mo_56, List.forall_mem_cons.mpr ⟨mo_57, List.forall_mem_cons.mpr ⟨mo_58, List.forall_mem_cons.mpr ⟨mo_59, List.forall_mem_cons.mpr ⟨mo_60, List.forall_mem_cons.mpr ⟨mo_61, List.forall_mem_cons.mpr ⟨mo_62, List.forall_mem_cons.mpr ⟨mo_63, fun _ h => absurd h List.not_mem_nil⟩⟩⟩⟩⟩⟩⟩⟩⟩⟩⟩⟩⟩⟩⟩⟩⟩⟩⟩⟩⟩⟩⟩⟩⟩⟩⟩⟩⟩⟩⟩⟩
noncomputable def mTab_2 : List mRow := [mr_64, mr_65, mr_66, mr_67, mr_68, mr_69, mr_70, mr_71, mr_72, mr_73, mr_74, mr_75, mr_76, mr_77, mr_78, mr_79, mr_80, mr_81, mr_82, mr_83, mr_84, mr_85, mr_86, mr_87, mr_88, mr_89, mr_90, mr_91, mr_92, mr_93, mr_94, mr_95]
theorem mTab_2_ok : ∀ r ∈ mTab_2, rowOk r := List.forall_mem_cons.mpr ⟨mo_64, List.forall_mem_cons.mpr ⟨mo_65, List.forall_mem_cons.mpr ⟨mo_66, List.forall_mem_cons.mpr ⟨mo_67, List.forall_mem_cons.mpr ⟨mo_68, List.forall_mem_cons.mpr ⟨mo_69, List.forall_mem_cons.mpr ⟨mo_70, List.forall_mem_cons.mpr ⟨mo_71, List.forall_mem_cons.mpr ⟨mo_72, List.forall_mem_cons.mpr ⟨mo_73, List.forall_mem_cons.mpr ⟨mo_74, List.forall_mem_cons.mpr ⟨mo_75, List.forall_mem_cons.mpr ⟨mo_76, List.forall_mem_cons.mpr ⟨mo_77, List.forall_mem_cons.mpr ⟨mo_78, List.forall_mem_cons.mpr ⟨mo_79, List.forall_mem_cons.mpr ⟨mo_80, List.forall_mem_cons.mpr ⟨mo_81, List.forall_mem_cons.mpr ⟨mo_82, List.forall_mem_cons.mpr ⟨mo_83, List.forall_mem_cons.mpr ⟨mo_84, List.forall_mem_cons.mpr ⟨mo_85, List.forall_mem_cons.mpr ⟨mo_86, List.forall_mem_cons.mpr ⟨mo_87, List.forall_mem_cons.mpr ⟨mo_88, List.forall_mem_cons.mpr ⟨mo_89, List.forall_mem_cons.mpr ⟨mo_90, List.forall_mem_cons.mpr ⟨mo_91, List.forall_mem_cons.mpr ⟨mo_92, List.forall_mem_cons.mpr ⟨mo_93, List.forall_mem_cons.mpr ⟨mo_94, List.forall_mem_cons.mpr ⟨mo_95, fun _ h => absurd h List.not_mem_nil⟩⟩⟩⟩⟩⟩⟩⟩⟩⟩⟩⟩⟩⟩⟩⟩⟩⟩⟩⟩⟩⟩⟩⟩⟩⟩⟩⟩⟩⟩⟩⟩
noncomputable def mTab_3 : List mRow := [mr_96, mr_97, mr_98, mr_99, mr_100, mr_101, mr_102, mr_103, mr_104, mr_105, mr_106, mr_107, mr_108, mr_109, mr_110, mr_111, mr_112, mr_113, mr_114, mr_115, mr_116, mr_117, mr_118, mr_119, mr_120, mr_121, mr_122, mr_123, mr_124, mr_125, mr_126, mr_127]
theorem mTab_3_ok : ∀ r ∈ mTab_3, rowOk r := List.forall_mem_cons.mpr ⟨mo_96, List.forall_mem_cons.mpr ⟨mo_97, List.forall_mem_cons.mpr ⟨mo_98, List.forall_mem_cons.mpr ⟨mo_99, List.forall_mem_cons.mpr ⟨mo_100, List.forall_mem_cons.mpr ⟨mo_101, List.forall_mem_cons.mpr ⟨mo_102, List.forall_mem_cons.mpr ⟨mo_103, List.forall_mem_cons.mpr ⟨mo_104, List.forall_mem_cons.mpr ⟨mo_105, List.forall_mem_cons.mpr ⟨mo_106, List.forall_mem_cons.mpr ⟨mo_107, List.forall_mem_cons.mpr ⟨mo_108, List.forall_mem_cons.mpr ⟨mo_109, List.forall_mem_cons.mpr ⟨mo_110, List.forall_mem_cons.mpr ⟨mo_111, List.forall_mem_cons.mpr ⟨mo_112, List.forall_mem_cons.mpr ⟨mo_113, List.forall_mem_cons.mpr ⟨mo_114, List.forall_mem_cons.mpr ⟨mo_115, List.forall_mem_cons.mpr ⟨mo_116, List.forall_mem_cons.mpr ⟨mo_117, List.forall_mem_cons.mpr ⟨mo_118, List.forall_mem_cons.mpr ⟨mo_119, List.forall_mem_cons.mpr ⟨mo_120, List.forall_mem_cons.mpr ⟨mo_121, List.forall_mem_cons.mpr ⟨mo_122, List.forall_mem_cons.mpr ⟨mo_123, List.forall_mem_cons.mpr ⟨mo_124, List.forall_mem_cons.mpr ⟨mo_125, List.forall_mem_cons.mpr ⟨mo_126, List.forall_mem_cons.mpr ⟨mo_127, fun _ h => absurd h List.not_mem_nil⟩⟩⟩⟩⟩⟩⟩⟩⟩⟩⟩⟩⟩⟩⟩⟩⟩⟩⟩⟩⟩⟩⟩⟩⟩⟩⟩⟩⟩⟩⟩⟩
noncomputable def mTab_4 : List mRow := [mr_128, mr_129, mr_130, mr_131, mr_132, mr_133, mr_134, mr_135, mr_136, mr_137, mr_138, mr_139, mr_140, mr_141, mr_142, mr_143, mr_144, mr_145, mr_146, mr_147, mr_148, mr_149, mr_150, mr_151, mr_152, mr_153, mr_154, mr_155, mr_156, mr_157, mr_158, mr_159]
theorem mTab_4_ok : ∀ r ∈ mTab_4, rowOk r := List.forall_mem_cons.mpr ⟨mo_128, List.forall_mem_cons.mpr ⟨mo_129, List.forall_mem_cons.mpr ⟨mo_130, List.forall_mem_cons.mpr ⟨mo_131, List.forall_mem_cons.mpr ⟨mo_132, List.forall_mem_cons.mpr ⟨mo_133, List.forall_mem_cons.mpr ⟨mo_134, List.forall_mem_cons.mpr ⟨mo_135, List.forall_mem_cons.mpr ⟨mo_136, List.forall_mem_cons.mpr ⟨mo_137, List.forall_mem_cons.mpr ⟨mo_138, List.forall_mem_cons.mpr ⟨mo_139, List.forall_mem_cons.mpr ⟨mo_140, List.forall_mem_cons.mpr ⟨mo_141, List.forall_mem_cons.mpr ⟨mo_142, List.forall_mem_cons.mpr ⟨mo_143, List.forall_mem_cons.mpr ⟨mo_144, List.forall_mem_cons.mpr ⟨mo_145, List.forall_mem_cons.mpr ⟨mo_146, List.forall_mem_cons.mpr ⟨mo_147, List.forall_mem_cons.mpr ⟨mo_148, List.forall_mem_cons.mpr ⟨mo_149, List.forall_mem_cons.mpr ⟨mo_150, List.forall_mem_cons.mpr ⟨mo_151, List.forall_mem_cons.mpr ⟨mo_152, List.forall_mem_cons.mpr ⟨mo_153, List.forall_mem_cons.mpr ⟨mo_154, List.forall_mem_cons.mpr ⟨mo_155, List.forall_mem_cons.mpr ⟨mo_156, List.forall_mem_cons.mpr ⟨mo_157, List.forall_mem_cons.mpr ⟨mo_158, List.forall_mem_cons.mpr ⟨mo_159, fun _ h => absurd h List.not_mem_nil⟩⟩⟩⟩⟩⟩⟩⟩⟩⟩⟩⟩⟩⟩⟩⟩⟩⟩⟩⟩⟩⟩⟩⟩⟩⟩⟩⟩⟩⟩⟩⟩
noncomputable def mTab_5 : List mRow := [mr_160, mr_161, mr_162, mr_163, mr_164, mr_165, mr_166, mr_167, mr_168, mr_169, mr_170, mr_171, mr_172, mr_173, mr_174, mr_175, mr_176, mr_177, mr_178, mr_179, mr_180, mr_181, mr_182, mr_183, mr_184, mr_185, mr_186, mr_187, mr_188, mr_189, mr_190, mr_191]
theorem mTab_5_ok : ∀ r ∈ mTab_5, rowOk r := List.forall_mem_cons.mpr ⟨mo_160, List.forall_mem_cons.mpr ⟨mo_161, List.forall_mem_cons.mpr ⟨mo_162, List.forall_mem_cons.mpr ⟨mo_163, List.forall_mem_cons.mpr ⟨mo_164, List.forall_mem_cons.mpr ⟨mo_165, List.forall_mem_cons.mpr ⟨mo_166, List.forall_mem_cons.mpr ⟨mo_167, List.forall_mem_cons.mpr ⟨mo_168, List.forall_mem_cons.mpr ⟨mo_169, List.forall_mem_cons.mpr ⟨mo_170, List.forall_mem_cons.mpr ⟨mo_171, List.forall_mem_cons.mpr ⟨mo_172, List.forall_mem_cons.mpr ⟨mo_173, List.forall_mem_cons.mpr ⟨mo_174, List.forall_mem_cons.mpr ⟨mo_175, List.forall_mem_cons.mpr ⟨mo_176, List.forall_mem_cons.mpr ⟨mo_177, List.forall_mem_cons.mpr ⟨mo_178, List.forall_mem_cons.mpr ⟨mo_179, List.forall_mem_cons.mpr ⟨mo_180, List.forall_mem_cons.mpr ⟨mo_181, List.forall_mem_cons.mpr ⟨mo_182, List.forall_mem_cons.mpr ⟨mo_183, List.forall_mem_cons.mpr ⟨mo_184, List.forall_mem_cons.mpr ⟨mo_185, List.forall_mem_cons.mpr ⟨mo_186, List.forall_mem_cons.mpr ⟨mo_187, List.forall_mem_cons.mpr ⟨mo_188, List.forall_mem_cons.mpr ⟨mo_189, List.forall_mem_cons.mpr ⟨mo_190, List.forall_mem_cons.mpr ⟨mo_191, fun _ h => absurd h List.not_mem_nil⟩⟩⟩⟩⟩⟩⟩⟩⟩⟩⟩⟩⟩⟩⟩⟩⟩⟩⟩⟩⟩⟩⟩⟩⟩⟩⟩⟩⟩⟩⟩⟩
noncomputable def mTab_6 : List mRow := [mr_192, mr_193, mr_194, mr_195, mr_196, mr_197, mr_198, mr_199, mr_200, mr_201, mr_202, mr_203, mr_204, mr_205, mr_206, mr_207, mr_208, mr_209, mr_210, mr_211, mr_212, mr_213, mr_214, mr_215, mr_216, mr_217, mr_218, mr_219, mr_220, mr_221, mr_222, mr_223]
theorem mTab_6_ok : ∀ r ∈ mTab_6, rowOk r := List.forall_mem_cons.mpr ⟨mo_192, List.forall_mem_cons.mpr ⟨mo_193, List.forall_mem_cons.mpr ⟨mo_194, List.forall_mem_cons.mpr ⟨mo_195, List.forall_mem_cons.mpr ⟨mo_196, List.forall_mem_cons.mpr ⟨mo_197, List.forall_mem_cons.mpr ⟨mo_198, List.forall_mem_cons.mpr ⟨mo_199, List.forall_mem_cons.mpr ⟨mo_200, List.forall_mem_cons.mpr ⟨mo_201, List.forall_mem_cons.mpr ⟨mo_202, List.forall_mem_cons.mpr ⟨mo_203, List.forall_mem_cons.mpr ⟨mo_204, List.forall_mem_cons.mpr ⟨mo_205, List.forall_mem_cons.mpr ⟨mo_206, List.forall_mem_cons.mpr ⟨mo_207, List.forall_mem_cons.mpr ⟨mo_208, List.forall_mem_cons.mpr ⟨mo_209, List.forall_mem_cons.mpr ⟨mo_210, List.forall_mem_cons.mpr ⟨mo_211, List.forall_mem_cons.mpr ⟨mo_212, List.forall_mem_cons.mpr ⟨mo_213, List.forall_mem_cons.mpr ⟨mo_214, List.forall_mem_cons.mpr ⟨mo_215, List.forall_mem_cons.mpr ⟨mo_216, List.forall_mem_cons.mpr ⟨mo_217, List.forall_mem_cons.mpr ⟨mo_218, List.forall_mem_cons.mpr ⟨mo_219, List.forall_mem_cons.mpr ⟨mo_220, List.forall_mem_cons.mpr ⟨mo_221, List.forall_mem_cons.mpr ⟨mo_222, List.forall_mem_cons.mpr ⟨mo_223, fun _ h => absurd h List.not_mem_nil⟩⟩⟩⟩⟩⟩⟩⟩⟩⟩⟩⟩⟩⟩⟩⟩⟩⟩⟩⟩⟩⟩⟩⟩⟩⟩⟩⟩⟩⟩⟩⟩
noncomputable def mTab_7 : List mRow := [mr_224, mr_225, mr_226, mr_227, mr_228, mr_229, mr_230, mr_231, mr_232, mr_233, mr_234, mr_235, mr_236, mr_237, mr_238, mr_239, mr_240, mr_241, mr_242, mr_243, mr_244, mr_245, mr_246, mr_247, mr_248, mr_249]
theorem mTab_7_ok : ∀ r ∈ mTab_7, rowOk r := List.forall_mem_cons.mpr ⟨mo_224, List.forall_mem_cons.mpr ⟨mo_225, List.forall_mem_cons.mpr ⟨mo_226, List.forall_mem_cons.mpr ⟨mo_227, List.forall_mem_cons.mpr ⟨mo_228, List.forall_mem_cons.mpr ⟨mo_229, List.forall_mem_cons.mpr ⟨mo_230, List.forall_mem_cons.mpr ⟨mo_231, List.forall_mem_cons.mpr ⟨mo_232, List.forall_mem_cons.mpr ⟨mo_233, List.forall_mem_cons.mpr ⟨mo_234, List.forall_mem_cons.mpr ⟨mo_235, List.forall_mem_cons.mpr ⟨mo_236, List.forall_mem_cons.mpr ⟨mo_237, List.forall_mem_cons.mpr ⟨mo_238, List.forall_mem_cons.mpr ⟨mo_239, List.forall_mem_cons.mpr ⟨mo_240, List.forall_mem_cons.mpr ⟨mo_241, List.forall_mem_cons.mpr ⟨mo_242, List.forall_mem_cons.mpr ⟨mo_243, List.forall_mem_cons.mpr ⟨mo_244, List.forall_mem_cons.mpr ⟨mo_245, List.forall_mem_cons.mpr ⟨mo_246, List.forall_mem_cons.mpr ⟨mo_247, List.forall_mem_cons.mpr ⟨mo_248, List.forall_mem_cons.mpr ⟨mo_249, fun _ h => absurd h List.not_mem_nil⟩⟩⟩⟩⟩⟩⟩⟩⟩⟩⟩⟩⟩⟩⟩⟩⟩⟩⟩⟩⟩⟩⟩⟩⟩⟩
noncomputable def mTab : List mRow := mTab_0 ++ (mTab_1 ++ (mTab_2 ++ (mTab_3 ++ (mTab_4 ++ (mTab_5 ++ (mTab_6 ++ (mTab_7)))))))
theorem mTab_ok : ∀ r ∈ mTab, rowOk r := List.forall_mem_append.mpr ⟨mTab_0_ok, List.forall_mem_append.mpr ⟨mTab_1_ok, List.forall_mem_append.mpr ⟨mTab_2_ok, List.forall_mem_append.mpr ⟨mTab_3_ok, List.forall_mem_append.mpr ⟨mTab_4_ok, List.forall_mem_append.mpr ⟨mTab_5_ok, List.forall_mem_append.mpr ⟨mTab_6_ok, mTab_7_ok⟩⟩⟩⟩⟩⟩⟩
noncomputable def mD : mRow := mr_4
noncomputable def mR (y : Nat) : mRow := mTab.getD y mD
noncomputable def mN (y : Nat) : MethodName := (mR y).1
noncomputable def cdT (y : Nat) : mC := (mR y).2.2.2.2.2.2.2
noncomputable def mxT (y : Nat) : Nat := (mR y).2.2.1
theorem mR_mem (y : Nat) : mR y ∈ mTab := by
  unfold mR
  rw [List.getD_eq_getElem?_getD]
  cases h : mTab[y]? with
  | none => exact List.mem_append_left _ (by show mD ∈ mTab_0; exact List.mem_cons_self)
  | some r => exact List.mem_of_getElem? h
