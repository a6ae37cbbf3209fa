/-! ===== the code but run's changes the count of the steps nowhere; printed ===== -/
theorem okC_of {cd : mC} {n : Nat} (h : ((List.range n).all fun pc => okOp (cd pc)) = true) (hn : ∀ pc, n ≤ pc → cd pc = none) : ∀ pc, okOp (cd pc) = true := by
  intro pc
  by_cases q : pc < n
  · exact List.all_eq_true.mp h pc (List.mem_range.mpr q)
  · rw [hn pc (Nat.le_of_not_lt q)]; rfl
def okR_ (r : mRow) : Prop := ∀ pc, okOp (r.2.2.2.2.2.2.2 pc) = true
theorem fs_4 : okR_ mr_4 := okC_of (cd := cd_4) (n := 65) (by decide +kernel) fun pc h => by show cond (Nat.ble 65 pc) none _ = none; rw [Nat.ble_eq_true_of_le h]; rfl
theorem fs_5 : okR_ mr_5 := okC_of (cd := cd_5) (n := 13) (by decide +kernel) fun pc h => by show cond (Nat.ble 13 pc) none _ = none; rw [Nat.ble_eq_true_of_le h]; rfl
theorem fs_6 : okR_ mr_6 := okC_of (cd := cd_6) (n := 64) (by decide +kernel) fun pc h => by show cond (Nat.ble 64 pc) none _ = none; rw [Nat.ble_eq_true_of_le h]; rfl
theorem fs_7 : okR_ mr_7 := okC_of (cd := cd_7) (n := 71) (by decide +kernel) fun pc h => by show cond (Nat.ble 71 pc) none _ = none; rw [Nat.ble_eq_true_of_le h]; rfl
theorem fs_8 : okR_ mr_8 := okC_of (cd := cd_8) (n := 56) (by decide +kernel) fun pc h => by show cond (Nat.ble 56 pc) none _ = none; rw [Nat.ble_eq_true_of_le h]; rfl
theorem fs_9 : okR_ mr_9 := okC_of (cd := cd_9) (n := 20) (by decide +kernel) fun pc h => by show cond (Nat.ble 20 pc) none _ = none; rw [Nat.ble_eq_true_of_le h]; rfl
theorem fs_10 : okR_ mr_10 := okC_of (cd := cd_10) (n := 45) (by decide +kernel) fun pc h => by show cond (Nat.ble 45 pc) none _ = none; rw [Nat.ble_eq_true_of_le h]; rfl
theorem fs_11 : okR_ mr_11 := okC_of (cd := cd_11) (n := 67) (by decide +kernel) fun pc h => by show cond (Nat.ble 67 pc) none _ = none; rw [Nat.ble_eq_true_of_le h]; rfl
theorem fs_12 : okR_ mr_12 := okC_of (cd := cd_12) (n := 16) (by decide +kernel) fun pc h => by show cond (Nat.ble 16 pc) none _ = none; rw [Nat.ble_eq_true_of_le h]; rfl
theorem fs_13 : okR_ mr_13 := okC_of (cd := cd_13) (n := 7) (by decide +kernel) fun pc h => by show cond (Nat.ble 7 pc) none _ = none; rw [Nat.ble_eq_true_of_le h]; rfl
theorem fs_14 : okR_ mr_14 := okC_of (cd := cd_14) (n := 16) (by decide +kernel) fun pc h => by show cond (Nat.ble 16 pc) none _ = none; rw [Nat.ble_eq_true_of_le h]; rfl
theorem fs_15 : okR_ mr_15 := okC_of (cd := cd_15) (n := 17) (by decide +kernel) fun pc h => by show cond (Nat.ble 17 pc) none _ = none; rw [Nat.ble_eq_true_of_le h]; rfl
theorem fs_16 : okR_ mr_16 := okC_of (cd := cd_16) (n := 5) (by decide +kernel) fun pc h => by show cond (Nat.ble 5 pc) none _ = none; rw [Nat.ble_eq_true_of_le h]; rfl
theorem fs_17 : okR_ mr_17 := okC_of (cd := cd_17) (n := 111) (by decide +kernel) fun pc h => by show cond (Nat.ble 111 pc) none _ = none; rw [Nat.ble_eq_true_of_le h]; rfl
theorem fs_18 : okR_ mr_18 := okC_of (cd := cd_18) (n := 18) (by decide +kernel) fun pc h => by show cond (Nat.ble 18 pc) none _ = none; rw [Nat.ble_eq_true_of_le h]; rfl
theorem fs_19 : okR_ mr_19 := okC_of (cd := cd_19) (n := 67) (by decide +kernel) fun pc h => by show cond (Nat.ble 67 pc) none _ = none; rw [Nat.ble_eq_true_of_le h]; rfl
theorem fs_20 : okR_ mr_20 := okC_of (cd := cd_20) (n := 16) (by decide +kernel) fun pc h => by show cond (Nat.ble 16 pc) none _ = none; rw [Nat.ble_eq_true_of_le h]; rfl
theorem fs_21 : okR_ mr_21 := okC_of (cd := cd_21) (n := 87) (by decide +kernel) fun pc h => by show cond (Nat.ble 87 pc) none _ = none; rw [Nat.ble_eq_true_of_le h]; rfl
theorem fs_22 : okR_ mr_22 := okC_of (cd := cd_22) (n := 15) (by decide +kernel) fun pc h => by show cond (Nat.ble 15 pc) none _ = none; rw [Nat.ble_eq_true_of_le h]; rfl
theorem fs_23 : okR_ mr_23 := okC_of (cd := cd_23) (n := 57) (by decide +kernel) fun pc h => by show cond (Nat.ble 57 pc) none _ = none; rw [Nat.ble_eq_true_of_le h]; rfl
theorem fs_24 : okR_ mr_24 := okC_of (cd := cd_24) (n := 39) (by decide +kernel) fun pc h => by show cond (Nat.ble 39 pc) none _ = none; rw [Nat.ble_eq_true_of_le h]; rfl
theorem fs_25 : okR_ mr_25 := okC_of (cd := cd_25) (n := 39) (by decide +kernel) fun pc h => by show cond (Nat.ble 39 pc) none _ = none; rw [Nat.ble_eq_true_of_le h]; rfl
theorem fs_26 : okR_ mr_26 := okC_of (cd := cd_26) (n := 3) (by decide +kernel) fun pc h => by show cond (Nat.ble 3 pc) none _ = none; rw [Nat.ble_eq_true_of_le h]; rfl
theorem fs_27 : okR_ mr_27 := okC_of (cd := cd_27) (n := 5) (by decide +kernel) fun pc h => by show cond (Nat.ble 5 pc) none _ = none; rw [Nat.ble_eq_true_of_le h]; rfl
theorem fs_28 : okR_ mr_28 := okC_of (cd := cd_28) (n := 16) (by decide +kernel) fun pc h => by show cond (Nat.ble 16 pc) none _ = none; rw [Nat.ble_eq_true_of_le h]; rfl
theorem fs_29 : okR_ mr_29 := okC_of (cd := cd_29) (n := 39) (by decide +kernel) fun pc h => by show cond (Nat.ble 39 pc) none _ = none; rw [Nat.ble_eq_true_of_le h]; rfl
theorem fs_30 : okR_ mr_30 := okC_of (cd := cd_30) (n := 64) (by decide +kernel) fun pc h => by show cond (Nat.ble 64 pc) none _ = none; rw [Nat.ble_eq_true_of_le h]; rfl
theorem fs_31 : okR_ mr_31 := okC_of (cd := cd_31) (n := 49) (by decide +kernel) fun pc h => by show cond (Nat.ble 49 pc) none _ = none; rw [Nat.ble_eq_true_of_le h]; rfl
theorem fs_32 : okR_ mr_32 := okC_of (cd := cd_32) (n := 24) (by decide +kernel) fun pc h => by show cond (Nat.ble 24 pc) none _ = none; rw [Nat.ble_eq_true_of_le h]; rfl
theorem fs_33 : okR_ mr_33 := okC_of (cd := cd_33) (n := 2) (by decide +kernel) fun pc h => by show cond (Nat.ble 2 pc) none _ = none; rw [Nat.ble_eq_true_of_le h]; rfl
theorem fs_34 : okR_ mr_34 := okC_of (cd := cd_34) (n := 6) (by decide +kernel) fun pc h => by show cond (Nat.ble 6 pc) none _ = none; rw [Nat.ble_eq_true_of_le h]; rfl
theorem fs_35 : okR_ mr_35 := okC_of (cd := cd_35) (n := 6) (by decide +kernel) fun pc h => by show cond (Nat.ble 6 pc) none _ = none; rw [Nat.ble_eq_true_of_le h]; rfl
theorem fs_36 : okR_ mr_36 := okC_of (cd := cd_36) (n := 102) (by decide +kernel) fun pc h => by show cond (Nat.ble 102 pc) none _ = none; rw [Nat.ble_eq_true_of_le h]; rfl
theorem fs_37 : okR_ mr_37 := okC_of (cd := cd_37) (n := 15) (by decide +kernel) fun pc h => by show cond (Nat.ble 15 pc) none _ = none; rw [Nat.ble_eq_true_of_le h]; rfl
theorem fs_38 : okR_ mr_38 := okC_of (cd := cd_38) (n := 17) (by decide +kernel) fun pc h => by show cond (Nat.ble 17 pc) none _ = none; rw [Nat.ble_eq_true_of_le h]; rfl
theorem fs_39 : okR_ mr_39 := okC_of (cd := cd_39) (n := 6) (by decide +kernel) fun pc h => by show cond (Nat.ble 6 pc) none _ = none; rw [Nat.ble_eq_true_of_le h]; rfl
theorem fs_40 : okR_ mr_40 := okC_of (cd := cd_40) (n := 31) (by decide +kernel) fun pc h => by show cond (Nat.ble 31 pc) none _ = none; rw [Nat.ble_eq_true_of_le h]; rfl
theorem fs_41 : okR_ mr_41 := okC_of (cd := cd_41) (n := 36) (by decide +kernel) fun pc h => by show cond (Nat.ble 36 pc) none _ = none; rw [Nat.ble_eq_true_of_le h]; rfl
theorem fs_42 : okR_ mr_42 := okC_of (cd := cd_42) (n := 115) (by decide +kernel) fun pc h => by show cond (Nat.ble 115 pc) none _ = none; rw [Nat.ble_eq_true_of_le h]; rfl
theorem fs_43 : okR_ mr_43 := okC_of (cd := cd_43) (n := 49) (by decide +kernel) fun pc h => by show cond (Nat.ble 49 pc) none _ = none; rw [Nat.ble_eq_true_of_le h]; rfl
theorem fs_44 : okR_ mr_44 := okC_of (cd := cd_44) (n := 32) (by decide +kernel) fun pc h => by show cond (Nat.ble 32 pc) none _ = none; rw [Nat.ble_eq_true_of_le h]; rfl
theorem fs_45 : okR_ mr_45 := okC_of (cd := cd_45) (n := 37) (by decide +kernel) fun pc h => by show cond (Nat.ble 37 pc) none _ = none; rw [Nat.ble_eq_true_of_le h]; rfl
theorem fs_46 : okR_ mr_46 := okC_of (cd := cd_46) (n := 105) (by decide +kernel) fun pc h => by show cond (Nat.ble 105 pc) none _ = none; rw [Nat.ble_eq_true_of_le h]; rfl
theorem fs_47 : okR_ mr_47 := okC_of (cd := cd_47) (n := 57) (by decide +kernel) fun pc h => by show cond (Nat.ble 57 pc) none _ = none; rw [Nat.ble_eq_true_of_le h]; rfl
theorem fs_48 : okR_ mr_48 := okC_of (cd := cd_48) (n := 21) (by decide +kernel) fun pc h => by show cond (Nat.ble 21 pc) none _ = none; rw [Nat.ble_eq_true_of_le h]; rfl
theorem fs_49 : okR_ mr_49 := okC_of (cd := cd_49) (n := 38) (by decide +kernel) fun pc h => by show cond (Nat.ble 38 pc) none _ = none; rw [Nat.ble_eq_true_of_le h]; rfl
theorem fs_50 : okR_ mr_50 := okC_of (cd := cd_50) (n := 128) (by decide +kernel) fun pc h => by show cond (Nat.ble 128 pc) none _ = none; rw [Nat.ble_eq_true_of_le h]; rfl
theorem fs_51 : okR_ mr_51 := okC_of (cd := cd_51) (n := 137) (by decide +kernel) fun pc h => by show cond (Nat.ble 137 pc) none _ = none; rw [Nat.ble_eq_true_of_le h]; rfl
theorem fs_52 : okR_ mr_52 := okC_of (cd := cd_52) (n := 2) (by decide +kernel) fun pc h => by show cond (Nat.ble 2 pc) none _ = none; rw [Nat.ble_eq_true_of_le h]; rfl
theorem fs_53 : okR_ mr_53 := okC_of (cd := cd_53) (n := 17) (by decide +kernel) fun pc h => by show cond (Nat.ble 17 pc) none _ = none; rw [Nat.ble_eq_true_of_le h]; rfl
theorem fs_54 : okR_ mr_54 := okC_of (cd := cd_54) (n := 5) (by decide +kernel) fun pc h => by show cond (Nat.ble 5 pc) none _ = none; rw [Nat.ble_eq_true_of_le h]; rfl
theorem fs_55 : okR_ mr_55 := okC_of (cd := cd_55) (n := 3) (by decide +kernel) fun pc h => by show cond (Nat.ble 3 pc) none _ = none; rw [Nat.ble_eq_true_of_le h]; rfl
theorem fs_56 : okR_ mr_56 := okC_of (cd := cd_56) (n := 37) (by decide +kernel) fun pc h => by show cond (Nat.ble 37 pc) none _ = none; rw [Nat.ble_eq_true_of_le h]; rfl
theorem fs_57 : okR_ mr_57 := okC_of (cd := cd_57) (n := 96) (by decide +kernel) fun pc h => by show cond (Nat.ble 96 pc) none _ = none; rw [Nat.ble_eq_true_of_le h]; rfl
theorem fs_58 : okR_ mr_58 := okC_of (cd := cd_58) (n := 76) (by decide +kernel) fun pc h => by show cond (Nat.ble 76 pc) none _ = none; rw [Nat.ble_eq_true_of_le h]; rfl
theorem fs_59 : okR_ mr_59 := okC_of (cd := cd_59) (n := 73) (by decide +kernel) fun pc h => by show cond (Nat.ble 73 pc) none _ = none; rw [Nat.ble_eq_true_of_le h]; rfl
theorem fs_60 : okR_ mr_60 := okC_of (cd := cd_60) (n := 2) (by decide +kernel) fun pc h => by show cond (Nat.ble 2 pc) none _ = none; rw [Nat.ble_eq_true_of_le h]; rfl
theorem fs_61 : okR_ mr_61 := okC_of (cd := cd_61) (n := 75) (by decide +kernel) fun pc h => by show cond (Nat.ble 75 pc) none _ = none; rw [Nat.ble_eq_true_of_le h]; rfl
theorem fs_62 : okR_ mr_62 := okC_of (cd := cd_62) (n := 77) (by decide +kernel) fun pc h => by show cond (Nat.ble 77 pc) none _ = none; rw [Nat.ble_eq_true_of_le h]; rfl
theorem fs_63 : okR_ mr_63 := okC_of (cd := cd_63) (n := 35) (by decide +kernel) fun pc h => by show cond (Nat.ble 35 pc) none _ = none; rw [Nat.ble_eq_true_of_le h]; rfl
theorem fs_64 : okR_ mr_64 := okC_of (cd := cd_64) (n := 123) (by decide +kernel) fun pc h => by show cond (Nat.ble 123 pc) none _ = none; rw [Nat.ble_eq_true_of_le h]; rfl
theorem fs_65 : okR_ mr_65 := okC_of (cd := cd_65) (n := 7) (by decide +kernel) fun pc h => by show cond (Nat.ble 7 pc) none _ = none; rw [Nat.ble_eq_true_of_le h]; rfl
theorem fs_66 : okR_ mr_66 := okC_of (cd := cd_66) (n := 38) (by decide +kernel) fun pc h => by show cond (Nat.ble 38 pc) none _ = none; rw [Nat.ble_eq_true_of_le h]; rfl
theorem fs_67 : okR_ mr_67 := okC_of (cd := cd_67) (n := 108) (by decide +kernel) fun pc h => by show cond (Nat.ble 108 pc) none _ = none; rw [Nat.ble_eq_true_of_le h]; rfl
theorem fs_68 : okR_ mr_68 := okC_of (cd := cd_68) (n := 33) (by decide +kernel) fun pc h => by show cond (Nat.ble 33 pc) none _ = none; rw [Nat.ble_eq_true_of_le h]; rfl
theorem fs_69 : okR_ mr_69 := okC_of (cd := cd_69) (n := 48) (by decide +kernel) fun pc h => by show cond (Nat.ble 48 pc) none _ = none; rw [Nat.ble_eq_true_of_le h]; rfl
theorem fs_70 : okR_ mr_70 := okC_of (cd := cd_70) (n := 99) (by decide +kernel) fun pc h => by show cond (Nat.ble 99 pc) none _ = none; rw [Nat.ble_eq_true_of_le h]; rfl
theorem fs_71 : okR_ mr_71 := okC_of (cd := cd_71) (n := 17) (by decide +kernel) fun pc h => by show cond (Nat.ble 17 pc) none _ = none; rw [Nat.ble_eq_true_of_le h]; rfl
theorem fs_72 : okR_ mr_72 := okC_of (cd := cd_72) (n := 77) (by decide +kernel) fun pc h => by show cond (Nat.ble 77 pc) none _ = none; rw [Nat.ble_eq_true_of_le h]; rfl
theorem fs_73 : okR_ mr_73 := okC_of (cd := cd_73) (n := 34) (by decide +kernel) fun pc h => by show cond (Nat.ble 34 pc) none _ = none; rw [Nat.ble_eq_true_of_le h]; rfl
theorem fs_74 : okR_ mr_74 := okC_of (cd := cd_74) (n := 23) (by decide +kernel) fun pc h => by show cond (Nat.ble 23 pc) none _ = none; rw [Nat.ble_eq_true_of_le h]; rfl
theorem fs_75 : okR_ mr_75 := okC_of (cd := cd_75) (n := 161) (by decide +kernel) fun pc h => by show cond (Nat.ble 161 pc) none _ = none; rw [Nat.ble_eq_true_of_le h]; rfl
theorem fs_76 : okR_ mr_76 := okC_of (cd := cd_76) (n := 17) (by decide +kernel) fun pc h => by show cond (Nat.ble 17 pc) none _ = none; rw [Nat.ble_eq_true_of_le h]; rfl
theorem fs_77 : okR_ mr_77 := okC_of (cd := cd_77) (n := 56) (by decide +kernel) fun pc h => by show cond (Nat.ble 56 pc) none _ = none; rw [Nat.ble_eq_true_of_le h]; rfl
theorem fs_78 : okR_ mr_78 := okC_of (cd := cd_78) (n := 28) (by decide +kernel) fun pc h => by show cond (Nat.ble 28 pc) none _ = none; rw [Nat.ble_eq_true_of_le h]; rfl
theorem fs_79 : okR_ mr_79 := okC_of (cd := cd_79) (n := 129) (by decide +kernel) fun pc h => by show cond (Nat.ble 129 pc) none _ = none; rw [Nat.ble_eq_true_of_le h]; rfl
theorem fs_80 : okR_ mr_80 := okC_of (cd := cd_80) (n := 48) (by decide +kernel) fun pc h => by show cond (Nat.ble 48 pc) none _ = none; rw [Nat.ble_eq_true_of_le h]; rfl
theorem fs_81 : okR_ mr_81 := okC_of (cd := cd_81) (n := 64) (by decide +kernel) fun pc h => by show cond (Nat.ble 64 pc) none _ = none; rw [Nat.ble_eq_true_of_le h]; rfl
theorem fs_82 : okR_ mr_82 := okC_of (cd := cd_82) (n := 16) (by decide +kernel) fun pc h => by show cond (Nat.ble 16 pc) none _ = none; rw [Nat.ble_eq_true_of_le h]; rfl
theorem fs_83 : okR_ mr_83 := okC_of (cd := cd_83) (n := 30) (by decide +kernel) fun pc h => by show cond (Nat.ble 30 pc) none _ = none; rw [Nat.ble_eq_true_of_le h]; rfl
theorem fs_84 : okR_ mr_84 := okC_of (cd := cd_84) (n := 57) (by decide +kernel) fun pc h => by show cond (Nat.ble 57 pc) none _ = none; rw [Nat.ble_eq_true_of_le h]; rfl
theorem fs_85 : okR_ mr_85 := okC_of (cd := cd_85) (n := 58) (by decide +kernel) fun pc h => by show cond (Nat.ble 58 pc) none _ = none; rw [Nat.ble_eq_true_of_le h]; rfl
theorem fs_86 : okR_ mr_86 := okC_of (cd := cd_86) (n := 67) (by decide +kernel) fun pc h => by show cond (Nat.ble 67 pc) none _ = none; rw [Nat.ble_eq_true_of_le h]; rfl
theorem fs_87 : okR_ mr_87 := okC_of (cd := cd_87) (n := 29) (by decide +kernel) fun pc h => by show cond (Nat.ble 29 pc) none _ = none; rw [Nat.ble_eq_true_of_le h]; rfl
theorem fs_88 : okR_ mr_88 := okC_of (cd := cd_88) (n := 249) (by decide +kernel) fun pc h => by show cond (Nat.ble 249 pc) none _ = none; rw [Nat.ble_eq_true_of_le h]; rfl
theorem fs_89 : okR_ mr_89 := okC_of (cd := cd_89) (n := 19) (by decide +kernel) fun pc h => by show cond (Nat.ble 19 pc) none _ = none; rw [Nat.ble_eq_true_of_le h]; rfl
theorem fs_90 : okR_ mr_90 := okC_of (cd := cd_90) (n := 151) (by decide +kernel) fun pc h => by show cond (Nat.ble 151 pc) none _ = none; rw [Nat.ble_eq_true_of_le h]; rfl
theorem fs_91 : okR_ mr_91 := okC_of (cd := cd_91) (n := 184) (by decide +kernel) fun pc h => by show cond (Nat.ble 184 pc) none _ = none; rw [Nat.ble_eq_true_of_le h]; rfl
theorem fs_92 : okR_ mr_92 := okC_of (cd := cd_92) (n := 134) (by decide +kernel) fun pc h => by show cond (Nat.ble 134 pc) none _ = none; rw [Nat.ble_eq_true_of_le h]; rfl
theorem fs_93 : okR_ mr_93 := okC_of (cd := cd_93) (n := 16) (by decide +kernel) fun pc h => by show cond (Nat.ble 16 pc) none _ = none; rw [Nat.ble_eq_true_of_le h]; rfl
theorem fs_94 : okR_ mr_94 := okC_of (cd := cd_94) (n := 175) (by decide +kernel) fun pc h => by show cond (Nat.ble 175 pc) none _ = none; rw [Nat.ble_eq_true_of_le h]; rfl
theorem fs_95 : okR_ mr_95 := okC_of (cd := cd_95) (n := 22) (by decide +kernel) fun pc h => by show cond (Nat.ble 22 pc) none _ = none; rw [Nat.ble_eq_true_of_le h]; rfl
theorem fs_96 : okR_ mr_96 := okC_of (cd := cd_96) (n := 72) (by decide +kernel) fun pc h => by show cond (Nat.ble 72 pc) none _ = none; rw [Nat.ble_eq_true_of_le h]; rfl
theorem fs_97 : okR_ mr_97 := okC_of (cd := cd_97) (n := 41) (by decide +kernel) fun pc h => by show cond (Nat.ble 41 pc) none _ = none; rw [Nat.ble_eq_true_of_le h]; rfl
theorem fs_98 : okR_ mr_98 := okC_of (cd := cd_98) (n := 53) (by decide +kernel) fun pc h => by show cond (Nat.ble 53 pc) none _ = none; rw [Nat.ble_eq_true_of_le h]; rfl
theorem fs_99 : okR_ mr_99 := okC_of (cd := cd_99) (n := 113) (by decide +kernel) fun pc h => by show cond (Nat.ble 113 pc) none _ = none; rw [Nat.ble_eq_true_of_le h]; rfl
theorem fs_100 : okR_ mr_100 := okC_of (cd := cd_100) (n := 50) (by decide +kernel) fun pc h => by show cond (Nat.ble 50 pc) none _ = none; rw [Nat.ble_eq_true_of_le h]; rfl
theorem fs_101 : okR_ mr_101 := okC_of (cd := cd_101) (n := 86) (by decide +kernel) fun pc h => by show cond (Nat.ble 86 pc) none _ = none; rw [Nat.ble_eq_true_of_le h]; rfl
theorem fs_102 : okR_ mr_102 := okC_of (cd := cd_102) (n := 242) (by decide +kernel) fun pc h => by show cond (Nat.ble 242 pc) none _ = none; rw [Nat.ble_eq_true_of_le h]; rfl
theorem fs_103 : okR_ mr_103 := okC_of (cd := cd_103) (n := 35) (by decide +kernel) fun pc h => by show cond (Nat.ble 35 pc) none _ = none; rw [Nat.ble_eq_true_of_le h]; rfl
theorem fs_104 : okR_ mr_104 := okC_of (cd := cd_104) (n := 43) (by decide +kernel) fun pc h => by show cond (Nat.ble 43 pc) none _ = none; rw [Nat.ble_eq_true_of_le h]; rfl
theorem fs_105 : okR_ mr_105 := okC_of (cd := cd_105) (n := 49) (by decide +kernel) fun pc h => by show cond (Nat.ble 49 pc) none _ = none; rw [Nat.ble_eq_true_of_le h]; rfl
theorem fs_106 : okR_ mr_106 := okC_of (cd := cd_106) (n := 23) (by decide +kernel) fun pc h => by show cond (Nat.ble 23 pc) none _ = none; rw [Nat.ble_eq_true_of_le h]; rfl
theorem fs_107 : okR_ mr_107 := okC_of (cd := cd_107) (n := 77) (by decide +kernel) fun pc h => by show cond (Nat.ble 77 pc) none _ = none; rw [Nat.ble_eq_true_of_le h]; rfl
theorem fs_108 : okR_ mr_108 := okC_of (cd := cd_108) (n := 58) (by decide +kernel) fun pc h => by show cond (Nat.ble 58 pc) none _ = none; rw [Nat.ble_eq_true_of_le h]; rfl
theorem fs_109 : okR_ mr_109 := okC_of (cd := cd_109) (n := 31) (by decide +kernel) fun pc h => by show cond (Nat.ble 31 pc) none _ = none; rw [Nat.ble_eq_true_of_le h]; rfl
theorem fs_110 : okR_ mr_110 := okC_of (cd := cd_110) (n := 26) (by decide +kernel) fun pc h => by show cond (Nat.ble 26 pc) none _ = none; rw [Nat.ble_eq_true_of_le h]; rfl
theorem fs_111 : okR_ mr_111 := okC_of (cd := cd_111) (n := 63) (by decide +kernel) fun pc h => by show cond (Nat.ble 63 pc) none _ = none; rw [Nat.ble_eq_true_of_le h]; rfl
theorem fs_112 : okR_ mr_112 := okC_of (cd := cd_112) (n := 67) (by decide +kernel) fun pc h => by show cond (Nat.ble 67 pc) none _ = none; rw [Nat.ble_eq_true_of_le h]; rfl
theorem fs_113 : okR_ mr_113 := okC_of (cd := cd_113) (n := 43) (by decide +kernel) fun pc h => by show cond (Nat.ble 43 pc) none _ = none; rw [Nat.ble_eq_true_of_le h]; rfl
theorem fs_114 : okR_ mr_114 := okC_of (cd := cd_114) (n := 125) (by decide +kernel) fun pc h => by show cond (Nat.ble 125 pc) none _ = none; rw [Nat.ble_eq_true_of_le h]; rfl
theorem fs_115 : okR_ mr_115 := okC_of (cd := cd_115) (n := 51) (by decide +kernel) fun pc h => by show cond (Nat.ble 51 pc) none _ = none; rw [Nat.ble_eq_true_of_le h]; rfl
theorem fs_116 : okR_ mr_116 := okC_of (cd := cd_116) (n := 84) (by decide +kernel) fun pc h => by show cond (Nat.ble 84 pc) none _ = none; rw [Nat.ble_eq_true_of_le h]; rfl
theorem fs_117 : okR_ mr_117 := okC_of (cd := cd_117) (n := 71) (by decide +kernel) fun pc h => by show cond (Nat.ble 71 pc) none _ = none; rw [Nat.ble_eq_true_of_le h]; rfl
theorem fs_118 : okR_ mr_118 := okC_of (cd := cd_118) (n := 24) (by decide +kernel) fun pc h => by show cond (Nat.ble 24 pc) none _ = none; rw [Nat.ble_eq_true_of_le h]; rfl
theorem fs_119 : okR_ mr_119 := okC_of (cd := cd_119) (n := 99) (by decide +kernel) fun pc h => by show cond (Nat.ble 99 pc) none _ = none; rw [Nat.ble_eq_true_of_le h]; rfl
theorem fs_120 : okR_ mr_120 := okC_of (cd := cd_120) (n := 40) (by decide +kernel) fun pc h => by show cond (Nat.ble 40 pc) none _ = none; rw [Nat.ble_eq_true_of_le h]; rfl
theorem fs_121 : okR_ mr_121 := okC_of (cd := cd_121) (n := 79) (by decide +kernel) fun pc h => by show cond (Nat.ble 79 pc) none _ = none; rw [Nat.ble_eq_true_of_le h]; rfl
theorem fs_122 : okR_ mr_122 := okC_of (cd := cd_122) (n := 76) (by decide +kernel) fun pc h => by show cond (Nat.ble 76 pc) none _ = none; rw [Nat.ble_eq_true_of_le h]; rfl
theorem fs_123 : okR_ mr_123 := okC_of (cd := cd_123) (n := 40) (by decide +kernel) fun pc h => by show cond (Nat.ble 40 pc) none _ = none; rw [Nat.ble_eq_true_of_le h]; rfl
theorem fs_124 : okR_ mr_124 := okC_of (cd := cd_124) (n := 67) (by decide +kernel) fun pc h => by show cond (Nat.ble 67 pc) none _ = none; rw [Nat.ble_eq_true_of_le h]; rfl
theorem fs_125 : okR_ mr_125 := okC_of (cd := cd_125) (n := 36) (by decide +kernel) fun pc h => by show cond (Nat.ble 36 pc) none _ = none; rw [Nat.ble_eq_true_of_le h]; rfl
theorem fs_126 : okR_ mr_126 := okC_of (cd := cd_126) (n := 62) (by decide +kernel) fun pc h => by show cond (Nat.ble 62 pc) none _ = none; rw [Nat.ble_eq_true_of_le h]; rfl
theorem fs_127 : okR_ mr_127 := okC_of (cd := cd_127) (n := 138) (by decide +kernel) fun pc h => by show cond (Nat.ble 138 pc) none _ = none; rw [Nat.ble_eq_true_of_le h]; rfl
theorem fs_128 : okR_ mr_128 := okC_of (cd := cd_128) (n := 143) (by decide +kernel) fun pc h => by show cond (Nat.ble 143 pc) none _ = none; rw [Nat.ble_eq_true_of_le h]; rfl
theorem fs_129 : okR_ mr_129 := okC_of (cd := cd_129) (n := 38) (by decide +kernel) fun pc h => by show cond (Nat.ble 38 pc) none _ = none; rw [Nat.ble_eq_true_of_le h]; rfl
theorem fs_130 : okR_ mr_130 := okC_of (cd := cd_130) (n := 129) (by decide +kernel) fun pc h => by show cond (Nat.ble 129 pc) none _ = none; rw [Nat.ble_eq_true_of_le h]; rfl
theorem fs_131 : okR_ mr_131 := okC_of (cd := cd_131) (n := 35) (by decide +kernel) fun pc h => by show cond (Nat.ble 35 pc) none _ = none; rw [Nat.ble_eq_true_of_le h]; rfl
theorem fs_132 : okR_ mr_132 := okC_of (cd := cd_132) (n := 17) (by decide +kernel) fun pc h => by show cond (Nat.ble 17 pc) none _ = none; rw [Nat.ble_eq_true_of_le h]; rfl
theorem fs_133 : okR_ mr_133 := okC_of (cd := cd_133) (n := 131) (by decide +kernel) fun pc h => by show cond (Nat.ble 131 pc) none _ = none; rw [Nat.ble_eq_true_of_le h]; rfl
theorem fs_134 : okR_ mr_134 := okC_of (cd := cd_134) (n := 162) (by decide +kernel) fun pc h => by show cond (Nat.ble 162 pc) none _ = none; rw [Nat.ble_eq_true_of_le h]; rfl
theorem fs_135 : okR_ mr_135 := okC_of (cd := cd_135) (n := 146) (by decide +kernel) fun pc h => by show cond (Nat.ble 146 pc) none _ = none; rw [Nat.ble_eq_true_of_le h]; rfl
theorem fs_136 : okR_ mr_136 := okC_of (cd := cd_136) (n := 95) (by decide +kernel) fun pc h => by show cond (Nat.ble 95 pc) none _ = none; rw [Nat.ble_eq_true_of_le h]; rfl
theorem fs_137 : okR_ mr_137 := okC_of (cd := cd_137) (n := 66) (by decide +kernel) fun pc h => by show cond (Nat.ble 66 pc) none _ = none; rw [Nat.ble_eq_true_of_le h]; rfl
theorem fs_138 : okR_ mr_138 := okC_of (cd := cd_138) (n := 24) (by decide +kernel) fun pc h => by show cond (Nat.ble 24 pc) none _ = none; rw [Nat.ble_eq_true_of_le h]; rfl
theorem fs_139 : okR_ mr_139 := okC_of (cd := cd_139) (n := 166) (by decide +kernel) fun pc h => by show cond (Nat.ble 166 pc) none _ = none; rw [Nat.ble_eq_true_of_le h]; rfl
theorem fs_140 : okR_ mr_140 := okC_of (cd := cd_140) (n := 43) (by decide +kernel) fun pc h => by show cond (Nat.ble 43 pc) none _ = none; rw [Nat.ble_eq_true_of_le h]; rfl
theorem fs_141 : okR_ mr_141 := okC_of (cd := cd_141) (n := 71) (by decide +kernel) fun pc h => by show cond (Nat.ble 71 pc) none _ = none; rw [Nat.ble_eq_true_of_le h]; rfl
theorem fs_142 : okR_ mr_142 := okC_of (cd := cd_142) (n := 58) (by decide +kernel) fun pc h => by show cond (Nat.ble 58 pc) none _ = none; rw [Nat.ble_eq_true_of_le h]; rfl
theorem fs_143 : okR_ mr_143 := okC_of (cd := cd_143) (n := 51) (by decide +kernel) fun pc h => by show cond (Nat.ble 51 pc) none _ = none; rw [Nat.ble_eq_true_of_le h]; rfl
theorem fs_144 : okR_ mr_144 := okC_of (cd := cd_144) (n := 133) (by decide +kernel) fun pc h => by show cond (Nat.ble 133 pc) none _ = none; rw [Nat.ble_eq_true_of_le h]; rfl
theorem fs_145 : okR_ mr_145 := okC_of (cd := cd_145) (n := 54) (by decide +kernel) fun pc h => by show cond (Nat.ble 54 pc) none _ = none; rw [Nat.ble_eq_true_of_le h]; rfl
theorem fs_146 : okR_ mr_146 := okC_of (cd := cd_146) (n := 5) (by decide +kernel) fun pc h => by show cond (Nat.ble 5 pc) none _ = none; rw [Nat.ble_eq_true_of_le h]; rfl
theorem fs_147 : okR_ mr_147 := okC_of (cd := cd_147) (n := 94) (by decide +kernel) fun pc h => by show cond (Nat.ble 94 pc) none _ = none; rw [Nat.ble_eq_true_of_le h]; rfl
theorem fs_148 : okR_ mr_148 := okC_of (cd := cd_148) (n := 30) (by decide +kernel) fun pc h => by show cond (Nat.ble 30 pc) none _ = none; rw [Nat.ble_eq_true_of_le h]; rfl
theorem fs_149 : okR_ mr_149 := okC_of (cd := cd_149) (n := 14) (by decide +kernel) fun pc h => by show cond (Nat.ble 14 pc) none _ = none; rw [Nat.ble_eq_true_of_le h]; rfl
theorem fs_150 : okR_ mr_150 := okC_of (cd := cd_150) (n := 429) (by decide +kernel) fun pc h => by show cond (Nat.ble 429 pc) none _ = none; rw [Nat.ble_eq_true_of_le h]; rfl
theorem fs_151 : okR_ mr_151 := okC_of (cd := cd_151) (n := 80) (by decide +kernel) fun pc h => by show cond (Nat.ble 80 pc) none _ = none; rw [Nat.ble_eq_true_of_le h]; rfl
theorem fs_152 : okR_ mr_152 := okC_of (cd := cd_152) (n := 72) (by decide +kernel) fun pc h => by show cond (Nat.ble 72 pc) none _ = none; rw [Nat.ble_eq_true_of_le h]; rfl
theorem fs_153 : okR_ mr_153 := okC_of (cd := cd_153) (n := 16) (by decide +kernel) fun pc h => by show cond (Nat.ble 16 pc) none _ = none; rw [Nat.ble_eq_true_of_le h]; rfl
theorem fs_154 : okR_ mr_154 := okC_of (cd := cd_154) (n := 16) (by decide +kernel) fun pc h => by show cond (Nat.ble 16 pc) none _ = none; rw [Nat.ble_eq_true_of_le h]; rfl
theorem fs_155 : okR_ mr_155 := okC_of (cd := cd_155) (n := 19) (by decide +kernel) fun pc h => by show cond (Nat.ble 19 pc) none _ = none; rw [Nat.ble_eq_true_of_le h]; rfl
theorem fs_156 : okR_ mr_156 := okC_of (cd := cd_156) (n := 9) (by decide +kernel) fun pc h => by show cond (Nat.ble 9 pc) none _ = none; rw [Nat.ble_eq_true_of_le h]; rfl
theorem fs_157 : okR_ mr_157 := okC_of (cd := cd_157) (n := 159) (by decide +kernel) fun pc h => by show cond (Nat.ble 159 pc) none _ = none; rw [Nat.ble_eq_true_of_le h]; rfl
theorem fs_158 : okR_ mr_158 := okC_of (cd := cd_158) (n := 16) (by decide +kernel) fun pc h => by show cond (Nat.ble 16 pc) none _ = none; rw [Nat.ble_eq_true_of_le h]; rfl
theorem fs_159 : okR_ mr_159 := okC_of (cd := cd_159) (n := 102) (by decide +kernel) fun pc h => by show cond (Nat.ble 102 pc) none _ = none; rw [Nat.ble_eq_true_of_le h]; rfl
theorem fs_160 : okR_ mr_160 := okC_of (cd := cd_160) (n := 116) (by decide +kernel) fun pc h => by show cond (Nat.ble 116 pc) none _ = none; rw [Nat.ble_eq_true_of_le h]; rfl
theorem fs_161 : okR_ mr_161 := okC_of (cd := cd_161) (n := 73) (by decide +kernel) fun pc h => by show cond (Nat.ble 73 pc) none _ = none; rw [Nat.ble_eq_true_of_le h]; rfl
theorem fs_162 : okR_ mr_162 := okC_of (cd := cd_162) (n := 104) (by decide +kernel) fun pc h => by show cond (Nat.ble 104 pc) none _ = none; rw [Nat.ble_eq_true_of_le h]; rfl
theorem fs_163 : okR_ mr_163 := okC_of (cd := cd_163) (n := 68) (by decide +kernel) fun pc h => by show cond (Nat.ble 68 pc) none _ = none; rw [Nat.ble_eq_true_of_le h]; rfl
theorem fs_164 : okR_ mr_164 := okC_of (cd := cd_164) (n := 51) (by decide +kernel) fun pc h => by show cond (Nat.ble 51 pc) none _ = none; rw [Nat.ble_eq_true_of_le h]; rfl
theorem fs_165 : okR_ mr_165 := okC_of (cd := cd_165) (n := 27) (by decide +kernel) fun pc h => by show cond (Nat.ble 27 pc) none _ = none; rw [Nat.ble_eq_true_of_le h]; rfl
theorem fs_166 : okR_ mr_166 := okC_of (cd := cd_166) (n := 28) (by decide +kernel) fun pc h => by show cond (Nat.ble 28 pc) none _ = none; rw [Nat.ble_eq_true_of_le h]; rfl
theorem fs_167 : okR_ mr_167 := okC_of (cd := cd_167) (n := 87) (by decide +kernel) fun pc h => by show cond (Nat.ble 87 pc) none _ = none; rw [Nat.ble_eq_true_of_le h]; rfl
theorem fs_168 : okR_ mr_168 := okC_of (cd := cd_168) (n := 51) (by decide +kernel) fun pc h => by show cond (Nat.ble 51 pc) none _ = none; rw [Nat.ble_eq_true_of_le h]; rfl
theorem fs_169 : okR_ mr_169 := okC_of (cd := cd_169) (n := 135) (by decide +kernel) fun pc h => by show cond (Nat.ble 135 pc) none _ = none; rw [Nat.ble_eq_true_of_le h]; rfl
theorem fs_170 : okR_ mr_170 := okC_of (cd := cd_170) (n := 84) (by decide +kernel) fun pc h => by show cond (Nat.ble 84 pc) none _ = none; rw [Nat.ble_eq_true_of_le h]; rfl
theorem fs_171 : okR_ mr_171 := okC_of (cd := cd_171) (n := 7) (by decide +kernel) fun pc h => by show cond (Nat.ble 7 pc) none _ = none; rw [Nat.ble_eq_true_of_le h]; rfl
theorem fs_172 : okR_ mr_172 := okC_of (cd := cd_172) (n := 52) (by decide +kernel) fun pc h => by show cond (Nat.ble 52 pc) none _ = none; rw [Nat.ble_eq_true_of_le h]; rfl
theorem fs_173 : okR_ mr_173 := okC_of (cd := cd_173) (n := 83) (by decide +kernel) fun pc h => by show cond (Nat.ble 83 pc) none _ = none; rw [Nat.ble_eq_true_of_le h]; rfl
theorem fs_174 : okR_ mr_174 := okC_of (cd := cd_174) (n := 54) (by decide +kernel) fun pc h => by show cond (Nat.ble 54 pc) none _ = none; rw [Nat.ble_eq_true_of_le h]; rfl
theorem fs_175 : okR_ mr_175 := okC_of (cd := cd_175) (n := 120) (by decide +kernel) fun pc h => by show cond (Nat.ble 120 pc) none _ = none; rw [Nat.ble_eq_true_of_le h]; rfl
theorem fs_176 : okR_ mr_176 := okC_of (cd := cd_176) (n := 153) (by decide +kernel) fun pc h => by show cond (Nat.ble 153 pc) none _ = none; rw [Nat.ble_eq_true_of_le h]; rfl
theorem fs_177 : okR_ mr_177 := okC_of (cd := cd_177) (n := 60) (by decide +kernel) fun pc h => by show cond (Nat.ble 60 pc) none _ = none; rw [Nat.ble_eq_true_of_le h]; rfl
theorem fs_178 : okR_ mr_178 := okC_of (cd := cd_178) (n := 128) (by decide +kernel) fun pc h => by show cond (Nat.ble 128 pc) none _ = none; rw [Nat.ble_eq_true_of_le h]; rfl
theorem fs_179 : okR_ mr_179 := okC_of (cd := cd_179) (n := 354) (by decide +kernel) fun pc h => by show cond (Nat.ble 354 pc) none _ = none; rw [Nat.ble_eq_true_of_le h]; rfl
theorem fs_180 : okR_ mr_180 := okC_of (cd := cd_180) (n := 84) (by decide +kernel) fun pc h => by show cond (Nat.ble 84 pc) none _ = none; rw [Nat.ble_eq_true_of_le h]; rfl
theorem fs_181 : okR_ mr_181 := okC_of (cd := cd_181) (n := 141) (by decide +kernel) fun pc h => by show cond (Nat.ble 141 pc) none _ = none; rw [Nat.ble_eq_true_of_le h]; rfl
theorem fs_182 : okR_ mr_182 := okC_of (cd := cd_182) (n := 78) (by decide +kernel) fun pc h => by show cond (Nat.ble 78 pc) none _ = none; rw [Nat.ble_eq_true_of_le h]; rfl
theorem fs_183 : okR_ mr_183 := okC_of (cd := cd_183) (n := 137) (by decide +kernel) fun pc h => by show cond (Nat.ble 137 pc) none _ = none; rw [Nat.ble_eq_true_of_le h]; rfl
theorem fs_184 : okR_ mr_184 := okC_of (cd := cd_184) (n := 145) (by decide +kernel) fun pc h => by show cond (Nat.ble 145 pc) none _ = none; rw [Nat.ble_eq_true_of_le h]; rfl
theorem fs_185 : okR_ mr_185 := okC_of (cd := cd_185) (n := 27) (by decide +kernel) fun pc h => by show cond (Nat.ble 27 pc) none _ = none; rw [Nat.ble_eq_true_of_le h]; rfl
theorem fs_186 : okR_ mr_186 := okC_of (cd := cd_186) (n := 130) (by decide +kernel) fun pc h => by show cond (Nat.ble 130 pc) none _ = none; rw [Nat.ble_eq_true_of_le h]; rfl
theorem fs_187 : okR_ mr_187 := okC_of (cd := cd_187) (n := 30) (by decide +kernel) fun pc h => by show cond (Nat.ble 30 pc) none _ = none; rw [Nat.ble_eq_true_of_le h]; rfl
theorem fs_188 : okR_ mr_188 := okC_of (cd := cd_188) (n := 50) (by decide +kernel) fun pc h => by show cond (Nat.ble 50 pc) none _ = none; rw [Nat.ble_eq_true_of_le h]; rfl
theorem fs_189 : okR_ mr_189 := okC_of (cd := cd_189) (n := 117) (by decide +kernel) fun pc h => by show cond (Nat.ble 117 pc) none _ = none; rw [Nat.ble_eq_true_of_le h]; rfl
theorem fs_190 : okR_ mr_190 := okC_of (cd := cd_190) (n := 108) (by decide +kernel) fun pc h => by show cond (Nat.ble 108 pc) none _ = none; rw [Nat.ble_eq_true_of_le h]; rfl
theorem fs_191 : okR_ mr_191 := okC_of (cd := cd_191) (n := 32) (by decide +kernel) fun pc h => by show cond (Nat.ble 32 pc) none _ = none; rw [Nat.ble_eq_true_of_le h]; rfl
theorem fs_192 : okR_ mr_192 := okC_of (cd := cd_192) (n := 16) (by decide +kernel) fun pc h => by show cond (Nat.ble 16 pc) none _ = none; rw [Nat.ble_eq_true_of_le h]; rfl
theorem fs_193 : okR_ mr_193 := okC_of (cd := cd_193) (n := 300) (by decide +kernel) fun pc h => by show cond (Nat.ble 300 pc) none _ = none; rw [Nat.ble_eq_true_of_le h]; rfl
theorem fs_194 : okR_ mr_194 := okC_of (cd := cd_194) (n := 118) (by decide +kernel) fun pc h => by show cond (Nat.ble 118 pc) none _ = none; rw [Nat.ble_eq_true_of_le h]; rfl
theorem fs_195 : okR_ mr_195 := okC_of (cd := cd_195) (n := 42) (by decide +kernel) fun pc h => by show cond (Nat.ble 42 pc) none _ = none; rw [Nat.ble_eq_true_of_le h]; rfl
theorem fs_196 : okR_ mr_196 := okC_of (cd := cd_196) (n := 32) (by decide +kernel) fun pc h => by show cond (Nat.ble 32 pc) none _ = none; rw [Nat.ble_eq_true_of_le h]; rfl
theorem fs_197 : okR_ mr_197 := okC_of (cd := cd_197) (n := 26) (by decide +kernel) fun pc h => by show cond (Nat.ble 26 pc) none _ = none; rw [Nat.ble_eq_true_of_le h]; rfl
theorem fs_198 : okR_ mr_198 := okC_of (cd := cd_198) (n := 16) (by decide +kernel) fun pc h => by show cond (Nat.ble 16 pc) none _ = none; rw [Nat.ble_eq_true_of_le h]; rfl
theorem fs_199 : okR_ mr_199 := okC_of (cd := cd_199) (n := 12) (by decide +kernel) fun pc h => by show cond (Nat.ble 12 pc) none _ = none; rw [Nat.ble_eq_true_of_le h]; rfl
theorem fs_200 : okR_ mr_200 := okC_of (cd := cd_200) (n := 117) (by decide +kernel) fun pc h => by show cond (Nat.ble 117 pc) none _ = none; rw [Nat.ble_eq_true_of_le h]; rfl
theorem fs_201 : okR_ mr_201 := okC_of (cd := cd_201) (n := 169) (by decide +kernel) fun pc h => by show cond (Nat.ble 169 pc) none _ = none; rw [Nat.ble_eq_true_of_le h]; rfl
theorem fs_202 : okR_ mr_202 := okC_of (cd := cd_202) (n := 108) (by decide +kernel) fun pc h => by show cond (Nat.ble 108 pc) none _ = none; rw [Nat.ble_eq_true_of_le h]; rfl
theorem fs_203 : okR_ mr_203 := okC_of (cd := cd_203) (n := 183) (by decide +kernel) fun pc h => by show cond (Nat.ble 183 pc) none _ = none; rw [Nat.ble_eq_true_of_le h]; rfl
theorem fs_204 : okR_ mr_204 := okC_of (cd := cd_204) (n := 16) (by decide +kernel) fun pc h => by show cond (Nat.ble 16 pc) none _ = none; rw [Nat.ble_eq_true_of_le h]; rfl
theorem fs_205 : okR_ mr_205 := okC_of (cd := cd_205) (n := 173) (by decide +kernel) fun pc h => by show cond (Nat.ble 173 pc) none _ = none; rw [Nat.ble_eq_true_of_le h]; rfl
theorem fs_206 : okR_ mr_206 := okC_of (cd := cd_206) (n := 18) (by decide +kernel) fun pc h => by show cond (Nat.ble 18 pc) none _ = none; rw [Nat.ble_eq_true_of_le h]; rfl
theorem fs_207 : okR_ mr_207 := okC_of (cd := cd_207) (n := 15) (by decide +kernel) fun pc h => by show cond (Nat.ble 15 pc) none _ = none; rw [Nat.ble_eq_true_of_le h]; rfl
theorem fs_208 : okR_ mr_208 := okC_of (cd := cd_208) (n := 34) (by decide +kernel) fun pc h => by show cond (Nat.ble 34 pc) none _ = none; rw [Nat.ble_eq_true_of_le h]; rfl
theorem fs_209 : okR_ mr_209 := okC_of (cd := cd_209) (n := 204) (by decide +kernel) fun pc h => by show cond (Nat.ble 204 pc) none _ = none; rw [Nat.ble_eq_true_of_le h]; rfl
theorem fs_210 : okR_ mr_210 := okC_of (cd := cd_210) (n := 137) (by decide +kernel) fun pc h => by show cond (Nat.ble 137 pc) none _ = none; rw [Nat.ble_eq_true_of_le h]; rfl
theorem fs_211 : okR_ mr_211 := okC_of (cd := cd_211) (n := 103) (by decide +kernel) fun pc h => by show cond (Nat.ble 103 pc) none _ = none; rw [Nat.ble_eq_true_of_le h]; rfl
theorem fs_212 : okR_ mr_212 := okC_of (cd := cd_212) (n := 11) (by decide +kernel) fun pc h => by show cond (Nat.ble 11 pc) none _ = none; rw [Nat.ble_eq_true_of_le h]; rfl
theorem fs_213 : okR_ mr_213 := okC_of (cd := cd_213) (n := 333) (by decide +kernel) fun pc h => by show cond (Nat.ble 333 pc) none _ = none; rw [Nat.ble_eq_true_of_le h]; rfl
theorem fs_214 : okR_ mr_214 := okC_of (cd := cd_214) (n := 21) (by decide +kernel) fun pc h => by show cond (Nat.ble 21 pc) none _ = none; rw [Nat.ble_eq_true_of_le h]; rfl
theorem fs_215 : okR_ mr_215 := okC_of (cd := cd_215) (n := 198) (by decide +kernel) fun pc h => by show cond (Nat.ble 198 pc) none _ = none; rw [Nat.ble_eq_true_of_le h]; rfl
theorem fs_216 : okR_ mr_216 := okC_of (cd := cd_216) (n := 258) (by decide +kernel) fun pc h => by show cond (Nat.ble 258 pc) none _ = none; rw [Nat.ble_eq_true_of_le h]; rfl
theorem fs_217 : okR_ mr_217 := okC_of (cd := cd_217) (n := 31) (by decide +kernel) fun pc h => by show cond (Nat.ble 31 pc) none _ = none; rw [Nat.ble_eq_true_of_le h]; rfl
theorem fs_218 : okR_ mr_218 := okC_of (cd := cd_218) (n := 30) (by decide +kernel) fun pc h => by show cond (Nat.ble 30 pc) none _ = none; rw [Nat.ble_eq_true_of_le h]; rfl
theorem fs_219 : okR_ mr_219 := okC_of (cd := cd_219) (n := 128) (by decide +kernel) fun pc h => by show cond (Nat.ble 128 pc) none _ = none; rw [Nat.ble_eq_true_of_le h]; rfl
theorem fs_220 : okR_ mr_220 := okC_of (cd := cd_220) (n := 58) (by decide +kernel) fun pc h => by show cond (Nat.ble 58 pc) none _ = none; rw [Nat.ble_eq_true_of_le h]; rfl
theorem fs_221 : okR_ mr_221 := okC_of (cd := cd_221) (n := 79) (by decide +kernel) fun pc h => by show cond (Nat.ble 79 pc) none _ = none; rw [Nat.ble_eq_true_of_le h]; rfl
theorem fs_222 : okR_ mr_222 := okC_of (cd := cd_222) (n := 36) (by decide +kernel) fun pc h => by show cond (Nat.ble 36 pc) none _ = none; rw [Nat.ble_eq_true_of_le h]; rfl
theorem fs_223 : okR_ mr_223 := okC_of (cd := cd_223) (n := 101) (by decide +kernel) fun pc h => by show cond (Nat.ble 101 pc) none _ = none; rw [Nat.ble_eq_true_of_le h]; rfl
theorem fs_224 : okR_ mr_224 := okC_of (cd := cd_224) (n := 7) (by decide +kernel) fun pc h => by show cond (Nat.ble 7 pc) none _ = none; rw [Nat.ble_eq_true_of_le h]; rfl
theorem fs_225 : okR_ mr_225 := okC_of (cd := cd_225) (n := 46) (by decide +kernel) fun pc h => by show cond (Nat.ble 46 pc) none _ = none; rw [Nat.ble_eq_true_of_le h]; rfl
theorem fs_226 : okR_ mr_226 := okC_of (cd := cd_226) (n := 70) (by decide +kernel) fun pc h => by show cond (Nat.ble 70 pc) none _ = none; rw [Nat.ble_eq_true_of_le h]; rfl
theorem fs_227 : okR_ mr_227 := okC_of (cd := cd_227) (n := 78) (by decide +kernel) fun pc h => by show cond (Nat.ble 78 pc) none _ = none; rw [Nat.ble_eq_true_of_le h]; rfl
theorem fs_228 : okR_ mr_228 := okC_of (cd := cd_228) (n := 35) (by decide +kernel) fun pc h => by show cond (Nat.ble 35 pc) none _ = none; rw [Nat.ble_eq_true_of_le h]; rfl
theorem fs_229 : okR_ mr_229 := okC_of (cd := cd_229) (n := 54) (by decide +kernel) fun pc h => by show cond (Nat.ble 54 pc) none _ = none; rw [Nat.ble_eq_true_of_le h]; rfl
theorem fs_231 : okR_ mr_231 := okC_of (cd := cd_231) (n := 70) (by decide +kernel) fun pc h => by show cond (Nat.ble 70 pc) none _ = none; rw [Nat.ble_eq_true_of_le h]; rfl
theorem fs_232 : okR_ mr_232 := okC_of (cd := cd_232) (n := 24) (by decide +kernel) fun pc h => by show cond (Nat.ble 24 pc) none _ = none; rw [Nat.ble_eq_true_of_le h]; rfl
theorem fs_233 : okR_ mr_233 := okC_of (cd := cd_233) (n := 44) (by decide +kernel) fun pc h => by show cond (Nat.ble 44 pc) none _ = none; rw [Nat.ble_eq_true_of_le h]; rfl
theorem fs_234 : okR_ mr_234 := okC_of (cd := cd_234) (n := 33) (by decide +kernel) fun pc h => by show cond (Nat.ble 33 pc) none _ = none; rw [Nat.ble_eq_true_of_le h]; rfl
theorem fs_235 : okR_ mr_235 := okC_of (cd := cd_235) (n := 494) (by decide +kernel) fun pc h => by show cond (Nat.ble 494 pc) none _ = none; rw [Nat.ble_eq_true_of_le h]; rfl
theorem fs_236 : okR_ mr_236 := okC_of (cd := cd_236) (n := 210) (by decide +kernel) fun pc h => by show cond (Nat.ble 210 pc) none _ = none; rw [Nat.ble_eq_true_of_le h]; rfl
theorem fs_237 : okR_ mr_237 := okC_of (cd := cd_237) (n := 173) (by decide +kernel) fun pc h => by show cond (Nat.ble 173 pc) none _ = none; rw [Nat.ble_eq_true_of_le h]; rfl
theorem fs_238 : okR_ mr_238 := okC_of (cd := cd_238) (n := 24) (by decide +kernel) fun pc h => by show cond (Nat.ble 24 pc) none _ = none; rw [Nat.ble_eq_true_of_le h]; rfl
theorem fs_239 : okR_ mr_239 := okC_of (cd := cd_239) (n := 286) (by decide +kernel) fun pc h => by show cond (Nat.ble 286 pc) none _ = none; rw [Nat.ble_eq_true_of_le h]; rfl
theorem fs_240 : okR_ mr_240 := okC_of (cd := cd_240) (n := 162) (by decide +kernel) fun pc h => by show cond (Nat.ble 162 pc) none _ = none; rw [Nat.ble_eq_true_of_le h]; rfl
theorem fs_241 : okR_ mr_241 := okC_of (cd := cd_241) (n := 33) (by decide +kernel) fun pc h => by show cond (Nat.ble 33 pc) none _ = none; rw [Nat.ble_eq_true_of_le h]; rfl
theorem fs_242 : okR_ mr_242 := okC_of (cd := cd_242) (n := 33) (by decide +kernel) fun pc h => by show cond (Nat.ble 33 pc) none _ = none; rw [Nat.ble_eq_true_of_le h]; rfl
theorem fs_243 : okR_ mr_243 := okC_of (cd := cd_243) (n := 55) (by decide +kernel) fun pc h => by show cond (Nat.ble 55 pc) none _ = none; rw [Nat.ble_eq_true_of_le h]; rfl
theorem fs_244 : okR_ mr_244 := okC_of (cd := cd_244) (n := 103) (by decide +kernel) fun pc h => by show cond (Nat.ble 103 pc) none _ = none; rw [Nat.ble_eq_true_of_le h]; rfl
theorem fs_245 : okR_ mr_245 := okC_of (cd := cd_245) (n := 45) (by decide +kernel) fun pc h => by show cond (Nat.ble 45 pc) none _ = none; rw [Nat.ble_eq_true_of_le h]; rfl
theorem fs_246 : okR_ mr_246 := okC_of (cd := cd_246) (n := 182) (by decide +kernel) fun pc h => by show cond (Nat.ble 182 pc) none _ = none; rw [Nat.ble_eq_true_of_le h]; rfl
theorem fs_247 : okR_ mr_247 := okC_of (cd := cd_247) (n := 55) (by decide +kernel) fun pc h => by show cond (Nat.ble 55 pc) none _ = none; rw [Nat.ble_eq_true_of_le h]; rfl
theorem fs_248 : okR_ mr_248 := okC_of (cd := cd_248) (n := 5) (by decide +kernel) fun pc h => by show cond (Nat.ble 5 pc) none _ = none; rw [Nat.ble_eq_true_of_le h]; rfl
theorem fs_249 : okR_ mr_249 := okC_of (cd := cd_249) (n := 130) (by decide +kernel) fun pc h => by show cond (Nat.ble 130 pc) none _ = none; rw [Nat.ble_eq_true_of_le h]; rfl
noncomputable def mTab_x : List mRow := [mr_224, mr_225, mr_226, mr_227, mr_228, mr_229, mr_4, mr_231, mr_232, mr_233, mr_234, mr_235, mr_236, mr_237, mr_238, mr_239, mr_240, mr_241, mr_242, mr_243, mr_244, mr_245, mr_246, mr_247, mr_248, mr_249]
theorem fT_0 : ∀ r ∈ mTab_0, okR_ r := List.forall_mem_cons.mpr ⟨fs_4, List.forall_mem_cons.mpr ⟨fs_4, List.forall_mem_cons.mpr ⟨fs_4, List.forall_mem_cons.mpr ⟨fs_4, List.forall_mem_cons.mpr ⟨fs_4, List.forall_mem_cons.mpr ⟨fs_5, List.forall_mem_cons.mpr ⟨fs_6, List.forall_mem_cons.mpr ⟨fs_7, List.forall_mem_cons.mpr ⟨fs_8, List.forall_mem_cons.mpr ⟨fs_9, List.forall_mem_cons.mpr ⟨fs_10, List.forall_mem_cons.mpr ⟨fs_11, List.forall_mem_cons.mpr ⟨fs_12, List.forall_mem_cons.mpr ⟨fs_13, List.forall_mem_cons.mpr ⟨fs_14, List.forall_mem_cons.mpr ⟨fs_15, List.forall_mem_cons.mpr ⟨fs_16, List.forall_mem_cons.mpr ⟨fs_17, List.forall_mem_cons.mpr ⟨fs_18, List.forall_mem_cons.mpr ⟨fs_19, List.forall_mem_cons.mpr ⟨fs_20, List.forall_mem_cons.mpr ⟨fs_21, List.forall_mem_cons.mpr ⟨fs_22, List.forall_mem_cons.mpr ⟨fs_23, List.forall_mem_cons.mpr ⟨fs_24, List.forall_mem_cons.mpr ⟨fs_25, List.forall_mem_cons.mpr ⟨fs_26, List.forall_mem_cons.mpr ⟨fs_27, List.forall_mem_cons.mpr ⟨fs_28, List.forall_mem_cons.mpr ⟨fs_29, List.forall_mem_cons.mpr ⟨fs_30, List.forall_mem_cons.mpr ⟨fs_31, fun _ h => absurd h List.not_mem_nil⟩⟩⟩⟩⟩⟩⟩⟩⟩⟩⟩⟩⟩⟩⟩⟩⟩⟩⟩⟩⟩⟩⟩⟩⟩⟩⟩⟩⟩⟩⟩⟩
theorem fT_1 : ∀ r ∈ mTab_1, okR_ r := List.forall_mem_cons.mpr ⟨fs_32, List.forall_mem_cons.mpr ⟨fs_33, List.forall_mem_cons.mpr ⟨fs_34, List.forall_mem_cons.mpr ⟨fs_35, List.forall_mem_cons.mpr ⟨fs_36, List.forall_mem_cons.mpr ⟨fs_37, List.forall_mem_cons.mpr ⟨fs_38, List.forall_mem_cons.mpr ⟨fs_39, List.forall_mem_cons.mpr ⟨fs_40, List.forall_mem_cons.mpr ⟨fs_41, List.forall_mem_cons.mpr ⟨fs_42, List.forall_mem_cons.mpr ⟨fs_43, List.forall_mem_cons.mpr ⟨fs_44, List.forall_mem_cons.mpr ⟨fs_45, List.forall_mem_cons.mpr ⟨fs_46, List.forall_mem_cons.mpr ⟨fs_47, List.forall_mem_cons.mpr ⟨fs_48, List.forall_mem_cons.mpr ⟨fs_49, List.forall_mem_cons.mpr ⟨fs_50, List.forall_mem_cons.mpr ⟨fs_51, List.forall_mem_cons.mpr ⟨fs_52, List.forall_mem_cons.mpr ⟨fs_53, List.forall_mem_cons.mpr ⟨fs_54, List.forall_mem_cons.mpr ⟨fs_55, List.forall_mem_cons.mpr ⟨fs_56, List.forall_mem_cons.mpr ⟨fs_57, List.forall_mem_cons.mpr ⟨fs_58, List.forall_mem_cons.mpr ⟨fs_59, List.forall_mem_cons.mpr ⟨fs_60, List.forall_mem_cons.mpr ⟨fs_61, List.forall_mem_cons.mpr ⟨fs_62, List.forall_mem_cons.mpr ⟨fs_63, fun _ h => absurd h List.not_mem_nil⟩⟩⟩⟩⟩⟩⟩⟩⟩⟩⟩⟩⟩⟩⟩⟩⟩⟩⟩⟩⟩⟩⟩⟩⟩⟩⟩⟩⟩⟩⟩⟩
theorem fT_2 : ∀ r ∈ mTab_2, okR_ r := List.forall_mem_cons.mpr ⟨fs_64, List.forall_mem_cons.mpr ⟨fs_65, List.forall_mem_cons.mpr ⟨fs_66, List.forall_mem_cons.mpr ⟨fs_67, List.forall_mem_cons.mpr ⟨fs_68, List.forall_mem_cons.mpr ⟨fs_69, List.forall_mem_cons.mpr ⟨fs_70, List.forall_mem_cons.mpr ⟨fs_71, List.forall_mem_cons.mpr ⟨fs_72, List.forall_mem_cons.mpr ⟨fs_73, List.forall_mem_cons.mpr ⟨fs_74, List.forall_mem_cons.mpr ⟨fs_75, List.forall_mem_cons.mpr ⟨fs_76, List.forall_mem_cons.mpr ⟨fs_77, List.forall_mem_cons.mpr ⟨fs_78, List.forall_mem_cons.mpr ⟨fs_79, List.forall_mem_cons.mpr ⟨fs_80, List.forall_mem_cons.mpr ⟨fs_81, List.forall_mem_cons.mpr ⟨fs_82, List.forall_mem_cons.mpr ⟨fs_83, List.forall_mem_cons.mpr ⟨fs_84, List.forall_mem_cons.mpr ⟨fs_85, List.forall_mem_cons.mpr ⟨fs_86, List.forall_mem_cons.mpr ⟨fs_87, List.forall_mem_cons.mpr ⟨fs_88, List.forall_mem_cons.mpr ⟨fs_89, List.forall_mem_cons.mpr ⟨fs_90, List.forall_mem_cons.mpr ⟨fs_91, List.forall_mem_cons.mpr ⟨fs_92, List.forall_mem_cons.mpr ⟨fs_93, List.forall_mem_cons.mpr ⟨fs_94, List.forall_mem_cons.mpr ⟨fs_95, fun _ h => absurd h List.not_mem_nil⟩⟩⟩⟩⟩⟩⟩⟩⟩⟩⟩⟩⟩⟩⟩⟩⟩⟩⟩⟩⟩⟩⟩⟩⟩⟩⟩⟩⟩⟩⟩⟩
theorem fT_3 : ∀ r ∈ mTab_3, okR_ r := List.forall_mem_cons.mpr ⟨fs_96, List.forall_mem_cons.mpr ⟨fs_97, List.forall_mem_cons.mpr ⟨fs_98, List.forall_mem_cons.mpr ⟨fs_99, List.forall_mem_cons.mpr ⟨fs_100, List.forall_mem_cons.mpr ⟨fs_101, List.forall_mem_cons.mpr ⟨fs_102, List.forall_mem_cons.mpr ⟨fs_103, List.forall_mem_cons.mpr ⟨fs_104, List.forall_mem_cons.mpr ⟨fs_105, List.forall_mem_cons.mpr ⟨fs_106, List.forall_mem_cons.mpr ⟨fs_107, List.forall_mem_cons.mpr ⟨fs_108, List.forall_mem_cons.mpr ⟨fs_109, List.forall_mem_cons.mpr ⟨fs_110, List.forall_mem_cons.mpr ⟨fs_111, List.forall_mem_cons.mpr ⟨fs_112, List.forall_mem_cons.mpr ⟨fs_113, List.forall_mem_cons.mpr ⟨fs_114, List.forall_mem_cons.mpr ⟨fs_115, List.forall_mem_cons.mpr ⟨fs_116, List.forall_mem_cons.mpr ⟨fs_117, List.forall_mem_cons.mpr ⟨fs_118, List.forall_mem_cons.mpr ⟨fs_119, List.forall_mem_cons.mpr ⟨fs_120, List.forall_mem_cons.mpr ⟨fs_121, List.forall_mem_cons.mpr ⟨fs_122, List.forall_mem_cons.mpr ⟨fs_123, List.forall_mem_cons.mpr ⟨fs_124, List.forall_mem_cons.mpr ⟨fs_125, List.forall_mem_cons.mpr ⟨fs_126, List.forall_mem_cons.mpr ⟨fs_127, fun _ h => absurd h List.not_mem_nil⟩⟩⟩⟩⟩⟩⟩⟩⟩⟩⟩⟩⟩⟩⟩⟩⟩⟩⟩⟩⟩⟩⟩⟩⟩⟩⟩⟩⟩⟩⟩⟩
theorem fT_4 : ∀ r ∈ mTab_4, okR_ r := List.forall_mem_cons.mpr ⟨fs_128, List.forall_mem_cons.mpr ⟨fs_129, List.forall_mem_cons.mpr ⟨fs_130, List.forall_mem_cons.mpr ⟨fs_131, List.forall_mem_cons.mpr ⟨fs_132, List.forall_mem_cons.mpr ⟨fs_133, List.forall_mem_cons.mpr ⟨fs_134, List.forall_mem_cons.mpr ⟨fs_135, List.forall_mem_cons.mpr ⟨fs_136, List.forall_mem_cons.mpr ⟨fs_137, List.forall_mem_cons.mpr ⟨fs_138, List.forall_mem_cons.mpr ⟨fs_139, List.forall_mem_cons.mpr ⟨fs_140, List.forall_mem_cons.mpr ⟨fs_141, List.forall_mem_cons.mpr ⟨fs_142, List.forall_mem_cons.mpr ⟨fs_143, List.forall_mem_cons.mpr ⟨fs_144, List.forall_mem_cons.mpr ⟨fs_145, List.forall_mem_cons.mpr ⟨fs_146, List.forall_mem_cons.mpr ⟨fs_147, List.forall_mem_cons.mpr ⟨fs_148, List.forall_mem_cons.mpr ⟨fs_149, List.forall_mem_cons.mpr ⟨fs_150, List.forall_mem_cons.mpr ⟨fs_151, List.forall_mem_cons.mpr ⟨fs_152, List.forall_mem_cons.mpr ⟨fs_153, List.forall_mem_cons.mpr ⟨fs_154, List.forall_mem_cons.mpr ⟨fs_155, List.forall_mem_cons.mpr ⟨fs_156, List.forall_mem_cons.mpr ⟨fs_157, List.forall_mem_cons.mpr ⟨fs_158, List.forall_mem_cons.mpr ⟨fs_159, fun _ h => absurd h List.not_mem_nil⟩⟩⟩⟩⟩⟩⟩⟩⟩⟩⟩⟩⟩⟩⟩⟩⟩⟩⟩⟩⟩⟩⟩⟩⟩⟩⟩⟩⟩⟩⟩⟩
theorem fT_5 : ∀ r ∈ mTab_5, okR_ r := List.forall_mem_cons.mpr ⟨fs_160, List.forall_mem_cons.mpr ⟨fs_161, List.forall_mem_cons.mpr ⟨fs_162, List.forall_mem_cons.mpr ⟨fs_163, List.forall_mem_cons.mpr ⟨fs_164, List.forall_mem_cons.mpr ⟨fs_165, List.forall_mem_cons.mpr ⟨fs_166, List.forall_mem_cons.mpr ⟨fs_167, List.forall_mem_cons.mpr ⟨fs_168, List.forall_mem_cons.mpr ⟨fs_169, List.forall_mem_cons.mpr ⟨fs_170, List.forall_mem_cons.mpr ⟨fs_171, List.forall_mem_cons.mpr ⟨fs_172, List.forall_mem_cons.mpr ⟨fs_173, List.forall_mem_cons.mpr ⟨fs_174, List.forall_mem_cons.mpr ⟨fs_175, List.forall_mem_cons.mpr ⟨fs_176, List.forall_mem_cons.mpr ⟨fs_177, List.forall_mem_cons.mpr ⟨fs_178, List.forall_mem_cons.mpr ⟨fs_179, List.forall_mem_cons.mpr ⟨fs_180, List.forall_mem_cons.mpr ⟨fs_181, List.forall_mem_cons.mpr ⟨fs_182, List.forall_mem_cons.mpr ⟨fs_183, List.forall_mem_cons.mpr ⟨fs_184, List.forall_mem_cons.mpr ⟨fs_185, List.forall_mem_cons.mpr ⟨fs_186, List.forall_mem_cons.mpr ⟨fs_187, List.forall_mem_cons.mpr ⟨fs_188, List.forall_mem_cons.mpr ⟨fs_189, List.forall_mem_cons.mpr ⟨fs_190, List.forall_mem_cons.mpr ⟨fs_191, fun _ h => absurd h List.not_mem_nil⟩⟩⟩⟩⟩⟩⟩⟩⟩⟩⟩⟩⟩⟩⟩⟩⟩⟩⟩⟩⟩⟩⟩⟩⟩⟩⟩⟩⟩⟩⟩⟩
theorem fT_6 : ∀ r ∈ mTab_6, okR_ r := List.forall_mem_cons.mpr ⟨fs_192, List.forall_mem_cons.mpr ⟨fs_193, List.forall_mem_cons.mpr ⟨fs_194, List.forall_mem_cons.mpr ⟨fs_195, List.forall_mem_cons.mpr ⟨fs_196, List.forall_mem_cons.mpr ⟨fs_197, List.forall_mem_cons.mpr ⟨fs_198, List.forall_mem_cons.mpr ⟨fs_199, List.forall_mem_cons.mpr ⟨fs_200, List.forall_mem_cons.mpr ⟨fs_201, List.forall_mem_cons.mpr ⟨fs_202, List.forall_mem_cons.mpr ⟨fs_203, List.forall_mem_cons.mpr ⟨fs_204, List.forall_mem_cons.mpr ⟨fs_205, List.forall_mem_cons.mpr ⟨fs_206, List.forall_mem_cons.mpr ⟨fs_207, List.forall_mem_cons.mpr ⟨fs_208, List.forall_mem_cons.mpr ⟨fs_209, List.forall_mem_cons.mpr ⟨fs_210, List.forall_mem_cons.mpr ⟨fs_211, List.forall_mem_cons.mpr ⟨fs_212, List.forall_mem_cons.mpr ⟨fs_213, List.forall_mem_cons.mpr ⟨fs_214, List.forall_mem_cons.mpr ⟨fs_215, List.forall_mem_cons.mpr ⟨fs_216, List.forall_mem_cons.mpr ⟨fs_217, List.forall_mem_cons.mpr ⟨fs_218, List.forall_mem_cons.mpr ⟨fs_219, List.forall_mem_cons.mpr ⟨fs_220, List.forall_mem_cons.mpr ⟨fs_221, List.forall_mem_cons.mpr ⟨fs_222, List.forall_mem_cons.mpr ⟨fs_223, fun _ h => absurd h List.not_mem_nil⟩⟩⟩⟩⟩⟩⟩⟩⟩⟩⟩⟩⟩⟩⟩⟩⟩⟩⟩⟩⟩⟩⟩⟩⟩⟩⟩⟩⟩⟩⟩⟩
theorem fT_7 : ∀ r ∈ mTab_x, okR_ r := List.forall_mem_cons.mpr ⟨fs_224, List.forall_mem_cons.mpr ⟨fs_225, List.forall_mem_cons.mpr ⟨fs_226, List.forall_mem_cons.mpr ⟨fs_227, List.forall_mem_cons.mpr ⟨fs_228, List.forall_mem_cons.mpr ⟨fs_229, List.forall_mem_cons.mpr ⟨fs_4, List.forall_mem_cons.mpr ⟨fs_231, List.forall_mem_cons.mpr ⟨fs_232, List.forall_mem_cons.mpr ⟨fs_233, List.forall_mem_cons.mpr ⟨fs_234, List.forall_mem_cons.mpr ⟨fs_235, List.forall_mem_cons.mpr ⟨fs_236, List.forall_mem_cons.mpr ⟨fs_237, List.forall_mem_cons.mpr ⟨fs_238, List.forall_mem_cons.mpr ⟨fs_239, List.forall_mem_cons.mpr ⟨fs_240, List.forall_mem_cons.mpr ⟨fs_241, List.forall_mem_cons.mpr ⟨fs_242, List.forall_mem_cons.mpr ⟨fs_243, List.forall_mem_cons.mpr ⟨fs_244, List.forall_mem_cons.mpr ⟨fs_245, List.forall_mem_cons.mpr ⟨fs_246, List.forall_mem_cons.mpr ⟨fs_247, List.forall_mem_cons.mpr ⟨fs_248, List.forall_mem_cons.mpr ⟨fs_249, fun _ h => absurd h List.not_mem_nil⟩⟩⟩⟩⟩⟩⟩⟩⟩⟩⟩⟩⟩⟩⟩⟩⟩⟩⟩⟩⟩⟩⟩⟩⟩⟩
noncomputable def mTabx : List mRow := mTab_0 ++ (mTab_1 ++ (mTab_2 ++ (mTab_3 ++ (mTab_4 ++ (mTab_5 ++ (mTab_6 ++ (mTab_x)))))))
theorem mTabx_ok : ∀ r ∈ mTabx, okR_ r := List.forall_mem_append.mpr ⟨fT_0, List.forall_mem_append.mpr ⟨fT_1, List.forall_mem_append.mpr ⟨fT_2, List.forall_mem_append.mpr ⟨fT_3, List.forall_mem_append.mpr ⟨fT_4, List.forall_mem_append.mpr ⟨fT_5, List.forall_mem_append.mpr ⟨fT_6, fT_7⟩⟩⟩⟩⟩⟩⟩
set_option maxRecDepth 20000 in
theorem mTabx_e : mTab.set 230 mr_4 = mTabx := rfl
theorem cd_ok (y : Nat) (hy : y ≠ 230) : ∀ pc, okOp (cdT y pc) = true := by
  have e : mTabx[y]? = mTab[y]? := by rw [← mTabx_e, List.getElem?_set_ne (fun z => hy z.symm)]
  show okR_ (mR y)
  unfold mR
  rw [List.getD_eq_getElem?_getD, ← e]
  cases h : mTabx[y]? with
  | none => exact fs_4
  | some r => exact mTabx_ok r (List.mem_of_getElem? h)
/-- with the answer: the count of the steps stays -/
theorem EV_ks {d y cc : Nat} {as : List Value} {h : mH} {Q : mQ} (hy : y ≠ 230) (q : EV d y as h Q) : EV d y as h (fun v h' => KS cc h h' ∧ Q v h') := by
  obtain ⟨v, h', z, a, b⟩ := EVg_lik cc cdT mxT cd_ok d y as h Q hy q
  exact b _ ⟨z, a⟩
