/-! Each row of the code, checked by computing -/
theorem xal_b {α : Type} {p : Nat} {a b : Lean.RArray (Nat × α)} {f : Nat → α → Bool} (ha : xall a f = true) (hb : xall b f = true) : xall (.branch p a b) f = true := by
  show cond (xall a f) (xall b f) false = true
  rw [ha, hb]; rfl
theorem xokT_of {y : Nat} {t : Lean.RArray (Nat × xins)} (h1 : decide ((xnm y).cls = xcn (xon y)) = true) (h2 : xall t (xokE y) = true) : xokT y t = true := by
  unfold xokT
  rw [h1, h2]; rfl
set_option maxRecDepth 100000 in
theorem xe_0_0 : xall xt_0_0 (xokE 0) = true := by decide +kernel
set_option maxRecDepth 100000 in
theorem xe_0_373 : xall xt_0_373 (xokE 0) = true := by decide +kernel
set_option maxRecDepth 100000 in
theorem xe_0_482 : xall xt_0_482 (xokE 0) = true := by decide +kernel
set_option maxRecDepth 100000 in
theorem xe_0_579 : xall xt_0_579 (xokE 0) = true := by decide +kernel
set_option maxRecDepth 100000 in
theorem xe_0_712 : xall xt_0_712 (xokE 0) = true := by decide +kernel
set_option maxRecDepth 100000 in
theorem xe_0_831 : xall xt_0_831 (xokE 0) = true := by decide +kernel
set_option maxRecDepth 100000 in
theorem xe_0_934 : xall xt_0_934 (xokE 0) = true := by decide +kernel
set_option maxRecDepth 100000 in
theorem xe_0_1037 : xall xt_0_1037 (xokE 0) = true := by decide +kernel
set_option maxRecDepth 100000 in
theorem xe_0_1143 : xall xt_0_1143 (xokE 0) = true := by decide +kernel
set_option maxRecDepth 100000 in
theorem xe_0_1254 : xall xt_0_1254 (xokE 0) = true := by decide +kernel
set_option maxRecDepth 100000 in
theorem xe_0_1373 : xall xt_0_1373 (xokE 0) = true := by decide +kernel
set_option maxRecDepth 100000 in
theorem xe_0_1490 : xall xt_0_1490 (xokE 0) = true := by decide +kernel
set_option maxRecDepth 100000 in
theorem xe_0_1625 : xall xt_0_1625 (xokE 0) = true := by decide +kernel
set_option maxRecDepth 100000 in
theorem xe_0_1736 : xall xt_0_1736 (xokE 0) = true := by decide +kernel
set_option maxRecDepth 100000 in
theorem xe_0_1851 : xall xt_0_1851 (xokE 0) = true := by decide +kernel
set_option maxRecDepth 100000 in
theorem xe_0_1990 : xall xt_0_1990 (xokE 0) = true := by decide +kernel
theorem xv_0 : xokT 0 xt_0 = true := xokT_of (by decide +kernel) (xal_b (xal_b (xal_b (xal_b xe_0_0 xe_0_373) (xal_b xe_0_482 xe_0_579)) (xal_b (xal_b xe_0_712 xe_0_831) (xal_b xe_0_934 xe_0_1037))) (xal_b (xal_b (xal_b xe_0_1143 xe_0_1254) (xal_b xe_0_1373 xe_0_1490)) (xal_b (xal_b xe_0_1625 xe_0_1736) (xal_b xe_0_1851 xe_0_1990))))
set_option maxRecDepth 100000 in
theorem xe_1_0 : xall xt_1_0 (xokE 1) = true := by decide +kernel
set_option maxRecDepth 100000 in
theorem xe_1_133 : xall xt_1_133 (xokE 1) = true := by decide +kernel
theorem xv_1 : xokT 1 xt_1 = true := xokT_of (by decide +kernel) (xal_b xe_1_0 xe_1_133)
set_option maxRecDepth 100000 in
theorem xe_2_0 : xall xt_2_0 (xokE 2) = true := by decide +kernel
theorem xv_2 : xokT 2 xt_2 = true := xokT_of (by decide +kernel) xe_2_0
set_option maxRecDepth 100000 in
theorem xe_3_0 : xall xt_3_0 (xokE 3) = true := by decide +kernel
theorem xv_3 : xokT 3 xt_3 = true := xokT_of (by decide +kernel) xe_3_0
set_option maxRecDepth 100000 in
theorem xe_4_0 : xall xt_4_0 (xokE 4) = true := by decide +kernel
theorem xv_4 : xokT 4 xt_4 = true := xokT_of (by decide +kernel) xe_4_0
set_option maxRecDepth 100000 in
theorem xe_5_0 : xall xt_5_0 (xokE 5) = true := by decide +kernel
theorem xv_5 : xokT 5 xt_5 = true := xokT_of (by decide +kernel) xe_5_0
set_option maxRecDepth 100000 in
theorem xe_6_0 : xall xt_6_0 (xokE 6) = true := by decide +kernel
theorem xv_6 : xokT 6 xt_6 = true := xokT_of (by decide +kernel) xe_6_0
set_option maxRecDepth 100000 in
theorem xe_7_0 : xall xt_7_0 (xokE 7) = true := by decide +kernel
theorem xv_7 : xokT 7 xt_7 = true := xokT_of (by decide +kernel) xe_7_0
set_option maxRecDepth 100000 in
theorem xe_8_0 : xall xt_8_0 (xokE 8) = true := by decide +kernel
theorem xv_8 : xokT 8 xt_8 = true := xokT_of (by decide +kernel) xe_8_0
set_option maxRecDepth 100000 in
theorem xe_9_0 : xall xt_9_0 (xokE 9) = true := by decide +kernel
theorem xv_9 : xokT 9 xt_9 = true := xokT_of (by decide +kernel) xe_9_0
set_option maxRecDepth 100000 in
theorem xe_10_0 : xall xt_10_0 (xokE 10) = true := by decide +kernel
theorem xv_10 : xokT 10 xt_10 = true := xokT_of (by decide +kernel) xe_10_0
set_option maxRecDepth 100000 in
theorem xe_11_0 : xall xt_11_0 (xokE 11) = true := by decide +kernel
theorem xv_11 : xokT 11 xt_11 = true := xokT_of (by decide +kernel) xe_11_0
set_option maxRecDepth 100000 in
theorem xe_12_0 : xall xt_12_0 (xokE 12) = true := by decide +kernel
theorem xv_12 : xokT 12 xt_12 = true := xokT_of (by decide +kernel) xe_12_0
set_option maxRecDepth 100000 in
theorem xe_13_0 : xall xt_13_0 (xokE 13) = true := by decide +kernel
theorem xv_13 : xokT 13 xt_13 = true := xokT_of (by decide +kernel) xe_13_0
set_option maxRecDepth 100000 in
theorem xe_14_0 : xall xt_14_0 (xokE 14) = true := by decide +kernel
theorem xv_14 : xokT 14 xt_14 = true := xokT_of (by decide +kernel) xe_14_0
set_option maxRecDepth 100000 in
theorem xe_15_0 : xall xt_15_0 (xokE 15) = true := by decide +kernel
theorem xv_15 : xokT 15 xt_15 = true := xokT_of (by decide +kernel) xe_15_0
set_option maxRecDepth 100000 in
theorem xe_16_0 : xall xt_16_0 (xokE 16) = true := by decide +kernel
theorem xv_16 : xokT 16 xt_16 = true := xokT_of (by decide +kernel) xe_16_0
set_option maxRecDepth 100000 in
theorem xe_17_0 : xall xt_17_0 (xokE 17) = true := by decide +kernel
theorem xv_17 : xokT 17 xt_17 = true := xokT_of (by decide +kernel) xe_17_0
set_option maxRecDepth 100000 in
theorem xe_18_0 : xall xt_18_0 (xokE 18) = true := by decide +kernel
theorem xv_18 : xokT 18 xt_18 = true := xokT_of (by decide +kernel) xe_18_0
set_option maxRecDepth 100000 in
theorem xe_19_0 : xall xt_19_0 (xokE 19) = true := by decide +kernel
theorem xv_19 : xokT 19 xt_19 = true := xokT_of (by decide +kernel) xe_19_0
set_option maxRecDepth 100000 in
theorem xe_20_0 : xall xt_20_0 (xokE 20) = true := by decide +kernel
theorem xv_20 : xokT 20 xt_20 = true := xokT_of (by decide +kernel) xe_20_0
set_option maxRecDepth 100000 in
theorem xe_21_0 : xall xt_21_0 (xokE 21) = true := by decide +kernel
theorem xv_21 : xokT 21 xt_21 = true := xokT_of (by decide +kernel) xe_21_0
set_option maxRecDepth 100000 in
theorem xe_22_0 : xall xt_22_0 (xokE 22) = true := by decide +kernel
theorem xv_22 : xokT 22 xt_22 = true := xokT_of (by decide +kernel) xe_22_0
set_option maxRecDepth 100000 in
theorem xe_23_0 : xall xt_23_0 (xokE 23) = true := by decide +kernel
theorem xv_23 : xokT 23 xt_23 = true := xokT_of (by decide +kernel) xe_23_0
set_option maxRecDepth 100000 in
theorem xe_24_0 : xall xt_24_0 (xokE 24) = true := by decide +kernel
theorem xv_24 : xokT 24 xt_24 = true := xokT_of (by decide +kernel) xe_24_0
set_option maxRecDepth 100000 in
theorem xe_25_0 : xall xt_25_0 (xokE 25) = true := by decide +kernel
theorem xv_25 : xokT 25 xt_25 = true := xokT_of (by decide +kernel) xe_25_0
set_option maxRecDepth 100000 in
theorem xe_26_0 : xall xt_26_0 (xokE 26) = true := by decide +kernel
theorem xv_26 : xokT 26 xt_26 = true := xokT_of (by decide +kernel) xe_26_0
set_option maxRecDepth 100000 in
theorem xe_27_0 : xall xt_27_0 (xokE 27) = true := by decide +kernel
theorem xv_27 : xokT 27 xt_27 = true := xokT_of (by decide +kernel) xe_27_0
set_option maxRecDepth 100000 in
theorem xe_28_0 : xall xt_28_0 (xokE 28) = true := by decide +kernel
theorem xv_28 : xokT 28 xt_28 = true := xokT_of (by decide +kernel) xe_28_0
set_option maxRecDepth 100000 in
theorem xe_29_0 : xall xt_29_0 (xokE 29) = true := by decide +kernel
theorem xv_29 : xokT 29 xt_29 = true := xokT_of (by decide +kernel) xe_29_0
set_option maxRecDepth 100000 in
theorem xe_30_0 : xall xt_30_0 (xokE 30) = true := by decide +kernel
theorem xv_30 : xokT 30 xt_30 = true := xokT_of (by decide +kernel) xe_30_0
set_option maxRecDepth 100000 in
theorem xe_31_0 : xall xt_31_0 (xokE 31) = true := by decide +kernel
theorem xv_31 : xokT 31 xt_31 = true := xokT_of (by decide +kernel) xe_31_0
set_option maxRecDepth 100000 in
theorem xe_32_0 : xall xt_32_0 (xokE 32) = true := by decide +kernel
theorem xv_32 : xokT 32 xt_32 = true := xokT_of (by decide +kernel) xe_32_0
set_option maxRecDepth 100000 in
theorem xe_33_0 : xall xt_33_0 (xokE 33) = true := by decide +kernel
theorem xv_33 : xokT 33 xt_33 = true := xokT_of (by decide +kernel) xe_33_0
set_option maxRecDepth 100000 in
theorem xe_34_0 : xall xt_34_0 (xokE 34) = true := by decide +kernel
theorem xv_34 : xokT 34 xt_34 = true := xokT_of (by decide +kernel) xe_34_0
set_option maxRecDepth 100000 in
theorem xe_35_0 : xall xt_35_0 (xokE 35) = true := by decide +kernel
theorem xv_35 : xokT 35 xt_35 = true := xokT_of (by decide +kernel) xe_35_0
set_option maxRecDepth 100000 in
theorem xe_36_0 : xall xt_36_0 (xokE 36) = true := by decide +kernel
theorem xv_36 : xokT 36 xt_36 = true := xokT_of (by decide +kernel) xe_36_0
set_option maxRecDepth 100000 in
theorem xe_37_0 : xall xt_37_0 (xokE 37) = true := by decide +kernel
theorem xv_37 : xokT 37 xt_37 = true := xokT_of (by decide +kernel) xe_37_0
set_option maxRecDepth 100000 in
theorem xe_38_0 : xall xt_38_0 (xokE 38) = true := by decide +kernel
theorem xv_38 : xokT 38 xt_38 = true := xokT_of (by decide +kernel) xe_38_0
set_option maxRecDepth 100000 in
theorem xe_39_0 : xall xt_39_0 (xokE 39) = true := by decide +kernel
theorem xv_39 : xokT 39 xt_39 = true := xokT_of (by decide +kernel) xe_39_0
set_option maxRecDepth 100000 in
theorem xe_40_0 : xall xt_40_0 (xokE 40) = true := by decide +kernel
theorem xv_40 : xokT 40 xt_40 = true := xokT_of (by decide +kernel) xe_40_0
set_option maxRecDepth 100000 in
theorem xe_41_0 : xall xt_41_0 (xokE 41) = true := by decide +kernel
theorem xv_41 : xokT 41 xt_41 = true := xokT_of (by decide +kernel) xe_41_0
set_option maxRecDepth 100000 in
theorem xe_42_0 : xall xt_42_0 (xokE 42) = true := by decide +kernel
theorem xv_42 : xokT 42 xt_42 = true := xokT_of (by decide +kernel) xe_42_0
set_option maxRecDepth 100000 in
theorem xe_43_0 : xall xt_43_0 (xokE 43) = true := by decide +kernel
theorem xv_43 : xokT 43 xt_43 = true := xokT_of (by decide +kernel) xe_43_0
set_option maxRecDepth 100000 in
theorem xe_44_0 : xall xt_44_0 (xokE 44) = true := by decide +kernel
theorem xv_44 : xokT 44 xt_44 = true := xokT_of (by decide +kernel) xe_44_0
set_option maxRecDepth 100000 in
theorem xe_45_0 : xall xt_45_0 (xokE 45) = true := by decide +kernel
theorem xv_45 : xokT 45 xt_45 = true := xokT_of (by decide +kernel) xe_45_0
set_option maxRecDepth 100000 in
theorem xe_46_0 : xall xt_46_0 (xokE 46) = true := by decide +kernel
theorem xv_46 : xokT 46 xt_46 = true := xokT_of (by decide +kernel) xe_46_0
set_option maxRecDepth 100000 in
theorem xe_47_0 : xall xt_47_0 (xokE 47) = true := by decide +kernel
theorem xv_47 : xokT 47 xt_47 = true := xokT_of (by decide +kernel) xe_47_0
set_option maxRecDepth 100000 in
theorem xe_48_0 : xall xt_48_0 (xokE 48) = true := by decide +kernel
theorem xv_48 : xokT 48 xt_48 = true := xokT_of (by decide +kernel) xe_48_0
set_option maxRecDepth 100000 in
theorem xe_49_0 : xall xt_49_0 (xokE 49) = true := by decide +kernel
theorem xv_49 : xokT 49 xt_49 = true := xokT_of (by decide +kernel) xe_49_0
set_option maxRecDepth 100000 in
theorem xe_50_0 : xall xt_50_0 (xokE 50) = true := by decide +kernel
theorem xv_50 : xokT 50 xt_50 = true := xokT_of (by decide +kernel) xe_50_0
set_option maxRecDepth 100000 in
theorem xe_51_0 : xall xt_51_0 (xokE 51) = true := by decide +kernel
theorem xv_51 : xokT 51 xt_51 = true := xokT_of (by decide +kernel) xe_51_0
set_option maxRecDepth 100000 in
theorem xe_52_0 : xall xt_52_0 (xokE 52) = true := by decide +kernel
theorem xv_52 : xokT 52 xt_52 = true := xokT_of (by decide +kernel) xe_52_0
set_option maxRecDepth 100000 in
theorem xe_53_0 : xall xt_53_0 (xokE 53) = true := by decide +kernel
theorem xv_53 : xokT 53 xt_53 = true := xokT_of (by decide +kernel) xe_53_0
set_option maxRecDepth 100000 in
theorem xe_54_0 : xall xt_54_0 (xokE 54) = true := by decide +kernel
theorem xv_54 : xokT 54 xt_54 = true := xokT_of (by decide +kernel) xe_54_0
set_option maxRecDepth 100000 in
theorem xe_55_0 : xall xt_55_0 (xokE 55) = true := by decide +kernel
theorem xv_55 : xokT 55 xt_55 = true := xokT_of (by decide +kernel) xe_55_0
set_option maxRecDepth 100000 in
theorem xe_56_0 : xall xt_56_0 (xokE 56) = true := by decide +kernel
theorem xv_56 : xokT 56 xt_56 = true := xokT_of (by decide +kernel) xe_56_0
set_option maxRecDepth 100000 in
theorem xe_57_0 : xall xt_57_0 (xokE 57) = true := by decide +kernel
theorem xv_57 : xokT 57 xt_57 = true := xokT_of (by decide +kernel) xe_57_0
set_option maxRecDepth 100000 in
theorem xe_58_0 : xall xt_58_0 (xokE 58) = true := by decide +kernel
theorem xv_58 : xokT 58 xt_58 = true := xokT_of (by decide +kernel) xe_58_0
set_option maxRecDepth 100000 in
theorem xe_59_0 : xall xt_59_0 (xokE 59) = true := by decide +kernel
theorem xv_59 : xokT 59 xt_59 = true := xokT_of (by decide +kernel) xe_59_0
set_option maxRecDepth 100000 in
theorem xe_60_0 : xall xt_60_0 (xokE 60) = true := by decide +kernel
theorem xv_60 : xokT 60 xt_60 = true := xokT_of (by decide +kernel) xe_60_0
set_option maxRecDepth 100000 in
theorem xe_61_0 : xall xt_61_0 (xokE 61) = true := by decide +kernel
theorem xv_61 : xokT 61 xt_61 = true := xokT_of (by decide +kernel) xe_61_0
set_option maxRecDepth 100000 in
theorem xe_62_0 : xall xt_62_0 (xokE 62) = true := by decide +kernel
theorem xv_62 : xokT 62 xt_62 = true := xokT_of (by decide +kernel) xe_62_0
set_option maxRecDepth 100000 in
theorem xe_63_0 : xall xt_63_0 (xokE 63) = true := by decide +kernel
theorem xv_63 : xokT 63 xt_63 = true := xokT_of (by decide +kernel) xe_63_0
set_option maxRecDepth 100000 in
theorem xe_64_0 : xall xt_64_0 (xokE 64) = true := by decide +kernel
theorem xv_64 : xokT 64 xt_64 = true := xokT_of (by decide +kernel) xe_64_0
set_option maxRecDepth 100000 in
theorem xe_65_0 : xall xt_65_0 (xokE 65) = true := by decide +kernel
theorem xv_65 : xokT 65 xt_65 = true := xokT_of (by decide +kernel) xe_65_0
set_option maxRecDepth 100000 in
theorem xe_66_0 : xall xt_66_0 (xokE 66) = true := by decide +kernel
theorem xv_66 : xokT 66 xt_66 = true := xokT_of (by decide +kernel) xe_66_0
set_option maxRecDepth 100000 in
theorem xe_67_0 : xall xt_67_0 (xokE 67) = true := by decide +kernel
theorem xv_67 : xokT 67 xt_67 = true := xokT_of (by decide +kernel) xe_67_0
set_option maxRecDepth 100000 in
theorem xe_68_0 : xall xt_68_0 (xokE 68) = true := by decide +kernel
theorem xv_68 : xokT 68 xt_68 = true := xokT_of (by decide +kernel) xe_68_0
set_option maxRecDepth 100000 in
theorem xe_69_0 : xall xt_69_0 (xokE 69) = true := by decide +kernel
theorem xv_69 : xokT 69 xt_69 = true := xokT_of (by decide +kernel) xe_69_0
set_option maxRecDepth 100000 in
theorem xe_70_0 : xall xt_70_0 (xokE 70) = true := by decide +kernel
theorem xv_70 : xokT 70 xt_70 = true := xokT_of (by decide +kernel) xe_70_0
set_option maxRecDepth 100000 in
theorem xe_71_0 : xall xt_71_0 (xokE 71) = true := by decide +kernel
theorem xv_71 : xokT 71 xt_71 = true := xokT_of (by decide +kernel) xe_71_0
set_option maxRecDepth 100000 in
theorem xe_72_0 : xall xt_72_0 (xokE 72) = true := by decide +kernel
theorem xv_72 : xokT 72 xt_72 = true := xokT_of (by decide +kernel) xe_72_0
set_option maxRecDepth 100000 in
theorem xe_73_0 : xall xt_73_0 (xokE 73) = true := by decide +kernel
theorem xv_73 : xokT 73 xt_73 = true := xokT_of (by decide +kernel) xe_73_0
set_option maxRecDepth 100000 in
theorem xe_74_0 : xall xt_74_0 (xokE 74) = true := by decide +kernel
theorem xv_74 : xokT 74 xt_74 = true := xokT_of (by decide +kernel) xe_74_0
set_option maxRecDepth 100000 in
theorem xe_75_0 : xall xt_75_0 (xokE 75) = true := by decide +kernel
theorem xv_75 : xokT 75 xt_75 = true := xokT_of (by decide +kernel) xe_75_0
set_option maxRecDepth 100000 in
theorem xe_76_0 : xall xt_76_0 (xokE 76) = true := by decide +kernel
theorem xv_76 : xokT 76 xt_76 = true := xokT_of (by decide +kernel) xe_76_0
set_option maxRecDepth 100000 in
theorem xe_77_0 : xall xt_77_0 (xokE 77) = true := by decide +kernel
theorem xv_77 : xokT 77 xt_77 = true := xokT_of (by decide +kernel) xe_77_0
set_option maxRecDepth 100000 in
theorem xe_78_0 : xall xt_78_0 (xokE 78) = true := by decide +kernel
theorem xv_78 : xokT 78 xt_78 = true := xokT_of (by decide +kernel) xe_78_0
set_option maxRecDepth 100000 in
theorem xe_79_0 : xall xt_79_0 (xokE 79) = true := by decide +kernel
theorem xv_79 : xokT 79 xt_79 = true := xokT_of (by decide +kernel) xe_79_0
set_option maxRecDepth 100000 in
theorem xe_80_0 : xall xt_80_0 (xokE 80) = true := by decide +kernel
theorem xv_80 : xokT 80 xt_80 = true := xokT_of (by decide +kernel) xe_80_0
set_option maxRecDepth 100000 in
theorem xe_81_0 : xall xt_81_0 (xokE 81) = true := by decide +kernel
theorem xv_81 : xokT 81 xt_81 = true := xokT_of (by decide +kernel) xe_81_0
set_option maxRecDepth 100000 in
theorem xe_82_0 : xall xt_82_0 (xokE 82) = true := by decide +kernel
theorem xv_82 : xokT 82 xt_82 = true := xokT_of (by decide +kernel) xe_82_0
set_option maxRecDepth 100000 in
theorem xe_83_0 : xall xt_83_0 (xokE 83) = true := by decide +kernel
theorem xv_83 : xokT 83 xt_83 = true := xokT_of (by decide +kernel) xe_83_0
set_option maxRecDepth 100000 in
theorem xe_84_0 : xall xt_84_0 (xokE 84) = true := by decide +kernel
theorem xv_84 : xokT 84 xt_84 = true := xokT_of (by decide +kernel) xe_84_0
set_option maxRecDepth 100000 in
theorem xe_85_0 : xall xt_85_0 (xokE 85) = true := by decide +kernel
theorem xv_85 : xokT 85 xt_85 = true := xokT_of (by decide +kernel) xe_85_0
set_option maxRecDepth 100000 in
theorem xe_86_0 : xall xt_86_0 (xokE 86) = true := by decide +kernel
theorem xv_86 : xokT 86 xt_86 = true := xokT_of (by decide +kernel) xe_86_0
set_option maxRecDepth 100000 in
theorem xe_87_0 : xall xt_87_0 (xokE 87) = true := by decide +kernel
theorem xv_87 : xokT 87 xt_87 = true := xokT_of (by decide +kernel) xe_87_0
set_option maxRecDepth 100000 in
theorem xe_88_0 : xall xt_88_0 (xokE 88) = true := by decide +kernel
theorem xv_88 : xokT 88 xt_88 = true := xokT_of (by decide +kernel) xe_88_0
set_option maxRecDepth 100000 in
theorem xe_89_0 : xall xt_89_0 (xokE 89) = true := by decide +kernel
theorem xv_89 : xokT 89 xt_89 = true := xokT_of (by decide +kernel) xe_89_0
set_option maxRecDepth 100000 in
theorem xe_90_0 : xall xt_90_0 (xokE 90) = true := by decide +kernel
theorem xv_90 : xokT 90 xt_90 = true := xokT_of (by decide +kernel) xe_90_0
set_option maxRecDepth 100000 in
theorem xe_91_0 : xall xt_91_0 (xokE 91) = true := by decide +kernel
theorem xv_91 : xokT 91 xt_91 = true := xokT_of (by decide +kernel) xe_91_0
set_option maxRecDepth 100000 in
theorem xe_92_0 : xall xt_92_0 (xokE 92) = true := by decide +kernel
theorem xv_92 : xokT 92 xt_92 = true := xokT_of (by decide +kernel) xe_92_0
set_option maxRecDepth 100000 in
theorem xe_93_0 : xall xt_93_0 (xokE 93) = true := by decide +kernel
theorem xv_93 : xokT 93 xt_93 = true := xokT_of (by decide +kernel) xe_93_0
set_option maxRecDepth 100000 in
theorem xe_94_0 : xall xt_94_0 (xokE 94) = true := by decide +kernel
theorem xv_94 : xokT 94 xt_94 = true := xokT_of (by decide +kernel) xe_94_0
set_option maxRecDepth 100000 in
theorem xe_95_0 : xall xt_95_0 (xokE 95) = true := by decide +kernel
theorem xv_95 : xokT 95 xt_95 = true := xokT_of (by decide +kernel) xe_95_0
set_option maxRecDepth 100000 in
theorem xe_96_0 : xall xt_96_0 (xokE 96) = true := by decide +kernel
theorem xv_96 : xokT 96 xt_96 = true := xokT_of (by decide +kernel) xe_96_0
set_option maxRecDepth 100000 in
theorem xe_97_0 : xall xt_97_0 (xokE 97) = true := by decide +kernel
theorem xv_97 : xokT 97 xt_97 = true := xokT_of (by decide +kernel) xe_97_0
set_option maxRecDepth 100000 in
theorem xe_98_0 : xall xt_98_0 (xokE 98) = true := by decide +kernel
theorem xv_98 : xokT 98 xt_98 = true := xokT_of (by decide +kernel) xe_98_0
set_option maxRecDepth 100000 in
theorem xe_99_0 : xall xt_99_0 (xokE 99) = true := by decide +kernel
theorem xv_99 : xokT 99 xt_99 = true := xokT_of (by decide +kernel) xe_99_0
set_option maxRecDepth 100000 in
theorem xe_100_0 : xall xt_100_0 (xokE 100) = true := by decide +kernel
theorem xv_100 : xokT 100 xt_100 = true := xokT_of (by decide +kernel) xe_100_0
set_option maxRecDepth 100000 in
theorem xe_101_0 : xall xt_101_0 (xokE 101) = true := by decide +kernel
theorem xv_101 : xokT 101 xt_101 = true := xokT_of (by decide +kernel) xe_101_0
set_option maxRecDepth 100000 in
theorem xe_102_0 : xall xt_102_0 (xokE 102) = true := by decide +kernel
theorem xv_102 : xokT 102 xt_102 = true := xokT_of (by decide +kernel) xe_102_0
set_option maxRecDepth 100000 in
theorem xe_103_0 : xall xt_103_0 (xokE 103) = true := by decide +kernel
theorem xv_103 : xokT 103 xt_103 = true := xokT_of (by decide +kernel) xe_103_0
set_option maxRecDepth 100000 in
theorem xe_104_0 : xall xt_104_0 (xokE 104) = true := by decide +kernel
theorem xv_104 : xokT 104 xt_104 = true := xokT_of (by decide +kernel) xe_104_0
set_option maxRecDepth 100000 in
theorem xe_105_0 : xall xt_105_0 (xokE 105) = true := by decide +kernel
theorem xv_105 : xokT 105 xt_105 = true := xokT_of (by decide +kernel) xe_105_0
set_option maxRecDepth 100000 in
theorem xe_106_0 : xall xt_106_0 (xokE 106) = true := by decide +kernel
theorem xv_106 : xokT 106 xt_106 = true := xokT_of (by decide +kernel) xe_106_0
set_option maxRecDepth 100000 in
theorem xe_107_0 : xall xt_107_0 (xokE 107) = true := by decide +kernel
theorem xv_107 : xokT 107 xt_107 = true := xokT_of (by decide +kernel) xe_107_0
set_option maxRecDepth 100000 in
theorem xe_108_0 : xall xt_108_0 (xokE 108) = true := by decide +kernel
theorem xv_108 : xokT 108 xt_108 = true := xokT_of (by decide +kernel) xe_108_0
set_option maxRecDepth 100000 in
theorem xe_109_0 : xall xt_109_0 (xokE 109) = true := by decide +kernel
theorem xv_109 : xokT 109 xt_109 = true := xokT_of (by decide +kernel) xe_109_0
set_option maxRecDepth 100000 in
theorem xe_110_0 : xall xt_110_0 (xokE 110) = true := by decide +kernel
theorem xv_110 : xokT 110 xt_110 = true := xokT_of (by decide +kernel) xe_110_0
set_option maxRecDepth 100000 in
theorem xe_111_0 : xall xt_111_0 (xokE 111) = true := by decide +kernel
theorem xv_111 : xokT 111 xt_111 = true := xokT_of (by decide +kernel) xe_111_0
set_option maxRecDepth 100000 in
theorem xe_112_0 : xall xt_112_0 (xokE 112) = true := by decide +kernel
theorem xv_112 : xokT 112 xt_112 = true := xokT_of (by decide +kernel) xe_112_0
set_option maxRecDepth 100000 in
theorem xe_113_0 : xall xt_113_0 (xokE 113) = true := by decide +kernel
theorem xv_113 : xokT 113 xt_113 = true := xokT_of (by decide +kernel) xe_113_0
set_option maxRecDepth 100000 in
theorem xe_114_0 : xall xt_114_0 (xokE 114) = true := by decide +kernel
theorem xv_114 : xokT 114 xt_114 = true := xokT_of (by decide +kernel) xe_114_0
set_option maxRecDepth 100000 in
theorem xe_115_0 : xall xt_115_0 (xokE 115) = true := by decide +kernel
theorem xv_115 : xokT 115 xt_115 = true := xokT_of (by decide +kernel) xe_115_0
set_option maxRecDepth 100000 in
theorem xe_116_0 : xall xt_116_0 (xokE 116) = true := by decide +kernel
theorem xv_116 : xokT 116 xt_116 = true := xokT_of (by decide +kernel) xe_116_0
set_option maxRecDepth 100000 in
theorem xe_117_0 : xall xt_117_0 (xokE 117) = true := by decide +kernel
theorem xv_117 : xokT 117 xt_117 = true := xokT_of (by decide +kernel) xe_117_0
set_option maxRecDepth 100000 in
theorem xe_118_0 : xall xt_118_0 (xokE 118) = true := by decide +kernel
theorem xv_118 : xokT 118 xt_118 = true := xokT_of (by decide +kernel) xe_118_0
set_option maxRecDepth 100000 in
theorem xe_119_0 : xall xt_119_0 (xokE 119) = true := by decide +kernel
theorem xv_119 : xokT 119 xt_119 = true := xokT_of (by decide +kernel) xe_119_0
set_option maxRecDepth 100000 in
theorem xe_120_0 : xall xt_120_0 (xokE 120) = true := by decide +kernel
theorem xv_120 : xokT 120 xt_120 = true := xokT_of (by decide +kernel) xe_120_0
set_option maxRecDepth 100000 in
theorem xe_121_0 : xall xt_121_0 (xokE 121) = true := by decide +kernel
theorem xv_121 : xokT 121 xt_121 = true := xokT_of (by decide +kernel) xe_121_0
set_option maxRecDepth 100000 in
theorem xe_122_0 : xall xt_122_0 (xokE 122) = true := by decide +kernel
theorem xv_122 : xokT 122 xt_122 = true := xokT_of (by decide +kernel) xe_122_0
set_option maxRecDepth 100000 in
theorem xe_123_0 : xall xt_123_0 (xokE 123) = true := by decide +kernel
theorem xv_123 : xokT 123 xt_123 = true := xokT_of (by decide +kernel) xe_123_0
set_option maxRecDepth 100000 in
theorem xe_124_0 : xall xt_124_0 (xokE 124) = true := by decide +kernel
theorem xv_124 : xokT 124 xt_124 = true := xokT_of (by decide +kernel) xe_124_0
set_option maxRecDepth 100000 in
theorem xe_125_0 : xall xt_125_0 (xokE 125) = true := by decide +kernel
theorem xv_125 : xokT 125 xt_125 = true := xokT_of (by decide +kernel) xe_125_0
set_option maxRecDepth 100000 in
theorem xe_126_0 : xall xt_126_0 (xokE 126) = true := by decide +kernel
theorem xv_126 : xokT 126 xt_126 = true := xokT_of (by decide +kernel) xe_126_0
set_option maxRecDepth 100000 in
theorem xe_127_0 : xall xt_127_0 (xokE 127) = true := by decide +kernel
theorem xv_127 : xokT 127 xt_127 = true := xokT_of (by decide +kernel) xe_127_0
set_option maxRecDepth 100000 in
theorem xe_128_0 : xall xt_128_0 (xokE 128) = true := by decide +kernel
theorem xv_128 : xokT 128 xt_128 = true := xokT_of (by decide +kernel) xe_128_0
set_option maxRecDepth 100000 in
theorem xe_129_0 : xall xt_129_0 (xokE 129) = true := by decide +kernel
theorem xv_129 : xokT 129 xt_129 = true := xokT_of (by decide +kernel) xe_129_0
set_option maxRecDepth 100000 in
theorem xe_130_0 : xall xt_130_0 (xokE 130) = true := by decide +kernel
theorem xv_130 : xokT 130 xt_130 = true := xokT_of (by decide +kernel) xe_130_0
set_option maxRecDepth 100000 in
theorem xe_131_0 : xall xt_131_0 (xokE 131) = true := by decide +kernel
theorem xv_131 : xokT 131 xt_131 = true := xokT_of (by decide +kernel) xe_131_0
set_option maxRecDepth 100000 in
theorem xe_132_0 : xall xt_132_0 (xokE 132) = true := by decide +kernel
theorem xv_132 : xokT 132 xt_132 = true := xokT_of (by decide +kernel) xe_132_0
set_option maxRecDepth 100000 in
theorem xe_133_0 : xall xt_133_0 (xokE 133) = true := by decide +kernel
theorem xv_133 : xokT 133 xt_133 = true := xokT_of (by decide +kernel) xe_133_0
set_option maxRecDepth 100000 in
theorem xe_134_0 : xall xt_134_0 (xokE 134) = true := by decide +kernel
theorem xv_134 : xokT 134 xt_134 = true := xokT_of (by decide +kernel) xe_134_0
set_option maxRecDepth 100000 in
theorem xe_135_0 : xall xt_135_0 (xokE 135) = true := by decide +kernel
theorem xv_135 : xokT 135 xt_135 = true := xokT_of (by decide +kernel) xe_135_0
set_option maxRecDepth 100000 in
theorem xe_136_0 : xall xt_136_0 (xokE 136) = true := by decide +kernel
theorem xv_136 : xokT 136 xt_136 = true := xokT_of (by decide +kernel) xe_136_0
set_option maxRecDepth 100000 in
theorem xe_137_0 : xall xt_137_0 (xokE 137) = true := by decide +kernel
theorem xv_137 : xokT 137 xt_137 = true := xokT_of (by decide +kernel) xe_137_0
set_option maxRecDepth 100000 in
theorem xe_138_0 : xall xt_138_0 (xokE 138) = true := by decide +kernel
theorem xv_138 : xokT 138 xt_138 = true := xokT_of (by decide +kernel) xe_138_0
set_option maxRecDepth 100000 in
theorem xe_139_0 : xall xt_139_0 (xokE 139) = true := by decide +kernel
theorem xv_139 : xokT 139 xt_139 = true := xokT_of (by decide +kernel) xe_139_0
set_option maxRecDepth 100000 in
theorem xe_140_0 : xall xt_140_0 (xokE 140) = true := by decide +kernel
theorem xv_140 : xokT 140 xt_140 = true := xokT_of (by decide +kernel) xe_140_0
set_option maxRecDepth 100000 in
theorem xe_141_0 : xall xt_141_0 (xokE 141) = true := by decide +kernel
theorem xv_141 : xokT 141 xt_141 = true := xokT_of (by decide +kernel) xe_141_0
set_option maxRecDepth 100000 in
theorem xe_142_0 : xall xt_142_0 (xokE 142) = true := by decide +kernel
theorem xv_142 : xokT 142 xt_142 = true := xokT_of (by decide +kernel) xe_142_0
set_option maxRecDepth 100000 in
theorem xe_143_0 : xall xt_143_0 (xokE 143) = true := by decide +kernel
theorem xv_143 : xokT 143 xt_143 = true := xokT_of (by decide +kernel) xe_143_0
set_option maxRecDepth 100000 in
theorem xe_144_0 : xall xt_144_0 (xokE 144) = true := by decide +kernel
theorem xv_144 : xokT 144 xt_144 = true := xokT_of (by decide +kernel) xe_144_0
set_option maxRecDepth 100000 in
theorem xe_145_0 : xall xt_145_0 (xokE 145) = true := by decide +kernel
theorem xv_145 : xokT 145 xt_145 = true := xokT_of (by decide +kernel) xe_145_0
set_option maxRecDepth 100000 in
theorem xe_146_0 : xall xt_146_0 (xokE 146) = true := by decide +kernel
theorem xv_146 : xokT 146 xt_146 = true := xokT_of (by decide +kernel) xe_146_0
set_option maxRecDepth 100000 in
theorem xe_147_0 : xall xt_147_0 (xokE 147) = true := by decide +kernel
theorem xv_147 : xokT 147 xt_147 = true := xokT_of (by decide +kernel) xe_147_0
set_option maxRecDepth 100000 in
theorem xe_148_0 : xall xt_148_0 (xokE 148) = true := by decide +kernel
theorem xv_148 : xokT 148 xt_148 = true := xokT_of (by decide +kernel) xe_148_0
set_option maxRecDepth 100000 in
theorem xe_149_0 : xall xt_149_0 (xokE 149) = true := by decide +kernel
theorem xv_149 : xokT 149 xt_149 = true := xokT_of (by decide +kernel) xe_149_0
set_option maxRecDepth 100000 in
theorem xe_150_0 : xall xt_150_0 (xokE 150) = true := by decide +kernel
theorem xv_150 : xokT 150 xt_150 = true := xokT_of (by decide +kernel) xe_150_0
set_option maxRecDepth 100000 in
theorem xe_151_0 : xall xt_151_0 (xokE 151) = true := by decide +kernel
theorem xv_151 : xokT 151 xt_151 = true := xokT_of (by decide +kernel) xe_151_0
set_option maxRecDepth 100000 in
theorem xe_152_0 : xall xt_152_0 (xokE 152) = true := by decide +kernel
theorem xv_152 : xokT 152 xt_152 = true := xokT_of (by decide +kernel) xe_152_0
set_option maxRecDepth 100000 in
theorem xe_153_0 : xall xt_153_0 (xokE 153) = true := by decide +kernel
theorem xv_153 : xokT 153 xt_153 = true := xokT_of (by decide +kernel) xe_153_0
set_option maxRecDepth 100000 in
theorem xe_154_0 : xall xt_154_0 (xokE 154) = true := by decide +kernel
theorem xv_154 : xokT 154 xt_154 = true := xokT_of (by decide +kernel) xe_154_0
set_option maxRecDepth 100000 in
theorem xe_155_0 : xall xt_155_0 (xokE 155) = true := by decide +kernel
theorem xv_155 : xokT 155 xt_155 = true := xokT_of (by decide +kernel) xe_155_0
set_option maxRecDepth 100000 in
theorem xe_156_0 : xall xt_156_0 (xokE 156) = true := by decide +kernel
theorem xv_156 : xokT 156 xt_156 = true := xokT_of (by decide +kernel) xe_156_0
set_option maxRecDepth 100000 in
theorem xe_157_0 : xall xt_157_0 (xokE 157) = true := by decide +kernel
theorem xv_157 : xokT 157 xt_157 = true := xokT_of (by decide +kernel) xe_157_0
set_option maxRecDepth 100000 in
theorem xe_158_0 : xall xt_158_0 (xokE 158) = true := by decide +kernel
theorem xv_158 : xokT 158 xt_158 = true := xokT_of (by decide +kernel) xe_158_0
set_option maxRecDepth 100000 in
theorem xe_159_0 : xall xt_159_0 (xokE 159) = true := by decide +kernel
theorem xv_159 : xokT 159 xt_159 = true := xokT_of (by decide +kernel) xe_159_0
set_option maxRecDepth 100000 in
theorem xe_160_0 : xall xt_160_0 (xokE 160) = true := by decide +kernel
theorem xv_160 : xokT 160 xt_160 = true := xokT_of (by decide +kernel) xe_160_0
set_option maxRecDepth 100000 in
theorem xe_161_0 : xall xt_161_0 (xokE 161) = true := by decide +kernel
theorem xv_161 : xokT 161 xt_161 = true := xokT_of (by decide +kernel) xe_161_0
set_option maxRecDepth 100000 in
theorem xe_162_0 : xall xt_162_0 (xokE 162) = true := by decide +kernel
theorem xv_162 : xokT 162 xt_162 = true := xokT_of (by decide +kernel) xe_162_0
set_option maxRecDepth 100000 in
theorem xe_163_0 : xall xt_163_0 (xokE 163) = true := by decide +kernel
theorem xv_163 : xokT 163 xt_163 = true := xokT_of (by decide +kernel) xe_163_0
set_option maxRecDepth 100000 in
theorem xe_164_0 : xall xt_164_0 (xokE 164) = true := by decide +kernel
theorem xv_164 : xokT 164 xt_164 = true := xokT_of (by decide +kernel) xe_164_0
set_option maxRecDepth 100000 in
theorem xe_165_0 : xall xt_165_0 (xokE 165) = true := by decide +kernel
theorem xv_165 : xokT 165 xt_165 = true := xokT_of (by decide +kernel) xe_165_0
set_option maxRecDepth 100000 in
theorem xe_166_0 : xall xt_166_0 (xokE 166) = true := by decide +kernel
theorem xv_166 : xokT 166 xt_166 = true := xokT_of (by decide +kernel) xe_166_0
set_option maxRecDepth 100000 in
theorem xe_167_0 : xall xt_167_0 (xokE 167) = true := by decide +kernel
theorem xv_167 : xokT 167 xt_167 = true := xokT_of (by decide +kernel) xe_167_0
set_option maxRecDepth 100000 in
theorem xe_168_0 : xall xt_168_0 (xokE 168) = true := by decide +kernel
theorem xv_168 : xokT 168 xt_168 = true := xokT_of (by decide +kernel) xe_168_0
set_option maxRecDepth 100000 in
theorem xe_169_0 : xall xt_169_0 (xokE 169) = true := by decide +kernel
theorem xv_169 : xokT 169 xt_169 = true := xokT_of (by decide +kernel) xe_169_0
set_option maxRecDepth 100000 in
theorem xe_170_0 : xall xt_170_0 (xokE 170) = true := by decide +kernel
theorem xv_170 : xokT 170 xt_170 = true := xokT_of (by decide +kernel) xe_170_0
set_option maxRecDepth 100000 in
theorem xe_171_0 : xall xt_171_0 (xokE 171) = true := by decide +kernel
theorem xv_171 : xokT 171 xt_171 = true := xokT_of (by decide +kernel) xe_171_0
set_option maxRecDepth 100000 in
theorem xe_172_0 : xall xt_172_0 (xokE 172) = true := by decide +kernel
theorem xv_172 : xokT 172 xt_172 = true := xokT_of (by decide +kernel) xe_172_0
set_option maxRecDepth 100000 in
theorem xe_173_0 : xall xt_173_0 (xokE 173) = true := by decide +kernel
theorem xv_173 : xokT 173 xt_173 = true := xokT_of (by decide +kernel) xe_173_0
set_option maxRecDepth 100000 in
theorem xe_174_0 : xall xt_174_0 (xokE 174) = true := by decide +kernel
theorem xv_174 : xokT 174 xt_174 = true := xokT_of (by decide +kernel) xe_174_0
set_option maxRecDepth 100000 in
theorem xe_175_0 : xall xt_175_0 (xokE 175) = true := by decide +kernel
theorem xv_175 : xokT 175 xt_175 = true := xokT_of (by decide +kernel) xe_175_0
set_option maxRecDepth 100000 in
theorem xe_176_0 : xall xt_176_0 (xokE 176) = true := by decide +kernel
theorem xv_176 : xokT 176 xt_176 = true := xokT_of (by decide +kernel) xe_176_0
set_option maxRecDepth 100000 in
theorem xe_177_0 : xall xt_177_0 (xokE 177) = true := by decide +kernel
theorem xv_177 : xokT 177 xt_177 = true := xokT_of (by decide +kernel) xe_177_0
set_option maxRecDepth 100000 in
theorem xe_178_0 : xall xt_178_0 (xokE 178) = true := by decide +kernel
theorem xv_178 : xokT 178 xt_178 = true := xokT_of (by decide +kernel) xe_178_0
set_option maxRecDepth 100000 in
theorem xe_179_0 : xall xt_179_0 (xokE 179) = true := by decide +kernel
theorem xv_179 : xokT 179 xt_179 = true := xokT_of (by decide +kernel) xe_179_0
set_option maxRecDepth 100000 in
theorem xe_180_0 : xall xt_180_0 (xokE 180) = true := by decide +kernel
theorem xv_180 : xokT 180 xt_180 = true := xokT_of (by decide +kernel) xe_180_0
set_option maxRecDepth 100000 in
theorem xe_181_0 : xall xt_181_0 (xokE 181) = true := by decide +kernel
theorem xv_181 : xokT 181 xt_181 = true := xokT_of (by decide +kernel) xe_181_0
set_option maxRecDepth 100000 in
theorem xe_182_0 : xall xt_182_0 (xokE 182) = true := by decide +kernel
theorem xv_182 : xokT 182 xt_182 = true := xokT_of (by decide +kernel) xe_182_0
set_option maxRecDepth 100000 in
theorem xe_183_0 : xall xt_183_0 (xokE 183) = true := by decide +kernel
theorem xv_183 : xokT 183 xt_183 = true := xokT_of (by decide +kernel) xe_183_0
set_option maxRecDepth 100000 in
theorem xe_184_0 : xall xt_184_0 (xokE 184) = true := by decide +kernel
theorem xv_184 : xokT 184 xt_184 = true := xokT_of (by decide +kernel) xe_184_0
set_option maxRecDepth 100000 in
theorem xe_185_0 : xall xt_185_0 (xokE 185) = true := by decide +kernel
theorem xv_185 : xokT 185 xt_185 = true := xokT_of (by decide +kernel) xe_185_0
set_option maxRecDepth 100000 in
theorem xe_186_0 : xall xt_186_0 (xokE 186) = true := by decide +kernel
theorem xv_186 : xokT 186 xt_186 = true := xokT_of (by decide +kernel) xe_186_0
set_option maxRecDepth 100000 in
theorem xe_187_0 : xall xt_187_0 (xokE 187) = true := by decide +kernel
theorem xv_187 : xokT 187 xt_187 = true := xokT_of (by decide +kernel) xe_187_0
set_option maxRecDepth 100000 in
theorem xcode_ok : xall xcode xokT = true := (xal_b (xal_b (xal_b (xal_b (xal_b (xal_b (xal_b xv_0 xv_1) (xal_b xv_2 (xal_b xv_3 xv_4))) (xal_b (xal_b xv_5 (xal_b xv_6 xv_7)) (xal_b xv_8 (xal_b xv_9 xv_10)))) (xal_b (xal_b (xal_b xv_11 (xal_b xv_12 xv_13)) (xal_b xv_14 (xal_b xv_15 xv_16))) (xal_b (xal_b xv_17 (xal_b xv_18 xv_19)) (xal_b xv_20 (xal_b xv_21 xv_22))))) (xal_b (xal_b (xal_b (xal_b xv_23 (xal_b xv_24 xv_25)) (xal_b xv_26 (xal_b xv_27 xv_28))) (xal_b (xal_b xv_29 (xal_b xv_30 xv_31)) (xal_b xv_32 (xal_b xv_33 xv_34)))) (xal_b (xal_b (xal_b xv_35 (xal_b xv_36 xv_37)) (xal_b xv_38 (xal_b xv_39 xv_40))) (xal_b (xal_b xv_41 (xal_b xv_42 xv_43)) (xal_b xv_44 (xal_b xv_45 xv_46)))))) (xal_b (xal_b (xal_b (xal_b (xal_b xv_47 xv_48) (xal_b xv_49 (xal_b xv_50 xv_51))) (xal_b (xal_b xv_52 (xal_b xv_53 xv_54)) (xal_b xv_55 (xal_b xv_56 xv_57)))) (xal_b (xal_b (xal_b xv_58 (xal_b xv_59 xv_60)) (xal_b xv_61 (xal_b xv_62 xv_63))) (xal_b (xal_b xv_64 (xal_b xv_65 xv_66)) (xal_b xv_67 (xal_b xv_68 xv_69))))) (xal_b (xal_b (xal_b (xal_b xv_70 (xal_b xv_71 xv_72)) (xal_b xv_73 (xal_b xv_74 xv_75))) (xal_b (xal_b xv_76 (xal_b xv_77 xv_78)) (xal_b xv_79 (xal_b xv_80 xv_81)))) (xal_b (xal_b (xal_b xv_82 (xal_b xv_83 xv_84)) (xal_b xv_85 (xal_b xv_86 xv_87))) (xal_b (xal_b xv_88 (xal_b xv_89 xv_90)) (xal_b xv_91 (xal_b xv_92 xv_93))))))) (xal_b (xal_b (xal_b (xal_b (xal_b (xal_b xv_94 xv_95) (xal_b xv_96 (xal_b xv_97 xv_98))) (xal_b (xal_b xv_99 (xal_b xv_100 xv_101)) (xal_b xv_102 (xal_b xv_103 xv_104)))) (xal_b (xal_b (xal_b xv_105 (xal_b xv_106 xv_107)) (xal_b xv_108 (xal_b xv_109 xv_110))) (xal_b (xal_b xv_111 (xal_b xv_112 xv_113)) (xal_b xv_114 (xal_b xv_115 xv_116))))) (xal_b (xal_b (xal_b (xal_b xv_117 (xal_b xv_118 xv_119)) (xal_b xv_120 (xal_b xv_121 xv_122))) (xal_b (xal_b xv_123 (xal_b xv_124 xv_125)) (xal_b xv_126 (xal_b xv_127 xv_128)))) (xal_b (xal_b (xal_b xv_129 (xal_b xv_130 xv_131)) (xal_b xv_132 (xal_b xv_133 xv_134))) (xal_b (xal_b xv_135 (xal_b xv_136 xv_137)) (xal_b xv_138 (xal_b xv_139 xv_140)))))) (xal_b (xal_b (xal_b (xal_b (xal_b xv_141 xv_142) (xal_b xv_143 (xal_b xv_144 xv_145))) (xal_b (xal_b xv_146 (xal_b xv_147 xv_148)) (xal_b xv_149 (xal_b xv_150 xv_151)))) (xal_b (xal_b (xal_b xv_152 (xal_b xv_153 xv_154)) (xal_b xv_155 (xal_b xv_156 xv_157))) (xal_b (xal_b xv_158 (xal_b xv_159 xv_160)) (xal_b xv_161 (xal_b xv_162 xv_163))))) (xal_b (xal_b (xal_b (xal_b xv_164 (xal_b xv_165 xv_166)) (xal_b xv_167 (xal_b xv_168 xv_169))) (xal_b (xal_b xv_170 (xal_b xv_171 xv_172)) (xal_b xv_173 (xal_b xv_174 xv_175)))) (xal_b (xal_b (xal_b xv_176 (xal_b xv_177 xv_178)) (xal_b xv_179 (xal_b xv_180 xv_181))) (xal_b (xal_b xv_182 (xal_b xv_183 xv_184)) (xal_b xv_185 (xal_b xv_186 xv_187))))))))
theorem xTab : xOK vwCl xnest xtxt xovr xcode xmeth xobj xby xnm xrtt xgw := xOK_of xcode_ok
