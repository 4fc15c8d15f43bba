/-! Each row of the code, checked by computing -/
theorem xokT_of {y : Nat} {t : Lean.RArray (Nat × xins)} (h1 : decide ((xnm y).cls = xcn (xon y)) = true) (h2 : xall t (xokE y) = true) : xokT y t = true := by
  unfold xokT
  rw [h1, h2]; rfl
set_option maxRecDepth 100000 in
theorem xe_0_0 : xall xt_0_0 (xokE 0) = true := by decide +kernel
set_option maxRecDepth 100000 in
theorem xe_0_372 : xall xt_0_372 (xokE 0) = true := by decide +kernel
set_option maxRecDepth 100000 in
theorem xe_0_484 : xall xt_0_484 (xokE 0) = true := by decide +kernel
set_option maxRecDepth 100000 in
theorem xe_0_590 : xall xt_0_590 (xokE 0) = true := by decide +kernel
set_option maxRecDepth 100000 in
theorem xe_0_714 : xall xt_0_714 (xokE 0) = true := by decide +kernel
set_option maxRecDepth 100000 in
theorem xe_0_832 : xall xt_0_832 (xokE 0) = true := by decide +kernel
set_option maxRecDepth 100000 in
theorem xe_0_940 : xall xt_0_940 (xokE 0) = true := by decide +kernel
set_option maxRecDepth 100000 in
theorem xe_0_1046 : xall xt_0_1046 (xokE 0) = true := by decide +kernel
set_option maxRecDepth 100000 in
theorem xe_0_1152 : xall xt_0_1152 (xokE 0) = true := by decide +kernel
set_option maxRecDepth 100000 in
theorem xe_0_1268 : xall xt_0_1268 (xokE 0) = true := by decide +kernel
set_option maxRecDepth 100000 in
theorem xe_0_1382 : xall xt_0_1382 (xokE 0) = true := by decide +kernel
set_option maxRecDepth 100000 in
theorem xe_0_1506 : xall xt_0_1506 (xokE 0) = true := by decide +kernel
set_option maxRecDepth 100000 in
theorem xe_0_1632 : xall xt_0_1632 (xokE 0) = true := by decide +kernel
set_option maxRecDepth 100000 in
theorem xe_0_1746 : xall xt_0_1746 (xokE 0) = true := by decide +kernel
set_option maxRecDepth 100000 in
theorem xe_0_1870 : xall xt_0_1870 (xokE 0) = true := by decide +kernel
set_option maxRecDepth 100000 in
theorem xe_0_1992 : xall xt_0_1992 (xokE 0) = true := by decide +kernel
theorem xv_0 : xokT 0 xt_0 = true := xokT_of (by decide +kernel) (xal_b (xal_b (xal_b (xal_b xe_0_0 xe_0_372) (xal_b xe_0_484 xe_0_590)) (xal_b (xal_b xe_0_714 xe_0_832) (xal_b xe_0_940 xe_0_1046))) (xal_b (xal_b (xal_b xe_0_1152 xe_0_1268) (xal_b xe_0_1382 xe_0_1506)) (xal_b (xal_b xe_0_1632 xe_0_1746) (xal_b xe_0_1870 xe_0_1992))))
set_option maxRecDepth 100000 in
theorem xe_1_0 : xall xt_1_0 (xokE 1) = true := by decide +kernel
set_option maxRecDepth 100000 in
theorem xe_1_133 : xall xt_1_133 (xokE 1) = true := by decide +kernel
theorem xv_1 : xokT 1 xt_1 = true := xokT_of (by decide +kernel) (xal_b xe_1_0 xe_1_133)
set_option maxRecDepth 100000 in
theorem xe_2_0 : xall xt_2_0 (xokE 2) = true := by decide +kernel
theorem xv_2 : xokT 2 xt_2 = true := xokT_of (by decide +kernel) xe_2_0
set_option maxRecDepth 100000 in
theorem xe_3_0 : xall xt_3_0 (xokE 3) = true := by decide +kernel
theorem xv_3 : xokT 3 xt_3 = true := xokT_of (by decide +kernel) xe_3_0
set_option maxRecDepth 100000 in
theorem xe_4_0 : xall xt_4_0 (xokE 4) = true := by decide +kernel
theorem xv_4 : xokT 4 xt_4 = true := xokT_of (by decide +kernel) xe_4_0
set_option maxRecDepth 100000 in
theorem xe_5_0 : xall xt_5_0 (xokE 5) = true := by decide +kernel
theorem xv_5 : xokT 5 xt_5 = true := xokT_of (by decide +kernel) xe_5_0
set_option maxRecDepth 100000 in
theorem xe_6_0 : xall xt_6_0 (xokE 6) = true := by decide +kernel
theorem xv_6 : xokT 6 xt_6 = true := xokT_of (by decide +kernel) xe_6_0
set_option maxRecDepth 100000 in
theorem xe_7_0 : xall xt_7_0 (xokE 7) = true := by decide +kernel
theorem xv_7 : xokT 7 xt_7 = true := xokT_of (by decide +kernel) xe_7_0
set_option maxRecDepth 100000 in
theorem xe_8_0 : xall xt_8_0 (xokE 8) = true := by decide +kernel
theorem xv_8 : xokT 8 xt_8 = true := xokT_of (by decide +kernel) xe_8_0
set_option maxRecDepth 100000 in
theorem xe_9_0 : xall xt_9_0 (xokE 9) = true := by decide +kernel
theorem xv_9 : xokT 9 xt_9 = true := xokT_of (by decide +kernel) xe_9_0
set_option maxRecDepth 100000 in
theorem xe_10_0 : xall xt_10_0 (xokE 10) = true := by decide +kernel
theorem xv_10 : xokT 10 xt_10 = true := xokT_of (by decide +kernel) xe_10_0
set_option maxRecDepth 100000 in
theorem xe_11_0 : xall xt_11_0 (xokE 11) = true := by decide +kernel
theorem xv_11 : xokT 11 xt_11 = true := xokT_of (by decide +kernel) xe_11_0
set_option maxRecDepth 100000 in
theorem xe_12_0 : xall xt_12_0 (xokE 12) = true := by decide +kernel
theorem xv_12 : xokT 12 xt_12 = true := xokT_of (by decide +kernel) xe_12_0
set_option maxRecDepth 100000 in
theorem xe_13_0 : xall xt_13_0 (xokE 13) = true := by decide +kernel
theorem xv_13 : xokT 13 xt_13 = true := xokT_of (by decide +kernel) xe_13_0
set_option maxRecDepth 100000 in
theorem xe_14_0 : xall xt_14_0 (xokE 14) = true := by decide +kernel
theorem xv_14 : xokT 14 xt_14 = true := xokT_of (by decide +kernel) xe_14_0
set_option maxRecDepth 100000 in
theorem xe_15_0 : xall xt_15_0 (xokE 15) = true := by decide +kernel
theorem xv_15 : xokT 15 xt_15 = true := xokT_of (by decide +kernel) xe_15_0
set_option maxRecDepth 100000 in
theorem xe_16_0 : xall xt_16_0 (xokE 16) = true := by decide +kernel
theorem xv_16 : xokT 16 xt_16 = true := xokT_of (by decide +kernel) xe_16_0
set_option maxRecDepth 100000 in
theorem xe_17_0 : xall xt_17_0 (xokE 17) = true := by decide +kernel
theorem xv_17 : xokT 17 xt_17 = true := xokT_of (by decide +kernel) xe_17_0
set_option maxRecDepth 100000 in
theorem xe_18_0 : xall xt_18_0 (xokE 18) = true := by decide +kernel
theorem xv_18 : xokT 18 xt_18 = true := xokT_of (by decide +kernel) xe_18_0
set_option maxRecDepth 100000 in
theorem xe_19_0 : xall xt_19_0 (xokE 19) = true := by decide +kernel
theorem xv_19 : xokT 19 xt_19 = true := xokT_of (by decide +kernel) xe_19_0
set_option maxRecDepth 100000 in
theorem xe_20_0 : xall xt_20_0 (xokE 20) = true := by decide +kernel
theorem xv_20 : xokT 20 xt_20 = true := xokT_of (by decide +kernel) xe_20_0
set_option maxRecDepth 100000 in
theorem xe_21_0 : xall xt_21_0 (xokE 21) = true := by decide +kernel
theorem xv_21 : xokT 21 xt_21 = true := xokT_of (by decide +kernel) xe_21_0
set_option maxRecDepth 100000 in
theorem xe_22_0 : xall xt_22_0 (xokE 22) = true := by decide +kernel
theorem xv_22 : xokT 22 xt_22 = true := xokT_of (by decide +kernel) xe_22_0
set_option maxRecDepth 100000 in
theorem xe_23_0 : xall xt_23_0 (xokE 23) = true := by decide +kernel
theorem xv_23 : xokT 23 xt_23 = true := xokT_of (by decide +kernel) xe_23_0
set_option maxRecDepth 100000 in
theorem xe_24_0 : xall xt_24_0 (xokE 24) = true := by decide +kernel
theorem xv_24 : xokT 24 xt_24 = true := xokT_of (by decide +kernel) xe_24_0
set_option maxRecDepth 100000 in
theorem xe_25_0 : xall xt_25_0 (xokE 25) = true := by decide +kernel
theorem xv_25 : xokT 25 xt_25 = true := xokT_of (by decide +kernel) xe_25_0
set_option maxRecDepth 100000 in
theorem xe_26_0 : xall xt_26_0 (xokE 26) = true := by decide +kernel
theorem xv_26 : xokT 26 xt_26 = true := xokT_of (by decide +kernel) xe_26_0
set_option maxRecDepth 100000 in
theorem xe_27_0 : xall xt_27_0 (xokE 27) = true := by decide +kernel
theorem xv_27 : xokT 27 xt_27 = true := xokT_of (by decide +kernel) xe_27_0
set_option maxRecDepth 100000 in
theorem xe_28_0 : xall xt_28_0 (xokE 28) = true := by decide +kernel
theorem xv_28 : xokT 28 xt_28 = true := xokT_of (by decide +kernel) xe_28_0
set_option maxRecDepth 100000 in
theorem xe_29_0 : xall xt_29_0 (xokE 29) = true := by decide +kernel
theorem xv_29 : xokT 29 xt_29 = true := xokT_of (by decide +kernel) xe_29_0
set_option maxRecDepth 100000 in
theorem xe_30_0 : xall xt_30_0 (xokE 30) = true := by decide +kernel
theorem xv_30 : xokT 30 xt_30 = true := xokT_of (by decide +kernel) xe_30_0
set_option maxRecDepth 100000 in
theorem xe_31_0 : xall xt_31_0 (xokE 31) = true := by decide +kernel
theorem xv_31 : xokT 31 xt_31 = true := xokT_of (by decide +kernel) xe_31_0
set_option maxRecDepth 100000 in
theorem xe_32_0 : xall xt_32_0 (xokE 32) = true := by decide +kernel
theorem xv_32 : xokT 32 xt_32 = true := xokT_of (by decide +kernel) xe_32_0
set_option maxRecDepth 100000 in
theorem xe_33_0 : xall xt_33_0 (xokE 33) = true := by decide +kernel
theorem xv_33 : xokT 33 xt_33 = true := xokT_of (by decide +kernel) xe_33_0
set_option maxRecDepth 100000 in
theorem xe_34_0 : xall xt_34_0 (xokE 34) = true := by decide +kernel
theorem xv_34 : xokT 34 xt_34 = true := xokT_of (by decide +kernel) xe_34_0
set_option maxRecDepth 100000 in
theorem xe_35_0 : xall xt_35_0 (xokE 35) = true := by decide +kernel
theorem xv_35 : xokT 35 xt_35 = true := xokT_of (by decide +kernel) xe_35_0
set_option maxRecDepth 100000 in
theorem xe_36_0 : xall xt_36_0 (xokE 36) = true := by decide +kernel
theorem xv_36 : xokT 36 xt_36 = true := xokT_of (by decide +kernel) xe_36_0
set_option maxRecDepth 100000 in
theorem xe_37_0 : xall xt_37_0 (xokE 37) = true := by decide +kernel
set_option maxRecDepth 100000 in
theorem xe_37_128 : xall xt_37_128 (xokE 37) = true := by decide +kernel
set_option maxRecDepth 100000 in
theorem xe_37_256 : xall xt_37_256 (xokE 37) = true := by decide +kernel
set_option maxRecDepth 100000 in
theorem xe_37_384 : xall xt_37_384 (xokE 37) = true := by decide +kernel
theorem xv_37 : xokT 37 xt_37 = true := xokT_of (by decide +kernel) (xal_b (xal_b xe_37_0 xe_37_128) (xal_b xe_37_256 xe_37_384))
set_option maxRecDepth 100000 in
theorem xe_38_0 : xall xt_38_0 (xokE 38) = true := by decide +kernel
theorem xv_38 : xokT 38 xt_38 = true := xokT_of (by decide +kernel) xe_38_0
set_option maxRecDepth 100000 in
theorem xe_39_0 : xall xt_39_0 (xokE 39) = true := by decide +kernel
theorem xv_39 : xokT 39 xt_39 = true := xokT_of (by decide +kernel) xe_39_0
set_option maxRecDepth 100000 in
theorem xe_40_0 : xall xt_40_0 (xokE 40) = true := by decide +kernel
theorem xv_40 : xokT 40 xt_40 = true := xokT_of (by decide +kernel) xe_40_0
set_option maxRecDepth 100000 in
theorem xe_41_0 : xall xt_41_0 (xokE 41) = true := by decide +kernel
theorem xv_41 : xokT 41 xt_41 = true := xokT_of (by decide +kernel) xe_41_0
set_option maxRecDepth 100000 in
theorem xe_42_0 : xall xt_42_0 (xokE 42) = true := by decide +kernel
theorem xv_42 : xokT 42 xt_42 = true := xokT_of (by decide +kernel) xe_42_0
set_option maxRecDepth 100000 in
theorem xe_43_0 : xall xt_43_0 (xokE 43) = true := by decide +kernel
theorem xv_43 : xokT 43 xt_43 = true := xokT_of (by decide +kernel) xe_43_0
set_option maxRecDepth 100000 in
theorem xe_44_0 : xall xt_44_0 (xokE 44) = true := by decide +kernel
theorem xv_44 : xokT 44 xt_44 = true := xokT_of (by decide +kernel) xe_44_0
set_option maxRecDepth 100000 in
theorem xe_45_0 : xall xt_45_0 (xokE 45) = true := by decide +kernel
theorem xv_45 : xokT 45 xt_45 = true := xokT_of (by decide +kernel) xe_45_0
set_option maxRecDepth 100000 in
theorem xe_46_0 : xall xt_46_0 (xokE 46) = true := by decide +kernel
theorem xv_46 : xokT 46 xt_46 = true := xokT_of (by decide +kernel) xe_46_0
set_option maxRecDepth 100000 in
theorem xe_47_0 : xall xt_47_0 (xokE 47) = true := by decide +kernel
theorem xv_47 : xokT 47 xt_47 = true := xokT_of (by decide +kernel) xe_47_0
set_option maxRecDepth 100000 in
theorem xe_48_0 : xall xt_48_0 (xokE 48) = true := by decide +kernel
theorem xv_48 : xokT 48 xt_48 = true := xokT_of (by decide +kernel) xe_48_0
set_option maxRecDepth 100000 in
theorem xe_49_0 : xall xt_49_0 (xokE 49) = true := by decide +kernel
theorem xv_49 : xokT 49 xt_49 = true := xokT_of (by decide +kernel) xe_49_0
set_option maxRecDepth 100000 in
theorem xe_50_0 : xall xt_50_0 (xokE 50) = true := by decide +kernel
theorem xv_50 : xokT 50 xt_50 = true := xokT_of (by decide +kernel) xe_50_0
set_option maxRecDepth 100000 in
theorem xe_51_0 : xall xt_51_0 (xokE 51) = true := by decide +kernel
theorem xv_51 : xokT 51 xt_51 = true := xokT_of (by decide +kernel) xe_51_0
set_option maxRecDepth 100000 in
theorem xe_52_0 : xall xt_52_0 (xokE 52) = true := by decide +kernel
theorem xv_52 : xokT 52 xt_52 = true := xokT_of (by decide +kernel) xe_52_0
set_option maxRecDepth 100000 in
theorem xe_53_0 : xall xt_53_0 (xokE 53) = true := by decide +kernel
theorem xv_53 : xokT 53 xt_53 = true := xokT_of (by decide +kernel) xe_53_0
set_option maxRecDepth 100000 in
theorem xe_54_0 : xall xt_54_0 (xokE 54) = true := by decide +kernel
theorem xv_54 : xokT 54 xt_54 = true := xokT_of (by decide +kernel) xe_54_0
set_option maxRecDepth 100000 in
theorem xe_55_0 : xall xt_55_0 (xokE 55) = true := by decide +kernel
theorem xv_55 : xokT 55 xt_55 = true := xokT_of (by decide +kernel) xe_55_0
set_option maxRecDepth 100000 in
theorem xe_56_0 : xall xt_56_0 (xokE 56) = true := by decide +kernel
theorem xv_56 : xokT 56 xt_56 = true := xokT_of (by decide +kernel) xe_56_0
set_option maxRecDepth 100000 in
theorem xe_57_0 : xall xt_57_0 (xokE 57) = true := by decide +kernel
theorem xv_57 : xokT 57 xt_57 = true := xokT_of (by decide +kernel) xe_57_0
set_option maxRecDepth 100000 in
theorem xe_58_0 : xall xt_58_0 (xokE 58) = true := by decide +kernel
theorem xv_58 : xokT 58 xt_58 = true := xokT_of (by decide +kernel) xe_58_0
set_option maxRecDepth 100000 in
theorem xe_59_0 : xall xt_59_0 (xokE 59) = true := by decide +kernel
theorem xv_59 : xokT 59 xt_59 = true := xokT_of (by decide +kernel) xe_59_0
set_option maxRecDepth 100000 in
theorem xe_60_0 : xall xt_60_0 (xokE 60) = true := by decide +kernel
theorem xv_60 : xokT 60 xt_60 = true := xokT_of (by decide +kernel) xe_60_0
set_option maxRecDepth 100000 in
theorem xe_61_0 : xall xt_61_0 (xokE 61) = true := by decide +kernel
theorem xv_61 : xokT 61 xt_61 = true := xokT_of (by decide +kernel) xe_61_0
set_option maxRecDepth 100000 in
theorem xe_62_0 : xall xt_62_0 (xokE 62) = true := by decide +kernel
theorem xv_62 : xokT 62 xt_62 = true := xokT_of (by decide +kernel) xe_62_0
set_option maxRecDepth 100000 in
theorem xe_63_0 : xall xt_63_0 (xokE 63) = true := by decide +kernel
theorem xv_63 : xokT 63 xt_63 = true := xokT_of (by decide +kernel) xe_63_0
set_option maxRecDepth 100000 in
theorem xe_64_0 : xall xt_64_0 (xokE 64) = true := by decide +kernel
theorem xv_64 : xokT 64 xt_64 = true := xokT_of (by decide +kernel) xe_64_0
set_option maxRecDepth 100000 in
theorem xe_65_0 : xall xt_65_0 (xokE 65) = true := by decide +kernel
theorem xv_65 : xokT 65 xt_65 = true := xokT_of (by decide +kernel) xe_65_0
set_option maxRecDepth 100000 in
theorem xe_66_0 : xall xt_66_0 (xokE 66) = true := by decide +kernel
theorem xv_66 : xokT 66 xt_66 = true := xokT_of (by decide +kernel) xe_66_0
set_option maxRecDepth 100000 in
theorem xe_67_0 : xall xt_67_0 (xokE 67) = true := by decide +kernel
set_option maxRecDepth 100000 in
theorem xe_67_204 : xall xt_67_204 (xokE 67) = true := by decide +kernel
theorem xv_67 : xokT 67 xt_67 = true := xokT_of (by decide +kernel) (xal_b xe_67_0 xe_67_204)
set_option maxRecDepth 100000 in
theorem xe_68_0 : xall xt_68_0 (xokE 68) = true := by decide +kernel
theorem xv_68 : xokT 68 xt_68 = true := xokT_of (by decide +kernel) xe_68_0
set_option maxRecDepth 100000 in
theorem xe_69_0 : xall xt_69_0 (xokE 69) = true := by decide +kernel
theorem xv_69 : xokT 69 xt_69 = true := xokT_of (by decide +kernel) xe_69_0
set_option maxRecDepth 100000 in
theorem xe_70_0 : xall xt_70_0 (xokE 70) = true := by decide +kernel
theorem xv_70 : xokT 70 xt_70 = true := xokT_of (by decide +kernel) xe_70_0
set_option maxRecDepth 100000 in
theorem xe_71_0 : xall xt_71_0 (xokE 71) = true := by decide +kernel
theorem xv_71 : xokT 71 xt_71 = true := xokT_of (by decide +kernel) xe_71_0
set_option maxRecDepth 100000 in
theorem xe_72_0 : xall xt_72_0 (xokE 72) = true := by decide +kernel
theorem xv_72 : xokT 72 xt_72 = true := xokT_of (by decide +kernel) xe_72_0
set_option maxRecDepth 100000 in
theorem xe_73_0 : xall xt_73_0 (xokE 73) = true := by decide +kernel
theorem xv_73 : xokT 73 xt_73 = true := xokT_of (by decide +kernel) xe_73_0
set_option maxRecDepth 100000 in
theorem xe_74_0 : xall xt_74_0 (xokE 74) = true := by decide +kernel
theorem xv_74 : xokT 74 xt_74 = true := xokT_of (by decide +kernel) xe_74_0
set_option maxRecDepth 100000 in
theorem xe_75_0 : xall xt_75_0 (xokE 75) = true := by decide +kernel
theorem xv_75 : xokT 75 xt_75 = true := xokT_of (by decide +kernel) xe_75_0
set_option maxRecDepth 100000 in
theorem xe_76_0 : xall xt_76_0 (xokE 76) = true := by decide +kernel
theorem xv_76 : xokT 76 xt_76 = true := xokT_of (by decide +kernel) xe_76_0
set_option maxRecDepth 100000 in
theorem xe_77_0 : xall xt_77_0 (xokE 77) = true := by decide +kernel
theorem xv_77 : xokT 77 xt_77 = true := xokT_of (by decide +kernel) xe_77_0
set_option maxRecDepth 100000 in
theorem xe_78_0 : xall xt_78_0 (xokE 78) = true := by decide +kernel
theorem xv_78 : xokT 78 xt_78 = true := xokT_of (by decide +kernel) xe_78_0
set_option maxRecDepth 100000 in
theorem xe_79_0 : xall xt_79_0 (xokE 79) = true := by decide +kernel
theorem xv_79 : xokT 79 xt_79 = true := xokT_of (by decide +kernel) xe_79_0
set_option maxRecDepth 100000 in
theorem xe_80_0 : xall xt_80_0 (xokE 80) = true := by decide +kernel
theorem xv_80 : xokT 80 xt_80 = true := xokT_of (by decide +kernel) xe_80_0
set_option maxRecDepth 100000 in
theorem xe_81_0 : xall xt_81_0 (xokE 81) = true := by decide +kernel
theorem xv_81 : xokT 81 xt_81 = true := xokT_of (by decide +kernel) xe_81_0
set_option maxRecDepth 100000 in
theorem xe_82_0 : xall xt_82_0 (xokE 82) = true := by decide +kernel
theorem xv_82 : xokT 82 xt_82 = true := xokT_of (by decide +kernel) xe_82_0
set_option maxRecDepth 100000 in
theorem xe_83_0 : xall xt_83_0 (xokE 83) = true := by decide +kernel
theorem xv_83 : xokT 83 xt_83 = true := xokT_of (by decide +kernel) xe_83_0
set_option maxRecDepth 100000 in
theorem xe_84_0 : xall xt_84_0 (xokE 84) = true := by decide +kernel
theorem xv_84 : xokT 84 xt_84 = true := xokT_of (by decide +kernel) xe_84_0
set_option maxRecDepth 100000 in
theorem xe_85_0 : xall xt_85_0 (xokE 85) = true := by decide +kernel
theorem xv_85 : xokT 85 xt_85 = true := xokT_of (by decide +kernel) xe_85_0
set_option maxRecDepth 100000 in
theorem xe_86_0 : xall xt_86_0 (xokE 86) = true := by decide +kernel
theorem xv_86 : xokT 86 xt_86 = true := xokT_of (by decide +kernel) xe_86_0
set_option maxRecDepth 100000 in
theorem xe_87_0 : xall xt_87_0 (xokE 87) = true := by decide +kernel
theorem xv_87 : xokT 87 xt_87 = true := xokT_of (by decide +kernel) xe_87_0
set_option maxRecDepth 100000 in
theorem xe_88_0 : xall xt_88_0 (xokE 88) = true := by decide +kernel
theorem xv_88 : xokT 88 xt_88 = true := xokT_of (by decide +kernel) xe_88_0
set_option maxRecDepth 100000 in
theorem xe_89_0 : xall xt_89_0 (xokE 89) = true := by decide +kernel
theorem xv_89 : xokT 89 xt_89 = true := xokT_of (by decide +kernel) xe_89_0
set_option maxRecDepth 100000 in
theorem xe_90_0 : xall xt_90_0 (xokE 90) = true := by decide +kernel
theorem xv_90 : xokT 90 xt_90 = true := xokT_of (by decide +kernel) xe_90_0
set_option maxRecDepth 100000 in
theorem xe_91_0 : xall xt_91_0 (xokE 91) = true := by decide +kernel
set_option maxRecDepth 100000 in
theorem xe_91_123 : xall xt_91_123 (xokE 91) = true := by decide +kernel
theorem xv_91 : xokT 91 xt_91 = true := xokT_of (by decide +kernel) (xal_b xe_91_0 xe_91_123)
set_option maxRecDepth 100000 in
theorem xe_92_0 : xall xt_92_0 (xokE 92) = true := by decide +kernel
theorem xv_92 : xokT 92 xt_92 = true := xokT_of (by decide +kernel) xe_92_0
set_option maxRecDepth 100000 in
theorem xe_93_0 : xall xt_93_0 (xokE 93) = true := by decide +kernel
theorem xv_93 : xokT 93 xt_93 = true := xokT_of (by decide +kernel) xe_93_0
set_option maxRecDepth 100000 in
theorem xe_94_0 : xall xt_94_0 (xokE 94) = true := by decide +kernel
theorem xv_94 : xokT 94 xt_94 = true := xokT_of (by decide +kernel) xe_94_0
set_option maxRecDepth 100000 in
theorem xe_95_0 : xall xt_95_0 (xokE 95) = true := by decide +kernel
theorem xv_95 : xokT 95 xt_95 = true := xokT_of (by decide +kernel) xe_95_0
set_option maxRecDepth 100000 in
theorem xe_96_0 : xall xt_96_0 (xokE 96) = true := by decide +kernel
theorem xv_96 : xokT 96 xt_96 = true := xokT_of (by decide +kernel) xe_96_0
set_option maxRecDepth 100000 in
theorem xe_97_0 : xall xt_97_0 (xokE 97) = true := by decide +kernel
theorem xv_97 : xokT 97 xt_97 = true := xokT_of (by decide +kernel) xe_97_0
set_option maxRecDepth 100000 in
theorem xe_98_0 : xall xt_98_0 (xokE 98) = true := by decide +kernel
theorem xv_98 : xokT 98 xt_98 = true := xokT_of (by decide +kernel) xe_98_0
set_option maxRecDepth 100000 in
theorem xe_99_0 : xall xt_99_0 (xokE 99) = true := by decide +kernel
theorem xv_99 : xokT 99 xt_99 = true := xokT_of (by decide +kernel) xe_99_0
set_option maxRecDepth 100000 in
theorem xe_100_0 : xall xt_100_0 (xokE 100) = true := by decide +kernel
set_option maxRecDepth 100000 in
theorem xe_100_101 : xall xt_100_101 (xokE 100) = true := by decide +kernel
theorem xv_100 : xokT 100 xt_100 = true := xokT_of (by decide +kernel) (xal_b xe_100_0 xe_100_101)
set_option maxRecDepth 100000 in
theorem xe_101_0 : xall xt_101_0 (xokE 101) = true := by decide +kernel
theorem xv_101 : xokT 101 xt_101 = true := xokT_of (by decide +kernel) xe_101_0
set_option maxRecDepth 100000 in
theorem xe_102_0 : xall xt_102_0 (xokE 102) = true := by decide +kernel
theorem xv_102 : xokT 102 xt_102 = true := xokT_of (by decide +kernel) xe_102_0
set_option maxRecDepth 100000 in
theorem xe_103_0 : xall xt_103_0 (xokE 103) = true := by decide +kernel
theorem xv_103 : xokT 103 xt_103 = true := xokT_of (by decide +kernel) xe_103_0
set_option maxRecDepth 100000 in
theorem xe_104_0 : xall xt_104_0 (xokE 104) = true := by decide +kernel
theorem xv_104 : xokT 104 xt_104 = true := xokT_of (by decide +kernel) xe_104_0
set_option maxRecDepth 100000 in
theorem xe_105_0 : xall xt_105_0 (xokE 105) = true := by decide +kernel
theorem xv_105 : xokT 105 xt_105 = true := xokT_of (by decide +kernel) xe_105_0
set_option maxRecDepth 100000 in
theorem xe_106_0 : xall xt_106_0 (xokE 106) = true := by decide +kernel
theorem xv_106 : xokT 106 xt_106 = true := xokT_of (by decide +kernel) xe_106_0
set_option maxRecDepth 100000 in
theorem xe_107_0 : xall xt_107_0 (xokE 107) = true := by decide +kernel
theorem xv_107 : xokT 107 xt_107 = true := xokT_of (by decide +kernel) xe_107_0
set_option maxRecDepth 100000 in
theorem xe_108_0 : xall xt_108_0 (xokE 108) = true := by decide +kernel
theorem xv_108 : xokT 108 xt_108 = true := xokT_of (by decide +kernel) xe_108_0
set_option maxRecDepth 100000 in
theorem xe_109_0 : xall xt_109_0 (xokE 109) = true := by decide +kernel
theorem xv_109 : xokT 109 xt_109 = true := xokT_of (by decide +kernel) xe_109_0
set_option maxRecDepth 100000 in
theorem xe_110_0 : xall xt_110_0 (xokE 110) = true := by decide +kernel
theorem xv_110 : xokT 110 xt_110 = true := xokT_of (by decide +kernel) xe_110_0
set_option maxRecDepth 100000 in
theorem xe_111_0 : xall xt_111_0 (xokE 111) = true := by decide +kernel
theorem xv_111 : xokT 111 xt_111 = true := xokT_of (by decide +kernel) xe_111_0
set_option maxRecDepth 100000 in
theorem xe_112_0 : xall xt_112_0 (xokE 112) = true := by decide +kernel
theorem xv_112 : xokT 112 xt_112 = true := xokT_of (by decide +kernel) xe_112_0
set_option maxRecDepth 100000 in
theorem xe_113_0 : xall xt_113_0 (xokE 113) = true := by decide +kernel
theorem xv_113 : xokT 113 xt_113 = true := xokT_of (by decide +kernel) xe_113_0
set_option maxRecDepth 100000 in
theorem xe_114_0 : xall xt_114_0 (xokE 114) = true := by decide +kernel
theorem xv_114 : xokT 114 xt_114 = true := xokT_of (by decide +kernel) xe_114_0
set_option maxRecDepth 100000 in
theorem xe_115_0 : xall xt_115_0 (xokE 115) = true := by decide +kernel
theorem xv_115 : xokT 115 xt_115 = true := xokT_of (by decide +kernel) xe_115_0
set_option maxRecDepth 100000 in
theorem xe_116_0 : xall xt_116_0 (xokE 116) = true := by decide +kernel
theorem xv_116 : xokT 116 xt_116 = true := xokT_of (by decide +kernel) xe_116_0
set_option maxRecDepth 100000 in
theorem xe_117_0 : xall xt_117_0 (xokE 117) = true := by decide +kernel
theorem xv_117 : xokT 117 xt_117 = true := xokT_of (by decide +kernel) xe_117_0
set_option maxRecDepth 100000 in
theorem xe_118_0 : xall xt_118_0 (xokE 118) = true := by decide +kernel
theorem xv_118 : xokT 118 xt_118 = true := xokT_of (by decide +kernel) xe_118_0
set_option maxRecDepth 100000 in
theorem xe_119_0 : xall xt_119_0 (xokE 119) = true := by decide +kernel
theorem xv_119 : xokT 119 xt_119 = true := xokT_of (by decide +kernel) xe_119_0
set_option maxRecDepth 100000 in
theorem xe_120_0 : xall xt_120_0 (xokE 120) = true := by decide +kernel
theorem xv_120 : xokT 120 xt_120 = true := xokT_of (by decide +kernel) xe_120_0
set_option maxRecDepth 100000 in
theorem xe_121_0 : xall xt_121_0 (xokE 121) = true := by decide +kernel
theorem xv_121 : xokT 121 xt_121 = true := xokT_of (by decide +kernel) xe_121_0
set_option maxRecDepth 100000 in
theorem xe_122_0 : xall xt_122_0 (xokE 122) = true := by decide +kernel
theorem xv_122 : xokT 122 xt_122 = true := xokT_of (by decide +kernel) xe_122_0
set_option maxRecDepth 100000 in
theorem xe_123_0 : xall xt_123_0 (xokE 123) = true := by decide +kernel
theorem xv_123 : xokT 123 xt_123 = true := xokT_of (by decide +kernel) xe_123_0
set_option maxRecDepth 100000 in
theorem xe_124_0 : xall xt_124_0 (xokE 124) = true := by decide +kernel
theorem xv_124 : xokT 124 xt_124 = true := xokT_of (by decide +kernel) xe_124_0
set_option maxRecDepth 100000 in
theorem xe_125_0 : xall xt_125_0 (xokE 125) = true := by decide +kernel
theorem xv_125 : xokT 125 xt_125 = true := xokT_of (by decide +kernel) xe_125_0
set_option maxRecDepth 100000 in
theorem xe_126_0 : xall xt_126_0 (xokE 126) = true := by decide +kernel
theorem xv_126 : xokT 126 xt_126 = true := xokT_of (by decide +kernel) xe_126_0
set_option maxRecDepth 100000 in
theorem xe_127_0 : xall xt_127_0 (xokE 127) = true := by decide +kernel
theorem xv_127 : xokT 127 xt_127 = true := xokT_of (by decide +kernel) xe_127_0
set_option maxRecDepth 100000 in
theorem xe_128_0 : xall xt_128_0 (xokE 128) = true := by decide +kernel
theorem xv_128 : xokT 128 xt_128 = true := xokT_of (by decide +kernel) xe_128_0
set_option maxRecDepth 100000 in
theorem xe_129_0 : xall xt_129_0 (xokE 129) = true := by decide +kernel
theorem xv_129 : xokT 129 xt_129 = true := xokT_of (by decide +kernel) xe_129_0
set_option maxRecDepth 100000 in
theorem xe_130_0 : xall xt_130_0 (xokE 130) = true := by decide +kernel
theorem xv_130 : xokT 130 xt_130 = true := xokT_of (by decide +kernel) xe_130_0
set_option maxRecDepth 100000 in
theorem xe_131_0 : xall xt_131_0 (xokE 131) = true := by decide +kernel
theorem xv_131 : xokT 131 xt_131 = true := xokT_of (by decide +kernel) xe_131_0
set_option maxRecDepth 100000 in
theorem xe_132_0 : xall xt_132_0 (xokE 132) = true := by decide +kernel
theorem xv_132 : xokT 132 xt_132 = true := xokT_of (by decide +kernel) xe_132_0
set_option maxRecDepth 100000 in
theorem xe_133_0 : xall xt_133_0 (xokE 133) = true := by decide +kernel
theorem xv_133 : xokT 133 xt_133 = true := xokT_of (by decide +kernel) xe_133_0
set_option maxRecDepth 100000 in
theorem xe_134_0 : xall xt_134_0 (xokE 134) = true := by decide +kernel
theorem xv_134 : xokT 134 xt_134 = true := xokT_of (by decide +kernel) xe_134_0
set_option maxRecDepth 100000 in
theorem xe_135_0 : xall xt_135_0 (xokE 135) = true := by decide +kernel
theorem xv_135 : xokT 135 xt_135 = true := xokT_of (by decide +kernel) xe_135_0
set_option maxRecDepth 100000 in
theorem xe_136_0 : xall xt_136_0 (xokE 136) = true := by decide +kernel
theorem xv_136 : xokT 136 xt_136 = true := xokT_of (by decide +kernel) xe_136_0
set_option maxRecDepth 100000 in
theorem xe_137_0 : xall xt_137_0 (xokE 137) = true := by decide +kernel
theorem xv_137 : xokT 137 xt_137 = true := xokT_of (by decide +kernel) xe_137_0
set_option maxRecDepth 100000 in
theorem xe_138_0 : xall xt_138_0 (xokE 138) = true := by decide +kernel
theorem xv_138 : xokT 138 xt_138 = true := xokT_of (by decide +kernel) xe_138_0
set_option maxRecDepth 100000 in
theorem xe_139_0 : xall xt_139_0 (xokE 139) = true := by decide +kernel
theorem xv_139 : xokT 139 xt_139 = true := xokT_of (by decide +kernel) xe_139_0
set_option maxRecDepth 100000 in
theorem xe_140_0 : xall xt_140_0 (xokE 140) = true := by decide +kernel
theorem xv_140 : xokT 140 xt_140 = true := xokT_of (by decide +kernel) xe_140_0
set_option maxRecDepth 100000 in
theorem xe_141_0 : xall xt_141_0 (xokE 141) = true := by decide +kernel
theorem xv_141 : xokT 141 xt_141 = true := xokT_of (by decide +kernel) xe_141_0
set_option maxRecDepth 100000 in
theorem xe_142_0 : xall xt_142_0 (xokE 142) = true := by decide +kernel
theorem xv_142 : xokT 142 xt_142 = true := xokT_of (by decide +kernel) xe_142_0
set_option maxRecDepth 100000 in
theorem xe_143_0 : xall xt_143_0 (xokE 143) = true := by decide +kernel
theorem xv_143 : xokT 143 xt_143 = true := xokT_of (by decide +kernel) xe_143_0
set_option maxRecDepth 100000 in
theorem xe_144_0 : xall xt_144_0 (xokE 144) = true := by decide +kernel
theorem xv_144 : xokT 144 xt_144 = true := xokT_of (by decide +kernel) xe_144_0
set_option maxRecDepth 100000 in
theorem xe_145_0 : xall xt_145_0 (xokE 145) = true := by decide +kernel
theorem xv_145 : xokT 145 xt_145 = true := xokT_of (by decide +kernel) xe_145_0
set_option maxRecDepth 100000 in
theorem xe_146_0 : xall xt_146_0 (xokE 146) = true := by decide +kernel
theorem xv_146 : xokT 146 xt_146 = true := xokT_of (by decide +kernel) xe_146_0
set_option maxRecDepth 100000 in
theorem xe_147_0 : xall xt_147_0 (xokE 147) = true := by decide +kernel
theorem xv_147 : xokT 147 xt_147 = true := xokT_of (by decide +kernel) xe_147_0
set_option maxRecDepth 100000 in
theorem xe_148_0 : xall xt_148_0 (xokE 148) = true := by decide +kernel
theorem xv_148 : xokT 148 xt_148 = true := xokT_of (by decide +kernel) xe_148_0
set_option maxRecDepth 100000 in
theorem xe_149_0 : xall xt_149_0 (xokE 149) = true := by decide +kernel
theorem xv_149 : xokT 149 xt_149 = true := xokT_of (by decide +kernel) xe_149_0
set_option maxRecDepth 100000 in
theorem xe_150_0 : xall xt_150_0 (xokE 150) = true := by decide +kernel
theorem xv_150 : xokT 150 xt_150 = true := xokT_of (by decide +kernel) xe_150_0
set_option maxRecDepth 100000 in
theorem xe_151_0 : xall xt_151_0 (xokE 151) = true := by decide +kernel
theorem xv_151 : xokT 151 xt_151 = true := xokT_of (by decide +kernel) xe_151_0
set_option maxRecDepth 100000 in
theorem xe_152_0 : xall xt_152_0 (xokE 152) = true := by decide +kernel
theorem xv_152 : xokT 152 xt_152 = true := xokT_of (by decide +kernel) xe_152_0
set_option maxRecDepth 100000 in
theorem xe_153_0 : xall xt_153_0 (xokE 153) = true := by decide +kernel
theorem xv_153 : xokT 153 xt_153 = true := xokT_of (by decide +kernel) xe_153_0
set_option maxRecDepth 100000 in
theorem xe_154_0 : xall xt_154_0 (xokE 154) = true := by decide +kernel
theorem xv_154 : xokT 154 xt_154 = true := xokT_of (by decide +kernel) xe_154_0
set_option maxRecDepth 100000 in
theorem xe_155_0 : xall xt_155_0 (xokE 155) = true := by decide +kernel
theorem xv_155 : xokT 155 xt_155 = true := xokT_of (by decide +kernel) xe_155_0
set_option maxRecDepth 100000 in
theorem xe_156_0 : xall xt_156_0 (xokE 156) = true := by decide +kernel
theorem xv_156 : xokT 156 xt_156 = true := xokT_of (by decide +kernel) xe_156_0
set_option maxRecDepth 100000 in
theorem xe_157_0 : xall xt_157_0 (xokE 157) = true := by decide +kernel
theorem xv_157 : xokT 157 xt_157 = true := xokT_of (by decide +kernel) xe_157_0
set_option maxRecDepth 100000 in
theorem xe_158_0 : xall xt_158_0 (xokE 158) = true := by decide +kernel
theorem xv_158 : xokT 158 xt_158 = true := xokT_of (by decide +kernel) xe_158_0
set_option maxRecDepth 100000 in
theorem xe_159_0 : xall xt_159_0 (xokE 159) = true := by decide +kernel
theorem xv_159 : xokT 159 xt_159 = true := xokT_of (by decide +kernel) xe_159_0
set_option maxRecDepth 100000 in
theorem xe_160_0 : xall xt_160_0 (xokE 160) = true := by decide +kernel
theorem xv_160 : xokT 160 xt_160 = true := xokT_of (by decide +kernel) xe_160_0
set_option maxRecDepth 100000 in
theorem xe_161_0 : xall xt_161_0 (xokE 161) = true := by decide +kernel
theorem xv_161 : xokT 161 xt_161 = true := xokT_of (by decide +kernel) xe_161_0
set_option maxRecDepth 100000 in
theorem xe_162_0 : xall xt_162_0 (xokE 162) = true := by decide +kernel
theorem xv_162 : xokT 162 xt_162 = true := xokT_of (by decide +kernel) xe_162_0
set_option maxRecDepth 100000 in
theorem xe_163_0 : xall xt_163_0 (xokE 163) = true := by decide +kernel
theorem xv_163 : xokT 163 xt_163 = true := xokT_of (by decide +kernel) xe_163_0
set_option maxRecDepth 100000 in
theorem xe_164_0 : xall xt_164_0 (xokE 164) = true := by decide +kernel
theorem xv_164 : xokT 164 xt_164 = true := xokT_of (by decide +kernel) xe_164_0
set_option maxRecDepth 100000 in
theorem xe_165_0 : xall xt_165_0 (xokE 165) = true := by decide +kernel
theorem xv_165 : xokT 165 xt_165 = true := xokT_of (by decide +kernel) xe_165_0
set_option maxRecDepth 100000 in
theorem xe_166_0 : xall xt_166_0 (xokE 166) = true := by decide +kernel
set_option maxRecDepth 100000 in
theorem xe_166_128 : xall xt_166_128 (xokE 166) = true := by decide +kernel
theorem xv_166 : xokT 166 xt_166 = true := xokT_of (by decide +kernel) (xal_b xe_166_0 xe_166_128)
set_option maxRecDepth 100000 in
theorem xe_167_0 : xall xt_167_0 (xokE 167) = true := by decide +kernel
theorem xv_167 : xokT 167 xt_167 = true := xokT_of (by decide +kernel) xe_167_0
set_option maxRecDepth 100000 in
theorem xe_168_0 : xall xt_168_0 (xokE 168) = true := by decide +kernel
theorem xv_168 : xokT 168 xt_168 = true := xokT_of (by decide +kernel) xe_168_0
set_option maxRecDepth 100000 in
theorem xe_169_0 : xall xt_169_0 (xokE 169) = true := by decide +kernel
theorem xv_169 : xokT 169 xt_169 = true := xokT_of (by decide +kernel) xe_169_0
set_option maxRecDepth 100000 in
theorem xe_170_0 : xall xt_170_0 (xokE 170) = true := by decide +kernel
theorem xv_170 : xokT 170 xt_170 = true := xokT_of (by decide +kernel) xe_170_0
set_option maxRecDepth 100000 in
theorem xe_171_0 : xall xt_171_0 (xokE 171) = true := by decide +kernel
theorem xv_171 : xokT 171 xt_171 = true := xokT_of (by decide +kernel) xe_171_0
set_option maxRecDepth 100000 in
theorem xe_172_0 : xall xt_172_0 (xokE 172) = true := by decide +kernel
theorem xv_172 : xokT 172 xt_172 = true := xokT_of (by decide +kernel) xe_172_0
set_option maxRecDepth 100000 in
theorem xe_173_0 : xall xt_173_0 (xokE 173) = true := by decide +kernel
theorem xv_173 : xokT 173 xt_173 = true := xokT_of (by decide +kernel) xe_173_0
set_option maxRecDepth 100000 in
theorem xe_174_0 : xall xt_174_0 (xokE 174) = true := by decide +kernel
theorem xv_174 : xokT 174 xt_174 = true := xokT_of (by decide +kernel) xe_174_0
set_option maxRecDepth 100000 in
theorem xe_175_0 : xall xt_175_0 (xokE 175) = true := by decide +kernel
theorem xv_175 : xokT 175 xt_175 = true := xokT_of (by decide +kernel) xe_175_0
set_option maxRecDepth 100000 in
theorem xe_176_0 : xall xt_176_0 (xokE 176) = true := by decide +kernel
theorem xv_176 : xokT 176 xt_176 = true := xokT_of (by decide +kernel) xe_176_0
set_option maxRecDepth 100000 in
theorem xe_177_0 : xall xt_177_0 (xokE 177) = true := by decide +kernel
theorem xv_177 : xokT 177 xt_177 = true := xokT_of (by decide +kernel) xe_177_0
set_option maxRecDepth 100000 in
theorem xe_178_0 : xall xt_178_0 (xokE 178) = true := by decide +kernel
theorem xv_178 : xokT 178 xt_178 = true := xokT_of (by decide +kernel) xe_178_0
set_option maxRecDepth 100000 in
theorem xe_179_0 : xall xt_179_0 (xokE 179) = true := by decide +kernel
theorem xv_179 : xokT 179 xt_179 = true := xokT_of (by decide +kernel) xe_179_0
set_option maxRecDepth 100000 in
theorem xe_180_0 : xall xt_180_0 (xokE 180) = true := by decide +kernel
theorem xv_180 : xokT 180 xt_180 = true := xokT_of (by decide +kernel) xe_180_0
set_option maxRecDepth 100000 in
theorem xe_181_0 : xall xt_181_0 (xokE 181) = true := by decide +kernel
theorem xv_181 : xokT 181 xt_181 = true := xokT_of (by decide +kernel) xe_181_0
set_option maxRecDepth 100000 in
theorem xe_182_0 : xall xt_182_0 (xokE 182) = true := by decide +kernel
theorem xv_182 : xokT 182 xt_182 = true := xokT_of (by decide +kernel) xe_182_0
set_option maxRecDepth 100000 in
theorem xe_183_0 : xall xt_183_0 (xokE 183) = true := by decide +kernel
theorem xv_183 : xokT 183 xt_183 = true := xokT_of (by decide +kernel) xe_183_0
set_option maxRecDepth 100000 in
theorem xe_184_0 : xall xt_184_0 (xokE 184) = true := by decide +kernel
theorem xv_184 : xokT 184 xt_184 = true := xokT_of (by decide +kernel) xe_184_0
set_option maxRecDepth 100000 in
theorem xe_185_0 : xall xt_185_0 (xokE 185) = true := by decide +kernel
set_option maxRecDepth 100000 in
theorem xe_185_80 : xall xt_185_80 (xokE 185) = true := by decide +kernel
theorem xv_185 : xokT 185 xt_185 = true := xokT_of (by decide +kernel) (xal_b xe_185_0 xe_185_80)
set_option maxRecDepth 100000 in
theorem xe_186_0 : xall xt_186_0 (xokE 186) = true := by decide +kernel
theorem xv_186 : xokT 186 xt_186 = true := xokT_of (by decide +kernel) xe_186_0
set_option maxRecDepth 100000 in
theorem xe_187_0 : xall xt_187_0 (xokE 187) = true := by decide +kernel
theorem xv_187 : xokT 187 xt_187 = true := xokT_of (by decide +kernel) xe_187_0
set_option maxRecDepth 100000 in
theorem xe_188_0 : xall xt_188_0 (xokE 188) = true := by decide +kernel
theorem xv_188 : xokT 188 xt_188 = true := xokT_of (by decide +kernel) xe_188_0
set_option maxRecDepth 100000 in
theorem xe_189_0 : xall xt_189_0 (xokE 189) = true := by decide +kernel
theorem xv_189 : xokT 189 xt_189 = true := xokT_of (by decide +kernel) xe_189_0
set_option maxRecDepth 100000 in
theorem xe_190_0 : xall xt_190_0 (xokE 190) = true := by decide +kernel
theorem xv_190 : xokT 190 xt_190 = true := xokT_of (by decide +kernel) xe_190_0
set_option maxRecDepth 100000 in
theorem xe_191_0 : xall xt_191_0 (xokE 191) = true := by decide +kernel
theorem xv_191 : xokT 191 xt_191 = true := xokT_of (by decide +kernel) xe_191_0
set_option maxRecDepth 100000 in
theorem xe_192_0 : xall xt_192_0 (xokE 192) = true := by decide +kernel
theorem xv_192 : xokT 192 xt_192 = true := xokT_of (by decide +kernel) xe_192_0
set_option maxRecDepth 100000 in
theorem xe_193_0 : xall xt_193_0 (xokE 193) = true := by decide +kernel
set_option maxRecDepth 100000 in
theorem xe_193_151 : xall xt_193_151 (xokE 193) = true := by decide +kernel
theorem xv_193 : xokT 193 xt_193 = true := xokT_of (by decide +kernel) (xal_b xe_193_0 xe_193_151)
set_option maxRecDepth 100000 in
theorem xe_194_0 : xall xt_194_0 (xokE 194) = true := by decide +kernel
theorem xv_194 : xokT 194 xt_194 = true := xokT_of (by decide +kernel) xe_194_0
set_option maxRecDepth 100000 in
theorem xe_195_0 : xall xt_195_0 (xokE 195) = true := by decide +kernel
theorem xv_195 : xokT 195 xt_195 = true := xokT_of (by decide +kernel) xe_195_0
set_option maxRecDepth 100000 in
theorem xe_196_0 : xall xt_196_0 (xokE 196) = true := by decide +kernel
theorem xv_196 : xokT 196 xt_196 = true := xokT_of (by decide +kernel) xe_196_0
set_option maxRecDepth 100000 in
theorem xe_197_0 : xall xt_197_0 (xokE 197) = true := by decide +kernel
theorem xv_197 : xokT 197 xt_197 = true := xokT_of (by decide +kernel) xe_197_0
set_option maxRecDepth 100000 in
theorem xe_198_0 : xall xt_198_0 (xokE 198) = true := by decide +kernel
theorem xv_198 : xokT 198 xt_198 = true := xokT_of (by decide +kernel) xe_198_0
set_option maxRecDepth 100000 in
theorem xe_199_0 : xall xt_199_0 (xokE 199) = true := by decide +kernel
theorem xv_199 : xokT 199 xt_199 = true := xokT_of (by decide +kernel) xe_199_0
set_option maxRecDepth 100000 in
theorem xe_200_0 : xall xt_200_0 (xokE 200) = true := by decide +kernel
theorem xv_200 : xokT 200 xt_200 = true := xokT_of (by decide +kernel) xe_200_0
set_option maxRecDepth 100000 in
theorem xe_201_0 : xall xt_201_0 (xokE 201) = true := by decide +kernel
theorem xv_201 : xokT 201 xt_201 = true := xokT_of (by decide +kernel) xe_201_0
set_option maxRecDepth 100000 in
theorem xe_202_0 : xall xt_202_0 (xokE 202) = true := by decide +kernel
theorem xv_202 : xokT 202 xt_202 = true := xokT_of (by decide +kernel) xe_202_0
set_option maxRecDepth 100000 in
theorem xe_203_0 : xall xt_203_0 (xokE 203) = true := by decide +kernel
theorem xv_203 : xokT 203 xt_203 = true := xokT_of (by decide +kernel) xe_203_0
set_option maxRecDepth 100000 in
theorem xe_204_0 : xall xt_204_0 (xokE 204) = true := by decide +kernel
theorem xv_204 : xokT 204 xt_204 = true := xokT_of (by decide +kernel) xe_204_0
set_option maxRecDepth 100000 in
theorem xe_205_0 : xall xt_205_0 (xokE 205) = true := by decide +kernel
theorem xv_205 : xokT 205 xt_205 = true := xokT_of (by decide +kernel) xe_205_0
set_option maxRecDepth 100000 in
theorem xe_206_0 : xall xt_206_0 (xokE 206) = true := by decide +kernel
theorem xv_206 : xokT 206 xt_206 = true := xokT_of (by decide +kernel) xe_206_0
set_option maxRecDepth 100000 in
theorem xe_207_0 : xall xt_207_0 (xokE 207) = true := by decide +kernel
theorem xv_207 : xokT 207 xt_207 = true := xokT_of (by decide +kernel) xe_207_0
set_option maxRecDepth 100000 in
theorem xe_208_0 : xall xt_208_0 (xokE 208) = true := by decide +kernel
theorem xv_208 : xokT 208 xt_208 = true := xokT_of (by decide +kernel) xe_208_0
set_option maxRecDepth 100000 in
theorem xe_209_0 : xall xt_209_0 (xokE 209) = true := by decide +kernel
theorem xv_209 : xokT 209 xt_209 = true := xokT_of (by decide +kernel) xe_209_0
set_option maxRecDepth 100000 in
theorem xe_210_0 : xall xt_210_0 (xokE 210) = true := by decide +kernel
theorem xv_210 : xokT 210 xt_210 = true := xokT_of (by decide +kernel) xe_210_0
set_option maxRecDepth 100000 in
theorem xe_211_0 : xall xt_211_0 (xokE 211) = true := by decide +kernel
theorem xv_211 : xokT 211 xt_211 = true := xokT_of (by decide +kernel) xe_211_0
set_option maxRecDepth 100000 in
theorem xe_212_0 : xall xt_212_0 (xokE 212) = true := by decide +kernel
theorem xv_212 : xokT 212 xt_212 = true := xokT_of (by decide +kernel) xe_212_0
set_option maxRecDepth 100000 in
theorem xe_213_0 : xall xt_213_0 (xokE 213) = true := by decide +kernel
theorem xv_213 : xokT 213 xt_213 = true := xokT_of (by decide +kernel) xe_213_0
set_option maxRecDepth 100000 in
theorem xe_214_0 : xall xt_214_0 (xokE 214) = true := by decide +kernel
theorem xv_214 : xokT 214 xt_214 = true := xokT_of (by decide +kernel) xe_214_0
set_option maxRecDepth 100000 in
theorem xe_215_0 : xall xt_215_0 (xokE 215) = true := by decide +kernel
theorem xv_215 : xokT 215 xt_215 = true := xokT_of (by decide +kernel) xe_215_0
set_option maxRecDepth 100000 in
theorem xe_216_0 : xall xt_216_0 (xokE 216) = true := by decide +kernel
theorem xv_216 : xokT 216 xt_216 = true := xokT_of (by decide +kernel) xe_216_0
set_option maxRecDepth 100000 in
theorem xe_217_0 : xall xt_217_0 (xokE 217) = true := by decide +kernel
theorem xv_217 : xokT 217 xt_217 = true := xokT_of (by decide +kernel) xe_217_0
set_option maxRecDepth 100000 in
theorem xe_218_0 : xall xt_218_0 (xokE 218) = true := by decide +kernel
theorem xv_218 : xokT 218 xt_218 = true := xokT_of (by decide +kernel) xe_218_0
set_option maxRecDepth 100000 in
theorem xe_219_0 : xall xt_219_0 (xokE 219) = true := by decide +kernel
theorem xv_219 : xokT 219 xt_219 = true := xokT_of (by decide +kernel) xe_219_0
set_option maxRecDepth 100000 in
theorem xe_220_0 : xall xt_220_0 (xokE 220) = true := by decide +kernel
theorem xv_220 : xokT 220 xt_220 = true := xokT_of (by decide +kernel) xe_220_0
set_option maxRecDepth 100000 in
theorem xe_221_0 : xall xt_221_0 (xokE 221) = true := by decide +kernel
theorem xv_221 : xokT 221 xt_221 = true := xokT_of (by decide +kernel) xe_221_0
set_option maxRecDepth 100000 in
theorem xe_222_0 : xall xt_222_0 (xokE 222) = true := by decide +kernel
theorem xv_222 : xokT 222 xt_222 = true := xokT_of (by decide +kernel) xe_222_0
set_option maxRecDepth 100000 in
theorem xe_223_0 : xall xt_223_0 (xokE 223) = true := by decide +kernel
theorem xv_223 : xokT 223 xt_223 = true := xokT_of (by decide +kernel) xe_223_0
set_option maxRecDepth 100000 in
theorem xe_224_0 : xall xt_224_0 (xokE 224) = true := by decide +kernel
theorem xv_224 : xokT 224 xt_224 = true := xokT_of (by decide +kernel) xe_224_0
set_option maxRecDepth 100000 in
theorem xe_225_0 : xall xt_225_0 (xokE 225) = true := by decide +kernel
theorem xv_225 : xokT 225 xt_225 = true := xokT_of (by decide +kernel) xe_225_0
set_option maxRecDepth 100000 in
theorem xe_226_0 : xall xt_226_0 (xokE 226) = true := by decide +kernel
theorem xv_226 : xokT 226 xt_226 = true := xokT_of (by decide +kernel) xe_226_0
set_option maxRecDepth 100000 in
theorem xe_227_0 : xall xt_227_0 (xokE 227) = true := by decide +kernel
theorem xv_227 : xokT 227 xt_227 = true := xokT_of (by decide +kernel) xe_227_0
set_option maxRecDepth 100000 in
theorem xe_228_0 : xall xt_228_0 (xokE 228) = true := by decide +kernel
set_option maxRecDepth 100000 in
theorem xe_228_129 : xall xt_228_129 (xokE 228) = true := by decide +kernel
theorem xv_228 : xokT 228 xt_228 = true := xokT_of (by decide +kernel) (xal_b xe_228_0 xe_228_129)
set_option maxRecDepth 100000 in
theorem xe_229_0 : xall xt_229_0 (xokE 229) = true := by decide +kernel
theorem xv_229 : xokT 229 xt_229 = true := xokT_of (by decide +kernel) xe_229_0
set_option maxRecDepth 100000 in
theorem xe_230_0 : xall xt_230_0 (xokE 230) = true := by decide +kernel
theorem xv_230 : xokT 230 xt_230 = true := xokT_of (by decide +kernel) xe_230_0
set_option maxRecDepth 100000 in
theorem xe_231_0 : xall xt_231_0 (xokE 231) = true := by decide +kernel
theorem xv_231 : xokT 231 xt_231 = true := xokT_of (by decide +kernel) xe_231_0
set_option maxRecDepth 100000 in
theorem xe_232_0 : xall xt_232_0 (xokE 232) = true := by decide +kernel
theorem xv_232 : xokT 232 xt_232 = true := xokT_of (by decide +kernel) xe_232_0
set_option maxRecDepth 100000 in
theorem xe_233_0 : xall xt_233_0 (xokE 233) = true := by decide +kernel
theorem xv_233 : xokT 233 xt_233 = true := xokT_of (by decide +kernel) xe_233_0
set_option maxRecDepth 100000 in
theorem xe_234_0 : xall xt_234_0 (xokE 234) = true := by decide +kernel
theorem xv_234 : xokT 234 xt_234 = true := xokT_of (by decide +kernel) xe_234_0
set_option maxRecDepth 100000 in
theorem xe_235_0 : xall xt_235_0 (xokE 235) = true := by decide +kernel
theorem xv_235 : xokT 235 xt_235 = true := xokT_of (by decide +kernel) xe_235_0
set_option maxRecDepth 100000 in
theorem xe_236_0 : xall xt_236_0 (xokE 236) = true := by decide +kernel
theorem xv_236 : xokT 236 xt_236 = true := xokT_of (by decide +kernel) xe_236_0
set_option maxRecDepth 100000 in
theorem xe_237_0 : xall xt_237_0 (xokE 237) = true := by decide +kernel
theorem xv_237 : xokT 237 xt_237 = true := xokT_of (by decide +kernel) xe_237_0
set_option maxRecDepth 100000 in
theorem xe_238_0 : xall xt_238_0 (xokE 238) = true := by decide +kernel
set_option maxRecDepth 100000 in
theorem xe_238_151 : xall xt_238_151 (xokE 238) = true := by decide +kernel
theorem xv_238 : xokT 238 xt_238 = true := xokT_of (by decide +kernel) (xal_b xe_238_0 xe_238_151)
set_option maxRecDepth 100000 in
theorem xe_239_0 : xall xt_239_0 (xokE 239) = true := by decide +kernel
theorem xv_239 : xokT 239 xt_239 = true := xokT_of (by decide +kernel) xe_239_0
set_option maxRecDepth 100000 in
theorem xe_240_0 : xall xt_240_0 (xokE 240) = true := by decide +kernel
set_option maxRecDepth 100000 in
theorem xe_240_164 : xall xt_240_164 (xokE 240) = true := by decide +kernel
theorem xv_240 : xokT 240 xt_240 = true := xokT_of (by decide +kernel) (xal_b xe_240_0 xe_240_164)
set_option maxRecDepth 100000 in
theorem xe_241_0 : xall xt_241_0 (xokE 241) = true := by decide +kernel
set_option maxRecDepth 100000 in
theorem xe_241_111 : xall xt_241_111 (xokE 241) = true := by decide +kernel
theorem xv_241 : xokT 241 xt_241 = true := xokT_of (by decide +kernel) (xal_b xe_241_0 xe_241_111)
set_option maxRecDepth 100000 in
theorem xe_242_0 : xall xt_242_0 (xokE 242) = true := by decide +kernel
theorem xv_242 : xokT 242 xt_242 = true := xokT_of (by decide +kernel) xe_242_0
set_option maxRecDepth 100000 in
theorem xe_243_0 : xall xt_243_0 (xokE 243) = true := by decide +kernel
theorem xv_243 : xokT 243 xt_243 = true := xokT_of (by decide +kernel) xe_243_0
set_option maxRecDepth 100000 in
theorem xe_244_0 : xall xt_244_0 (xokE 244) = true := by decide +kernel
theorem xv_244 : xokT 244 xt_244 = true := xokT_of (by decide +kernel) xe_244_0
set_option maxRecDepth 100000 in
theorem xe_245_0 : xall xt_245_0 (xokE 245) = true := by decide +kernel
theorem xv_245 : xokT 245 xt_245 = true := xokT_of (by decide +kernel) xe_245_0
set_option maxRecDepth 100000 in
theorem xe_246_0 : xall xt_246_0 (xokE 246) = true := by decide +kernel
theorem xv_246 : xokT 246 xt_246 = true := xokT_of (by decide +kernel) xe_246_0
set_option maxRecDepth 100000 in
theorem xe_247_0 : xall xt_247_0 (xokE 247) = true := by decide +kernel
theorem xv_247 : xokT 247 xt_247 = true := xokT_of (by decide +kernel) xe_247_0
set_option maxRecDepth 100000 in
theorem xe_248_0 : xall xt_248_0 (xokE 248) = true := by decide +kernel
set_option maxRecDepth 100000 in
theorem xe_248_134 : xall xt_248_134 (xokE 248) = true := by decide +kernel
theorem xv_248 : xokT 248 xt_248 = true := xokT_of (by decide +kernel) (xal_b xe_248_0 xe_248_134)
set_option maxRecDepth 100000 in
theorem xe_249_0 : xall xt_249_0 (xokE 249) = true := by decide +kernel
theorem xv_249 : xokT 249 xt_249 = true := xokT_of (by decide +kernel) xe_249_0
set_option maxRecDepth 100000 in
theorem xe_250_0 : xall xt_250_0 (xokE 250) = true := by decide +kernel
theorem xv_250 : xokT 250 xt_250 = true := xokT_of (by decide +kernel) xe_250_0
set_option maxRecDepth 100000 in
theorem xe_251_0 : xall xt_251_0 (xokE 251) = true := by decide +kernel
set_option maxRecDepth 100000 in
theorem xe_251_86 : xall xt_251_86 (xokE 251) = true := by decide +kernel
theorem xv_251 : xokT 251 xt_251 = true := xokT_of (by decide +kernel) (xal_b xe_251_0 xe_251_86)
set_option maxRecDepth 100000 in
theorem xe_252_0 : xall xt_252_0 (xokE 252) = true := by decide +kernel
theorem xv_252 : xokT 252 xt_252 = true := xokT_of (by decide +kernel) xe_252_0
set_option maxRecDepth 100000 in
theorem xe_253_0 : xall xt_253_0 (xokE 253) = true := by decide +kernel
theorem xv_253 : xokT 253 xt_253 = true := xokT_of (by decide +kernel) xe_253_0
set_option maxRecDepth 100000 in
theorem xe_254_0 : xall xt_254_0 (xokE 254) = true := by decide +kernel
theorem xv_254 : xokT 254 xt_254 = true := xokT_of (by decide +kernel) xe_254_0
set_option maxRecDepth 100000 in
theorem xe_255_0 : xall xt_255_0 (xokE 255) = true := by decide +kernel
theorem xv_255 : xokT 255 xt_255 = true := xokT_of (by decide +kernel) xe_255_0
set_option maxRecDepth 100000 in
theorem xe_256_0 : xall xt_256_0 (xokE 256) = true := by decide +kernel
theorem xv_256 : xokT 256 xt_256 = true := xokT_of (by decide +kernel) xe_256_0
set_option maxRecDepth 100000 in
theorem xe_257_0 : xall xt_257_0 (xokE 257) = true := by decide +kernel
theorem xv_257 : xokT 257 xt_257 = true := xokT_of (by decide +kernel) xe_257_0
set_option maxRecDepth 100000 in
theorem xe_258_0 : xall xt_258_0 (xokE 258) = true := by decide +kernel
theorem xv_258 : xokT 258 xt_258 = true := xokT_of (by decide +kernel) xe_258_0
set_option maxRecDepth 100000 in
theorem xe_259_0 : xall xt_259_0 (xokE 259) = true := by decide +kernel
theorem xv_259 : xokT 259 xt_259 = true := xokT_of (by decide +kernel) xe_259_0
set_option maxRecDepth 100000 in
theorem xe_260_0 : xall xt_260_0 (xokE 260) = true := by decide +kernel
theorem xv_260 : xokT 260 xt_260 = true := xokT_of (by decide +kernel) xe_260_0
set_option maxRecDepth 100000 in
theorem xe_261_0 : xall xt_261_0 (xokE 261) = true := by decide +kernel
theorem xv_261 : xokT 261 xt_261 = true := xokT_of (by decide +kernel) xe_261_0
set_option maxRecDepth 100000 in
theorem xe_262_0 : xall xt_262_0 (xokE 262) = true := by decide +kernel
theorem xv_262 : xokT 262 xt_262 = true := xokT_of (by decide +kernel) xe_262_0
set_option maxRecDepth 100000 in
theorem xe_263_0 : xall xt_263_0 (xokE 263) = true := by decide +kernel
theorem xv_263 : xokT 263 xt_263 = true := xokT_of (by decide +kernel) xe_263_0
set_option maxRecDepth 100000 in
theorem xe_264_0 : xall xt_264_0 (xokE 264) = true := by decide +kernel
theorem xv_264 : xokT 264 xt_264 = true := xokT_of (by decide +kernel) xe_264_0
set_option maxRecDepth 100000 in
theorem xe_265_0 : xall xt_265_0 (xokE 265) = true := by decide +kernel
theorem xv_265 : xokT 265 xt_265 = true := xokT_of (by decide +kernel) xe_265_0
set_option maxRecDepth 100000 in
theorem xe_266_0 : xall xt_266_0 (xokE 266) = true := by decide +kernel
theorem xv_266 : xokT 266 xt_266 = true := xokT_of (by decide +kernel) xe_266_0
set_option maxRecDepth 100000 in
theorem xe_267_0 : xall xt_267_0 (xokE 267) = true := by decide +kernel
theorem xv_267 : xokT 267 xt_267 = true := xokT_of (by decide +kernel) xe_267_0
set_option maxRecDepth 100000 in
theorem xe_268_0 : xall xt_268_0 (xokE 268) = true := by decide +kernel
theorem xv_268 : xokT 268 xt_268 = true := xokT_of (by decide +kernel) xe_268_0
set_option maxRecDepth 100000 in
theorem xe_269_0 : xall xt_269_0 (xokE 269) = true := by decide +kernel
theorem xv_269 : xokT 269 xt_269 = true := xokT_of (by decide +kernel) xe_269_0
set_option maxRecDepth 100000 in
theorem xe_270_0 : xall xt_270_0 (xokE 270) = true := by decide +kernel
set_option maxRecDepth 100000 in
theorem xe_270_95 : xall xt_270_95 (xokE 270) = true := by decide +kernel
theorem xv_270 : xokT 270 xt_270 = true := xokT_of (by decide +kernel) (xal_b xe_270_0 xe_270_95)
set_option maxRecDepth 100000 in
theorem xe_271_0 : xall xt_271_0 (xokE 271) = true := by decide +kernel
theorem xv_271 : xokT 271 xt_271 = true := xokT_of (by decide +kernel) xe_271_0
set_option maxRecDepth 100000 in
theorem xe_272_0 : xall xt_272_0 (xokE 272) = true := by decide +kernel
theorem xv_272 : xokT 272 xt_272 = true := xokT_of (by decide +kernel) xe_272_0
set_option maxRecDepth 100000 in
theorem xe_273_0 : xall xt_273_0 (xokE 273) = true := by decide +kernel
theorem xv_273 : xokT 273 xt_273 = true := xokT_of (by decide +kernel) xe_273_0
set_option maxRecDepth 100000 in
theorem xe_274_0 : xall xt_274_0 (xokE 274) = true := by decide +kernel
theorem xv_274 : xokT 274 xt_274 = true := xokT_of (by decide +kernel) xe_274_0
set_option maxRecDepth 100000 in
theorem xe_275_0 : xall xt_275_0 (xokE 275) = true := by decide +kernel
theorem xv_275 : xokT 275 xt_275 = true := xokT_of (by decide +kernel) xe_275_0
set_option maxRecDepth 100000 in
theorem xe_276_0 : xall xt_276_0 (xokE 276) = true := by decide +kernel
theorem xv_276 : xokT 276 xt_276 = true := xokT_of (by decide +kernel) xe_276_0
set_option maxRecDepth 100000 in
theorem xe_277_0 : xall xt_277_0 (xokE 277) = true := by decide +kernel
theorem xv_277 : xokT 277 xt_277 = true := xokT_of (by decide +kernel) xe_277_0
set_option maxRecDepth 100000 in
theorem xe_278_0 : xall xt_278_0 (xokE 278) = true := by decide +kernel
theorem xv_278 : xokT 278 xt_278 = true := xokT_of (by decide +kernel) xe_278_0
set_option maxRecDepth 100000 in
theorem xe_279_0 : xall xt_279_0 (xokE 279) = true := by decide +kernel
theorem xv_279 : xokT 279 xt_279 = true := xokT_of (by decide +kernel) xe_279_0
set_option maxRecDepth 100000 in
theorem xe_280_0 : xall xt_280_0 (xokE 280) = true := by decide +kernel
set_option maxRecDepth 100000 in
theorem xe_280_85 : xall xt_280_85 (xokE 280) = true := by decide +kernel
theorem xv_280 : xokT 280 xt_280 = true := xokT_of (by decide +kernel) (xal_b xe_280_0 xe_280_85)
set_option maxRecDepth 100000 in
theorem xe_281_0 : xall xt_281_0 (xokE 281) = true := by decide +kernel
theorem xv_281 : xokT 281 xt_281 = true := xokT_of (by decide +kernel) xe_281_0
set_option maxRecDepth 100000 in
theorem xe_282_0 : xall xt_282_0 (xokE 282) = true := by decide +kernel
theorem xv_282 : xokT 282 xt_282 = true := xokT_of (by decide +kernel) xe_282_0
set_option maxRecDepth 100000 in
theorem xe_283_0 : xall xt_283_0 (xokE 283) = true := by decide +kernel
theorem xv_283 : xokT 283 xt_283 = true := xokT_of (by decide +kernel) xe_283_0
set_option maxRecDepth 100000 in
theorem xe_284_0 : xall xt_284_0 (xokE 284) = true := by decide +kernel
theorem xv_284 : xokT 284 xt_284 = true := xokT_of (by decide +kernel) xe_284_0
set_option maxRecDepth 100000 in
theorem xe_285_0 : xall xt_285_0 (xokE 285) = true := by decide +kernel
theorem xv_285 : xokT 285 xt_285 = true := xokT_of (by decide +kernel) xe_285_0
set_option maxRecDepth 100000 in
theorem xe_286_0 : xall xt_286_0 (xokE 286) = true := by decide +kernel
theorem xv_286 : xokT 286 xt_286 = true := xokT_of (by decide +kernel) xe_286_0
set_option maxRecDepth 100000 in
theorem xe_287_0 : xall xt_287_0 (xokE 287) = true := by decide +kernel
theorem xv_287 : xokT 287 xt_287 = true := xokT_of (by decide +kernel) xe_287_0
set_option maxRecDepth 100000 in
theorem xe_288_0 : xall xt_288_0 (xokE 288) = true := by decide +kernel
theorem xv_288 : xokT 288 xt_288 = true := xokT_of (by decide +kernel) xe_288_0
set_option maxRecDepth 100000 in
theorem xe_289_0 : xall xt_289_0 (xokE 289) = true := by decide +kernel
theorem xv_289 : xokT 289 xt_289 = true := xokT_of (by decide +kernel) xe_289_0
set_option maxRecDepth 100000 in
theorem xe_290_0 : xall xt_290_0 (xokE 290) = true := by decide +kernel
theorem xv_290 : xokT 290 xt_290 = true := xokT_of (by decide +kernel) xe_290_0
set_option maxRecDepth 100000 in
theorem xe_291_0 : xall xt_291_0 (xokE 291) = true := by decide +kernel
theorem xv_291 : xokT 291 xt_291 = true := xokT_of (by decide +kernel) xe_291_0
set_option maxRecDepth 100000 in
theorem xe_292_0 : xall xt_292_0 (xokE 292) = true := by decide +kernel
theorem xv_292 : xokT 292 xt_292 = true := xokT_of (by decide +kernel) xe_292_0
set_option maxRecDepth 100000 in
theorem xe_293_0 : xall xt_293_0 (xokE 293) = true := by decide +kernel
theorem xv_293 : xokT 293 xt_293 = true := xokT_of (by decide +kernel) xe_293_0
set_option maxRecDepth 100000 in
theorem xe_294_0 : xall xt_294_0 (xokE 294) = true := by decide +kernel
theorem xv_294 : xokT 294 xt_294 = true := xokT_of (by decide +kernel) xe_294_0
set_option maxRecDepth 100000 in
theorem xe_295_0 : xall xt_295_0 (xokE 295) = true := by decide +kernel
theorem xv_295 : xokT 295 xt_295 = true := xokT_of (by decide +kernel) xe_295_0
set_option maxRecDepth 100000 in
theorem xe_296_0 : xall xt_296_0 (xokE 296) = true := by decide +kernel
theorem xv_296 : xokT 296 xt_296 = true := xokT_of (by decide +kernel) xe_296_0
set_option maxRecDepth 100000 in
theorem xe_297_0 : xall xt_297_0 (xokE 297) = true := by decide +kernel
theorem xv_297 : xokT 297 xt_297 = true := xokT_of (by decide +kernel) xe_297_0
set_option maxRecDepth 100000 in
theorem xe_298_0 : xall xt_298_0 (xokE 298) = true := by decide +kernel
theorem xv_298 : xokT 298 xt_298 = true := xokT_of (by decide +kernel) xe_298_0
set_option maxRecDepth 100000 in
theorem xe_299_0 : xall xt_299_0 (xokE 299) = true := by decide +kernel
theorem xv_299 : xokT 299 xt_299 = true := xokT_of (by decide +kernel) xe_299_0
set_option maxRecDepth 100000 in
theorem xe_300_0 : xall xt_300_0 (xokE 300) = true := by decide +kernel
theorem xv_300 : xokT 300 xt_300 = true := xokT_of (by decide +kernel) xe_300_0
set_option maxRecDepth 100000 in
theorem xe_301_0 : xall xt_301_0 (xokE 301) = true := by decide +kernel
theorem xv_301 : xokT 301 xt_301 = true := xokT_of (by decide +kernel) xe_301_0
set_option maxRecDepth 100000 in
theorem xe_302_0 : xall xt_302_0 (xokE 302) = true := by decide +kernel
theorem xv_302 : xokT 302 xt_302 = true := xokT_of (by decide +kernel) xe_302_0
set_option maxRecDepth 100000 in
theorem xe_303_0 : xall xt_303_0 (xokE 303) = true := by decide +kernel
theorem xv_303 : xokT 303 xt_303 = true := xokT_of (by decide +kernel) xe_303_0
set_option maxRecDepth 100000 in
theorem xe_304_0 : xall xt_304_0 (xokE 304) = true := by decide +kernel
theorem xv_304 : xokT 304 xt_304 = true := xokT_of (by decide +kernel) xe_304_0
set_option maxRecDepth 100000 in
theorem xe_305_0 : xall xt_305_0 (xokE 305) = true := by decide +kernel
theorem xv_305 : xokT 305 xt_305 = true := xokT_of (by decide +kernel) xe_305_0
set_option maxRecDepth 100000 in
theorem xe_306_0 : xall xt_306_0 (xokE 306) = true := by decide +kernel
theorem xv_306 : xokT 306 xt_306 = true := xokT_of (by decide +kernel) xe_306_0
set_option maxRecDepth 100000 in
theorem xe_307_0 : xall xt_307_0 (xokE 307) = true := by decide +kernel
theorem xv_307 : xokT 307 xt_307 = true := xokT_of (by decide +kernel) xe_307_0
set_option maxRecDepth 100000 in
theorem xe_308_0 : xall xt_308_0 (xokE 308) = true := by decide +kernel
theorem xv_308 : xokT 308 xt_308 = true := xokT_of (by decide +kernel) xe_308_0
set_option maxRecDepth 100000 in
theorem xe_309_0 : xall xt_309_0 (xokE 309) = true := by decide +kernel
theorem xv_309 : xokT 309 xt_309 = true := xokT_of (by decide +kernel) xe_309_0
set_option maxRecDepth 100000 in
theorem xe_310_0 : xall xt_310_0 (xokE 310) = true := by decide +kernel
theorem xv_310 : xokT 310 xt_310 = true := xokT_of (by decide +kernel) xe_310_0
set_option maxRecDepth 100000 in
theorem xe_311_0 : xall xt_311_0 (xokE 311) = true := by decide +kernel
theorem xv_311 : xokT 311 xt_311 = true := xokT_of (by decide +kernel) xe_311_0
set_option maxRecDepth 100000 in
theorem xe_312_0 : xall xt_312_0 (xokE 312) = true := by decide +kernel
theorem xv_312 : xokT 312 xt_312 = true := xokT_of (by decide +kernel) xe_312_0
set_option maxRecDepth 100000 in
theorem xe_313_0 : xall xt_313_0 (xokE 313) = true := by decide +kernel
theorem xv_313 : xokT 313 xt_313 = true := xokT_of (by decide +kernel) xe_313_0
set_option maxRecDepth 100000 in
theorem xe_314_0 : xall xt_314_0 (xokE 314) = true := by decide +kernel
theorem xv_314 : xokT 314 xt_314 = true := xokT_of (by decide +kernel) xe_314_0
set_option maxRecDepth 100000 in
theorem xe_315_0 : xall xt_315_0 (xokE 315) = true := by decide +kernel
theorem xv_315 : xokT 315 xt_315 = true := xokT_of (by decide +kernel) xe_315_0
set_option maxRecDepth 100000 in
theorem xe_316_0 : xall xt_316_0 (xokE 316) = true := by decide +kernel
theorem xv_316 : xokT 316 xt_316 = true := xokT_of (by decide +kernel) xe_316_0
set_option maxRecDepth 100000 in
theorem xe_317_0 : xall xt_317_0 (xokE 317) = true := by decide +kernel
theorem xv_317 : xokT 317 xt_317 = true := xokT_of (by decide +kernel) xe_317_0
set_option maxRecDepth 100000 in
theorem xe_318_0 : xall xt_318_0 (xokE 318) = true := by decide +kernel
theorem xv_318 : xokT 318 xt_318 = true := xokT_of (by decide +kernel) xe_318_0
set_option maxRecDepth 100000 in
theorem xe_319_0 : xall xt_319_0 (xokE 319) = true := by decide +kernel
theorem xv_319 : xokT 319 xt_319 = true := xokT_of (by decide +kernel) xe_319_0
set_option maxRecDepth 100000 in
theorem xe_320_0 : xall xt_320_0 (xokE 320) = true := by decide +kernel
theorem xv_320 : xokT 320 xt_320 = true := xokT_of (by decide +kernel) xe_320_0
set_option maxRecDepth 100000 in
theorem xe_321_0 : xall xt_321_0 (xokE 321) = true := by decide +kernel
theorem xv_321 : xokT 321 xt_321 = true := xokT_of (by decide +kernel) xe_321_0
set_option maxRecDepth 100000 in
theorem xe_322_0 : xall xt_322_0 (xokE 322) = true := by decide +kernel
theorem xv_322 : xokT 322 xt_322 = true := xokT_of (by decide +kernel) xe_322_0
set_option maxRecDepth 100000 in
theorem xe_323_0 : xall xt_323_0 (xokE 323) = true := by decide +kernel
theorem xv_323 : xokT 323 xt_323 = true := xokT_of (by decide +kernel) xe_323_0
set_option maxRecDepth 100000 in
theorem xe_324_0 : xall xt_324_0 (xokE 324) = true := by decide +kernel
theorem xv_324 : xokT 324 xt_324 = true := xokT_of (by decide +kernel) xe_324_0
set_option maxRecDepth 100000 in
theorem xe_325_0 : xall xt_325_0 (xokE 325) = true := by decide +kernel
theorem xv_325 : xokT 325 xt_325 = true := xokT_of (by decide +kernel) xe_325_0
set_option maxRecDepth 100000 in
theorem xe_326_0 : xall xt_326_0 (xokE 326) = true := by decide +kernel
theorem xv_326 : xokT 326 xt_326 = true := xokT_of (by decide +kernel) xe_326_0
set_option maxRecDepth 100000 in
theorem xe_327_0 : xall xt_327_0 (xokE 327) = true := by decide +kernel
theorem xv_327 : xokT 327 xt_327 = true := xokT_of (by decide +kernel) xe_327_0
set_option maxRecDepth 100000 in
theorem xe_328_0 : xall xt_328_0 (xokE 328) = true := by decide +kernel
theorem xv_328 : xokT 328 xt_328 = true := xokT_of (by decide +kernel) xe_328_0
set_option maxRecDepth 100000 in
theorem xe_329_0 : xall xt_329_0 (xokE 329) = true := by decide +kernel
theorem xv_329 : xokT 329 xt_329 = true := xokT_of (by decide +kernel) xe_329_0
set_option maxRecDepth 100000 in
theorem xe_330_0 : xall xt_330_0 (xokE 330) = true := by decide +kernel
theorem xv_330 : xokT 330 xt_330 = true := xokT_of (by decide +kernel) xe_330_0
set_option maxRecDepth 100000 in
theorem xe_331_0 : xall xt_331_0 (xokE 331) = true := by decide +kernel
theorem xv_331 : xokT 331 xt_331 = true := xokT_of (by decide +kernel) xe_331_0
set_option maxRecDepth 100000 in
theorem xe_332_0 : xall xt_332_0 (xokE 332) = true := by decide +kernel
theorem xv_332 : xokT 332 xt_332 = true := xokT_of (by decide +kernel) xe_332_0
set_option maxRecDepth 100000 in
theorem xe_333_0 : xall xt_333_0 (xokE 333) = true := by decide +kernel
theorem xv_333 : xokT 333 xt_333 = true := xokT_of (by decide +kernel) xe_333_0
set_option maxRecDepth 100000 in
theorem xe_334_0 : xall xt_334_0 (xokE 334) = true := by decide +kernel
theorem xv_334 : xokT 334 xt_334 = true := xokT_of (by decide +kernel) xe_334_0
set_option maxRecDepth 100000 in
theorem xe_335_0 : xall xt_335_0 (xokE 335) = true := by decide +kernel
theorem xv_335 : xokT 335 xt_335 = true := xokT_of (by decide +kernel) xe_335_0
set_option maxRecDepth 100000 in
theorem xe_336_0 : xall xt_336_0 (xokE 336) = true := by decide +kernel
theorem xv_336 : xokT 336 xt_336 = true := xokT_of (by decide +kernel) xe_336_0
set_option maxRecDepth 100000 in
theorem xe_337_0 : xall xt_337_0 (xokE 337) = true := by decide +kernel
theorem xv_337 : xokT 337 xt_337 = true := xokT_of (by decide +kernel) xe_337_0
set_option maxRecDepth 100000 in
theorem xe_338_0 : xall xt_338_0 (xokE 338) = true := by decide +kernel
theorem xv_338 : xokT 338 xt_338 = true := xokT_of (by decide +kernel) xe_338_0
set_option maxRecDepth 100000 in
theorem xe_339_0 : xall xt_339_0 (xokE 339) = true := by decide +kernel
theorem xv_339 : xokT 339 xt_339 = true := xokT_of (by decide +kernel) xe_339_0
set_option maxRecDepth 100000 in
theorem xe_340_0 : xall xt_340_0 (xokE 340) = true := by decide +kernel
set_option maxRecDepth 100000 in
theorem xe_340_100 : xall xt_340_100 (xokE 340) = true := by decide +kernel
theorem xv_340 : xokT 340 xt_340 = true := xokT_of (by decide +kernel) (xal_b xe_340_0 xe_340_100)
set_option maxRecDepth 100000 in
theorem xe_341_0 : xall xt_341_0 (xokE 341) = true := by decide +kernel
theorem xv_341 : xokT 341 xt_341 = true := xokT_of (by decide +kernel) xe_341_0
set_option maxRecDepth 100000 in
theorem xe_342_0 : xall xt_342_0 (xokE 342) = true := by decide +kernel
theorem xv_342 : xokT 342 xt_342 = true := xokT_of (by decide +kernel) xe_342_0
set_option maxRecDepth 100000 in
theorem xe_343_0 : xall xt_343_0 (xokE 343) = true := by decide +kernel
theorem xv_343 : xokT 343 xt_343 = true := xokT_of (by decide +kernel) xe_343_0
set_option maxRecDepth 100000 in
theorem xe_344_0 : xall xt_344_0 (xokE 344) = true := by decide +kernel
theorem xv_344 : xokT 344 xt_344 = true := xokT_of (by decide +kernel) xe_344_0
set_option maxRecDepth 100000 in
theorem xe_345_0 : xall xt_345_0 (xokE 345) = true := by decide +kernel
theorem xv_345 : xokT 345 xt_345 = true := xokT_of (by decide +kernel) xe_345_0
set_option maxRecDepth 100000 in
theorem xe_346_0 : xall xt_346_0 (xokE 346) = true := by decide +kernel
theorem xv_346 : xokT 346 xt_346 = true := xokT_of (by decide +kernel) xe_346_0
set_option maxRecDepth 100000 in
theorem xe_347_0 : xall xt_347_0 (xokE 347) = true := by decide +kernel
theorem xv_347 : xokT 347 xt_347 = true := xokT_of (by decide +kernel) xe_347_0
set_option maxRecDepth 100000 in
theorem xe_348_0 : xall xt_348_0 (xokE 348) = true := by decide +kernel
theorem xv_348 : xokT 348 xt_348 = true := xokT_of (by decide +kernel) xe_348_0
set_option maxRecDepth 100000 in
theorem xe_349_0 : xall xt_349_0 (xokE 349) = true := by decide +kernel
theorem xv_349 : xokT 349 xt_349 = true := xokT_of (by decide +kernel) xe_349_0
set_option maxRecDepth 100000 in
theorem xe_350_0 : xall xt_350_0 (xokE 350) = true := by decide +kernel
theorem xv_350 : xokT 350 xt_350 = true := xokT_of (by decide +kernel) xe_350_0
set_option maxRecDepth 100000 in
theorem xe_351_0 : xall xt_351_0 (xokE 351) = true := by decide +kernel
theorem xv_351 : xokT 351 xt_351 = true := xokT_of (by decide +kernel) xe_351_0
set_option maxRecDepth 100000 in
theorem xe_352_0 : xall xt_352_0 (xokE 352) = true := by decide +kernel
theorem xv_352 : xokT 352 xt_352 = true := xokT_of (by decide +kernel) xe_352_0
set_option maxRecDepth 100000 in
theorem xe_353_0 : xall xt_353_0 (xokE 353) = true := by decide +kernel
theorem xv_353 : xokT 353 xt_353 = true := xokT_of (by decide +kernel) xe_353_0
set_option maxRecDepth 100000 in
theorem xe_354_0 : xall xt_354_0 (xokE 354) = true := by decide +kernel
theorem xv_354 : xokT 354 xt_354 = true := xokT_of (by decide +kernel) xe_354_0
set_option maxRecDepth 100000 in
theorem xe_355_0 : xall xt_355_0 (xokE 355) = true := by decide +kernel
theorem xv_355 : xokT 355 xt_355 = true := xokT_of (by decide +kernel) xe_355_0
set_option maxRecDepth 100000 in
theorem xe_356_0 : xall xt_356_0 (xokE 356) = true := by decide +kernel
theorem xv_356 : xokT 356 xt_356 = true := xokT_of (by decide +kernel) xe_356_0
set_option maxRecDepth 100000 in
theorem xe_357_0 : xall xt_357_0 (xokE 357) = true := by decide +kernel
theorem xv_357 : xokT 357 xt_357 = true := xokT_of (by decide +kernel) xe_357_0
set_option maxRecDepth 100000 in
theorem xe_358_0 : xall xt_358_0 (xokE 358) = true := by decide +kernel
theorem xv_358 : xokT 358 xt_358 = true := xokT_of (by decide +kernel) xe_358_0
set_option maxRecDepth 100000 in
theorem xe_359_0 : xall xt_359_0 (xokE 359) = true := by decide +kernel
theorem xv_359 : xokT 359 xt_359 = true := xokT_of (by decide +kernel) xe_359_0
set_option maxRecDepth 100000 in
theorem xe_360_0 : xall xt_360_0 (xokE 360) = true := by decide +kernel
theorem xv_360 : xokT 360 xt_360 = true := xokT_of (by decide +kernel) xe_360_0
set_option maxRecDepth 100000 in
theorem xe_361_0 : xall xt_361_0 (xokE 361) = true := by decide +kernel
theorem xv_361 : xokT 361 xt_361 = true := xokT_of (by decide +kernel) xe_361_0
set_option maxRecDepth 100000 in
theorem xe_362_0 : xall xt_362_0 (xokE 362) = true := by decide +kernel
theorem xv_362 : xokT 362 xt_362 = true := xokT_of (by decide +kernel) xe_362_0
set_option maxRecDepth 100000 in
theorem xe_363_0 : xall xt_363_0 (xokE 363) = true := by decide +kernel
theorem xv_363 : xokT 363 xt_363 = true := xokT_of (by decide +kernel) xe_363_0
set_option maxRecDepth 100000 in
theorem xe_364_0 : xall xt_364_0 (xokE 364) = true := by decide +kernel
theorem xv_364 : xokT 364 xt_364 = true := xokT_of (by decide +kernel) xe_364_0
set_option maxRecDepth 100000 in
theorem xe_365_0 : xall xt_365_0 (xokE 365) = true := by decide +kernel
theorem xv_365 : xokT 365 xt_365 = true := xokT_of (by decide +kernel) xe_365_0
set_option maxRecDepth 100000 in
theorem xe_366_0 : xall xt_366_0 (xokE 366) = true := by decide +kernel
theorem xv_366 : xokT 366 xt_366 = true := xokT_of (by decide +kernel) xe_366_0
set_option maxRecDepth 100000 in
theorem xe_367_0 : xall xt_367_0 (xokE 367) = true := by decide +kernel
theorem xv_367 : xokT 367 xt_367 = true := xokT_of (by decide +kernel) xe_367_0
set_option maxRecDepth 100000 in
theorem xe_368_0 : xall xt_368_0 (xokE 368) = true := by decide +kernel
theorem xv_368 : xokT 368 xt_368 = true := xokT_of (by decide +kernel) xe_368_0
set_option maxRecDepth 100000 in
theorem xe_369_0 : xall xt_369_0 (xokE 369) = true := by decide +kernel
theorem xv_369 : xokT 369 xt_369 = true := xokT_of (by decide +kernel) xe_369_0
set_option maxRecDepth 100000 in
theorem xe_370_0 : xall xt_370_0 (xokE 370) = true := by decide +kernel
theorem xv_370 : xokT 370 xt_370 = true := xokT_of (by decide +kernel) xe_370_0
set_option maxRecDepth 100000 in
theorem xcode_ok : xall xcode xokT = true := (xal_b (xal_b (xal_b (xal_b (xal_b (xal_b (xal_b (xal_b xv_0 xv_1) (xal_b xv_2 (xal_b xv_3 xv_4))) (xal_b (xal_b xv_5 (xal_b xv_6 xv_7)) (xal_b xv_8 (xal_b xv_9 xv_10)))) (xal_b (xal_b (xal_b xv_11 (xal_b xv_12 xv_13)) (xal_b xv_14 (xal_b xv_15 xv_16))) (xal_b (xal_b xv_17 (xal_b xv_18 xv_19)) (xal_b xv_20 (xal_b xv_21 xv_22))))) (xal_b (xal_b (xal_b (xal_b xv_23 xv_24) (xal_b xv_25 (xal_b xv_26 xv_27))) (xal_b (xal_b xv_28 (xal_b xv_29 xv_30)) (xal_b xv_31 (xal_b xv_32 xv_33)))) (xal_b (xal_b (xal_b xv_34 (xal_b xv_35 xv_36)) (xal_b xv_37 (xal_b xv_38 xv_39))) (xal_b (xal_b xv_40 (xal_b xv_41 xv_42)) (xal_b xv_43 (xal_b xv_44 xv_45)))))) (xal_b (xal_b (xal_b (xal_b (xal_b xv_46 xv_47) (xal_b xv_48 (xal_b xv_49 xv_50))) (xal_b (xal_b xv_51 (xal_b xv_52 xv_53)) (xal_b xv_54 (xal_b xv_55 xv_56)))) (xal_b (xal_b (xal_b xv_57 (xal_b xv_58 xv_59)) (xal_b xv_60 (xal_b xv_61 xv_62))) (xal_b (xal_b xv_63 (xal_b xv_64 xv_65)) (xal_b xv_66 (xal_b xv_67 xv_68))))) (xal_b (xal_b (xal_b (xal_b xv_69 xv_70) (xal_b xv_71 (xal_b xv_72 xv_73))) (xal_b (xal_b xv_74 (xal_b xv_75 xv_76)) (xal_b xv_77 (xal_b xv_78 xv_79)))) (xal_b (xal_b (xal_b xv_80 (xal_b xv_81 xv_82)) (xal_b xv_83 (xal_b xv_84 xv_85))) (xal_b (xal_b xv_86 (xal_b xv_87 xv_88)) (xal_b xv_89 (xal_b xv_90 xv_91))))))) (xal_b (xal_b (xal_b (xal_b (xal_b (xal_b xv_92 xv_93) (xal_b xv_94 (xal_b xv_95 xv_96))) (xal_b (xal_b xv_97 (xal_b xv_98 xv_99)) (xal_b xv_100 (xal_b xv_101 xv_102)))) (xal_b (xal_b (xal_b xv_103 (xal_b xv_104 xv_105)) (xal_b xv_106 (xal_b xv_107 xv_108))) (xal_b (xal_b xv_109 (xal_b xv_110 xv_111)) (xal_b xv_112 (xal_b xv_113 xv_114))))) (xal_b (xal_b (xal_b (xal_b xv_115 xv_116) (xal_b xv_117 (xal_b xv_118 xv_119))) (xal_b (xal_b xv_120 (xal_b xv_121 xv_122)) (xal_b xv_123 (xal_b xv_124 xv_125)))) (xal_b (xal_b (xal_b xv_126 (xal_b xv_127 xv_128)) (xal_b xv_129 (xal_b xv_130 xv_131))) (xal_b (xal_b xv_132 (xal_b xv_133 xv_134)) (xal_b xv_135 (xal_b xv_136 xv_137)))))) (xal_b (xal_b (xal_b (xal_b (xal_b xv_138 xv_139) (xal_b xv_140 (xal_b xv_141 xv_142))) (xal_b (xal_b xv_143 (xal_b xv_144 xv_145)) (xal_b xv_146 (xal_b xv_147 xv_148)))) (xal_b (xal_b (xal_b xv_149 (xal_b xv_150 xv_151)) (xal_b xv_152 (xal_b xv_153 xv_154))) (xal_b (xal_b xv_155 (xal_b xv_156 xv_157)) (xal_b xv_158 (xal_b xv_159 xv_160))))) (xal_b (xal_b (xal_b (xal_b xv_161 (xal_b xv_162 xv_163)) (xal_b xv_164 (xal_b xv_165 xv_166))) (xal_b (xal_b xv_167 (xal_b xv_168 xv_169)) (xal_b xv_170 (xal_b xv_171 xv_172)))) (xal_b (xal_b (xal_b xv_173 (xal_b xv_174 xv_175)) (xal_b xv_176 (xal_b xv_177 xv_178))) (xal_b (xal_b xv_179 (xal_b xv_180 xv_181)) (xal_b xv_182 (xal_b xv_183 xv_184)))))))) (xal_b (xal_b (xal_b (xal_b (xal_b (xal_b (xal_b xv_185 xv_186) (xal_b xv_187 (xal_b xv_188 xv_189))) (xal_b (xal_b xv_190 (xal_b xv_191 xv_192)) (xal_b xv_193 (xal_b xv_194 xv_195)))) (xal_b (xal_b (xal_b xv_196 (xal_b xv_197 xv_198)) (xal_b xv_199 (xal_b xv_200 xv_201))) (xal_b (xal_b xv_202 (xal_b xv_203 xv_204)) (xal_b xv_205 (xal_b xv_206 xv_207))))) (xal_b (xal_b (xal_b (xal_b xv_208 xv_209) (xal_b xv_210 (xal_b xv_211 xv_212))) (xal_b (xal_b xv_213 (xal_b xv_214 xv_215)) (xal_b xv_216 (xal_b xv_217 xv_218)))) (xal_b (xal_b (xal_b xv_219 (xal_b xv_220 xv_221)) (xal_b xv_222 (xal_b xv_223 xv_224))) (xal_b (xal_b xv_225 (xal_b xv_226 xv_227)) (xal_b xv_228 (xal_b xv_229 xv_230)))))) (xal_b (xal_b (xal_b (xal_b (xal_b xv_231 xv_232) (xal_b xv_233 (xal_b xv_234 xv_235))) (xal_b (xal_b xv_236 (xal_b xv_237 xv_238)) (xal_b xv_239 (xal_b xv_240 xv_241)))) (xal_b (xal_b (xal_b xv_242 (xal_b xv_243 xv_244)) (xal_b xv_245 (xal_b xv_246 xv_247))) (xal_b (xal_b xv_248 (xal_b xv_249 xv_250)) (xal_b xv_251 (xal_b xv_252 xv_253))))) (xal_b (xal_b (xal_b (xal_b xv_254 (xal_b xv_255 xv_256)) (xal_b xv_257 (xal_b xv_258 xv_259))) (xal_b (xal_b xv_260 (xal_b xv_261 xv_262)) (xal_b xv_263 (xal_b xv_264 xv_265)))) (xal_b (xal_b (xal_b xv_266 (xal_b xv_267 xv_268)) (xal_b xv_269 (xal_b xv_270 xv_271))) (xal_b (xal_b xv_272 (xal_b xv_273 xv_274)) (xal_b xv_275 (xal_b xv_276 xv_277))))))) (xal_b (xal_b (xal_b (xal_b (xal_b (xal_b xv_278 xv_279) (xal_b xv_280 (xal_b xv_281 xv_282))) (xal_b (xal_b xv_283 (xal_b xv_284 xv_285)) (xal_b xv_286 (xal_b xv_287 xv_288)))) (xal_b (xal_b (xal_b xv_289 (xal_b xv_290 xv_291)) (xal_b xv_292 (xal_b xv_293 xv_294))) (xal_b (xal_b xv_295 (xal_b xv_296 xv_297)) (xal_b xv_298 (xal_b xv_299 xv_300))))) (xal_b (xal_b (xal_b (xal_b xv_301 xv_302) (xal_b xv_303 (xal_b xv_304 xv_305))) (xal_b (xal_b xv_306 (xal_b xv_307 xv_308)) (xal_b xv_309 (xal_b xv_310 xv_311)))) (xal_b (xal_b (xal_b xv_312 (xal_b xv_313 xv_314)) (xal_b xv_315 (xal_b xv_316 xv_317))) (xal_b (xal_b xv_318 (xal_b xv_319 xv_320)) (xal_b xv_321 (xal_b xv_322 xv_323)))))) (xal_b (xal_b (xal_b (xal_b (xal_b xv_324 xv_325) (xal_b xv_326 (xal_b xv_327 xv_328))) (xal_b (xal_b xv_329 (xal_b xv_330 xv_331)) (xal_b xv_332 (xal_b xv_333 xv_334)))) (xal_b (xal_b (xal_b xv_335 (xal_b xv_336 xv_337)) (xal_b xv_338 (xal_b xv_339 xv_340))) (xal_b (xal_b xv_341 (xal_b xv_342 xv_343)) (xal_b xv_344 (xal_b xv_345 xv_346))))) (xal_b (xal_b (xal_b (xal_b xv_347 (xal_b xv_348 xv_349)) (xal_b xv_350 (xal_b xv_351 xv_352))) (xal_b (xal_b xv_353 (xal_b xv_354 xv_355)) (xal_b xv_356 (xal_b xv_357 xv_358)))) (xal_b (xal_b (xal_b xv_359 (xal_b xv_360 xv_361)) (xal_b xv_362 (xal_b xv_363 xv_364))) (xal_b (xal_b xv_365 (xal_b xv_366 xv_367)) (xal_b xv_368 (xal_b xv_369 xv_370)))))))))
theorem xTab : xOK vwCl xnest xtxt xovr xcode xmeth xobj xby xnm xrtt xgw := xOK_of xcode_ok
