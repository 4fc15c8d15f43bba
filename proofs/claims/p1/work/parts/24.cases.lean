/-! A case of the law's switch: one run each -/
noncomputable def xcs (t : Nat) : xR := xrun xcode xmeth xobj (xel 6) xeb 20000 0 7 t [(3, (0, 0)), (2, (4, 253)), (1, (4, 0)), (0, (6, 0))] [] xb0 xh2 270 270 13086
def xgood (r : xR) : Bool := match r with
  | none => false
  | some M => M.all (fun q => match q.2.2.2 with
    | none => false
    | some w => Nat.beq w.1 0 && Nat.beq w.2 1)
set_option maxRecDepth 100000 in
theorem xck_0 : xgood (xcs 276) = true := by decide +kernel
set_option maxRecDepth 100000 in
theorem xck_1 : xgood (xcs 289) = true := by decide +kernel
set_option maxRecDepth 100000 in
theorem xck_2 : xgood (xcs 303) = true := by decide +kernel
set_option maxRecDepth 100000 in
theorem xck_4 : xgood (xcs 360) = true := by decide +kernel
set_option maxRecDepth 100000 in
theorem xck_5 : xgood (xcs 433) = true := by decide +kernel
set_option maxRecDepth 100000 in
theorem xck_6 : xgood (xcs 467) = true := by decide +kernel
set_option maxRecDepth 100000 in
theorem xck_7 : xgood (xcs 530) = true := by decide +kernel
set_option maxRecDepth 100000 in
theorem xck_8 : xgood (xcs 593) = true := by decide +kernel
set_option maxRecDepth 100000 in
theorem xck_9 : xgood (xcs 616) = true := by decide +kernel
set_option maxRecDepth 100000 in
theorem xck_10 : xgood (xcs 639) = true := by decide +kernel
set_option maxRecDepth 100000 in
theorem xck_11 : xgood (xcs 662) = true := by decide +kernel
set_option maxRecDepth 100000 in
theorem xck_12 : xgood (xcs 685) = true := by decide +kernel
set_option maxRecDepth 100000 in
theorem xck_13 : xgood (xcs 708) = true := by decide +kernel
set_option maxRecDepth 100000 in
theorem xck_14 : xgood (xcs 741) = true := by decide +kernel
set_option maxRecDepth 100000 in
theorem xck_15 : xgood (xcs 774) = true := by decide +kernel
set_option maxRecDepth 100000 in
theorem xck_16 : xgood (xcs 797) = true := by decide +kernel
set_option maxRecDepth 100000 in
theorem xck_17 : xgood (xcs 830) = true := by decide +kernel
set_option maxRecDepth 100000 in
theorem xck_18 : xgood (xcs 863) = true := by decide +kernel
set_option maxRecDepth 100000 in
theorem xck_19 : xgood (xcs 916) = true := by decide +kernel
set_option maxRecDepth 100000 in
theorem xck_20 : xgood (xcs 969) = true := by decide +kernel
set_option maxRecDepth 100000 in
theorem xck_21 : xgood (xcs 1022) = true := by decide +kernel
set_option maxRecDepth 100000 in
theorem xck_22 : xgood (xcs 1065) = true := by decide +kernel
set_option maxRecDepth 100000 in
theorem xck_23 : xgood (xcs 1118) = true := by decide +kernel
set_option maxRecDepth 100000 in
theorem xck_24 : xgood (xcs 1171) = true := by decide +kernel
set_option maxRecDepth 100000 in
theorem xck_25 : xgood (xcs 1214) = true := by decide +kernel
set_option maxRecDepth 100000 in
theorem xck_26 : xgood (xcs 1237) = true := by decide +kernel
set_option maxRecDepth 100000 in
theorem xck_27 : xgood (xcs 1270) = true := by decide +kernel
set_option maxRecDepth 100000 in
theorem xck_28 : xgood (xcs 1303) = true := by decide +kernel
set_option maxRecDepth 100000 in
theorem xck_29 : xgood (xcs 1326) = true := by decide +kernel
set_option maxRecDepth 100000 in
theorem xck_30 : xgood (xcs 1359) = true := by decide +kernel
set_option maxRecDepth 100000 in
theorem xck_31 : xgood (xcs 1392) = true := by decide +kernel
set_option maxRecDepth 100000 in
theorem xck_32 : xgood (xcs 1425) = true := by decide +kernel
set_option maxRecDepth 100000 in
theorem xck_33 : xgood (xcs 1474) = true := by decide +kernel
set_option maxRecDepth 100000 in
theorem xck_34 : xgood (xcs 1533) = true := by decide +kernel
set_option maxRecDepth 100000 in
theorem xck_35 : xgood (xcs 1556) = true := by decide +kernel
set_option maxRecDepth 100000 in
theorem xck_36 : xgood (xcs 1579) = true := by decide +kernel
set_option maxRecDepth 100000 in
theorem xck_37 : xgood (xcs 1602) = true := by decide +kernel
set_option maxRecDepth 100000 in
theorem xck_38 : xgood (xcs 1625) = true := by decide +kernel
set_option maxRecDepth 100000 in
theorem xck_39 : xgood (xcs 1658) = true := by decide +kernel
set_option maxRecDepth 100000 in
theorem xck_40 : xgood (xcs 1711) = true := by decide +kernel
set_option maxRecDepth 100000 in
theorem xck_41 : xgood (xcs 1734) = true := by decide +kernel
set_option maxRecDepth 100000 in
theorem xck_42 : xgood (xcs 1767) = true := by decide +kernel
set_option maxRecDepth 100000 in
theorem xck_43 : xgood (xcs 1790) = true := by decide +kernel
set_option maxRecDepth 100000 in
theorem xck_44 : xgood (xcs 1823) = true := by decide +kernel
set_option maxRecDepth 100000 in
theorem xck_45 : xgood (xcs 1856) = true := by decide +kernel
set_option maxRecDepth 100000 in
theorem xck_46 : xgood (xcs 1869) = true := by decide +kernel
set_option maxRecDepth 100000 in
theorem xck_47 : xgood (xcs 1882) = true := by decide +kernel
set_option maxRecDepth 100000 in
theorem xck_48 : xgood (xcs 1895) = true := by decide +kernel
set_option maxRecDepth 100000 in
theorem xck_49 : xgood (xcs 1928) = true := by decide +kernel
set_option maxRecDepth 100000 in
theorem xck_50 : xgood (xcs 1951) = true := by decide +kernel
set_option maxRecDepth 100000 in
theorem xck_51 : xgood (xcs 1984) = true := by decide +kernel
set_option maxRecDepth 100000 in
theorem xck_52 : xgood (xcs 2017) = true := by decide +kernel
set_option maxRecDepth 100000 in
theorem xck_53 : xgood (xcs 2040) = true := by decide +kernel
set_option maxRecDepth 100000 in
theorem xck_54 : xgood (xcs 2063) = true := by decide +kernel
set_option maxRecDepth 100000 in
theorem xck_55 : xgood (xcs 2096) = true := by decide +kernel
set_option maxRecDepth 100000 in
theorem xck_56 : xgood (xcs 2109) = true := by decide +kernel
set_option maxRecDepth 100000 in
theorem xck_57 : xgood (xcs 2122) = true := by decide +kernel
noncomputable def xshort (L : Nat) : xR := xrun xcode xmeth xobj (xel L) xeb 100 0 7 18 [(3, (0, 0)), (2, (4, 253)), (1, (4, 0)), (0, (6, 0))] [] xb0 xh2 270 270 13086
set_option maxRecDepth 100000 in
theorem xsh_0 : xgood (xshort 0) = true := by decide +kernel
set_option maxRecDepth 100000 in
theorem xsh_1 : xgood (xshort 1) = true := by decide +kernel
set_option maxRecDepth 100000 in
theorem xsh_2 : xgood (xshort 2) = true := by decide +kernel
set_option maxRecDepth 100000 in
theorem xsh_3 : xgood (xshort 3) = true := by decide +kernel
set_option maxRecDepth 100000 in
theorem xsh_4 : xgood (xshort 4) = true := by decide +kernel
set_option maxRecDepth 100000 in
theorem xsh_5 : xgood (xshort 5) = true := by decide +kernel
