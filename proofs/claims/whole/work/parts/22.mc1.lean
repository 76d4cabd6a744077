set_option maxRecDepth 20000 in
theorem c_0 : kmck mt_0 in_0 496 168 = true := by decide +kernel
set_option maxRecDepth 20000 in
theorem c_1 : kmck mt_1 in_1 1039 168 = true := by decide +kernel
set_option maxRecDepth 20000 in
theorem c_2 : kmck mt_2 in_2 1103 168 = true := by decide +kernel
set_option maxRecDepth 20000 in
theorem c_3 : kmck mt_3 in_3 1107 168 = true := by decide +kernel
set_option maxRecDepth 20000 in
theorem c_4 : kmck mt_4 in_4 1604 168 = true := by decide +kernel
set_option maxRecDepth 20000 in
theorem c_5 : kmck mt_5 in_5 1612 168 = true := by decide +kernel
set_option maxRecDepth 20000 in
theorem c_6 : kmck mt_6 in_6 1176 168 = true := by decide +kernel
set_option maxRecDepth 20000 in
theorem c_7 : kmck mt_7 in_7 1172 168 = true := by decide +kernel
set_option maxRecDepth 20000 in
theorem c_8 : kmck mt_8 in_8 1052 168 = true := by decide +kernel
set_option maxRecDepth 20000 in
theorem c_9 : kmck mt_9 in_9 1253 168 = true := by decide +kernel
set_option maxRecDepth 20000 in
theorem c_10 : kmck mt_10 in_10 1743 168 = true := by decide +kernel
set_option maxRecDepth 20000 in
theorem c_11 : kmck mt_11 in_11 1547 168 = true := by decide +kernel
set_option maxRecDepth 20000 in
theorem c_12 : kmck mt_12 in_12 1591 168 = true := by decide +kernel
set_option maxRecDepth 20000 in
theorem c_13 : kmck mt_13 in_13 323 163 = true := by decide +kernel
set_option maxRecDepth 20000 in
theorem c_14 : kmck mt_14 in_14 1509 163 = true := by decide +kernel
set_option maxRecDepth 20000 in
theorem c_15 : kmck mt_15 in_15 1152 163 = true := by decide +kernel
set_option maxRecDepth 20000 in
theorem c_16 : kmck mt_16 in_16 1522 163 = true := by decide +kernel
set_option maxRecDepth 20000 in
theorem c_17 : kmck mt_17 in_17 426 166 = true := by decide +kernel
set_option maxRecDepth 20000 in
theorem c_18 : kmck mt_18 in_18 1638 166 = true := by decide +kernel
set_option maxRecDepth 20000 in
theorem c_19 : kmck mt_19 in_19 1628 166 = true := by decide +kernel
set_option maxRecDepth 20000 in
theorem c_20 : kmck mt_20 in_20 1642 166 = true := by decide +kernel
set_option maxRecDepth 20000 in
theorem c_21 : kmck mt_21 in_21 1633 166 = true := by decide +kernel
set_option maxRecDepth 20000 in
theorem c_22 : kmck mt_22 in_22 1646 166 = true := by decide +kernel
set_option maxRecDepth 20000 in
theorem c_23 : kmck mt_23 in_23 229 160 = true := by decide +kernel
set_option maxRecDepth 20000 in
theorem c_24 : kmck mt_24 in_24 760 160 = true := by decide +kernel
set_option maxRecDepth 20000 in
theorem c_25 : kmck mt_25 in_25 1094 160 = true := by decide +kernel
set_option maxRecDepth 20000 in
theorem c_26 : kmck mt_26 in_26 1658 160 = true := by decide +kernel
set_option maxRecDepth 20000 in
theorem c_27 : kmck mt_27 in_27 1395 160 = true := by decide +kernel
set_option maxRecDepth 20000 in
theorem c_28 : kmck mt_28 in_28 1404 160 = true := by decide +kernel
set_option maxRecDepth 20000 in
theorem c_29 : kmck mt_29 in_29 1408 160 = true := by decide +kernel
set_option maxRecDepth 20000 in
theorem c_30 : kmck mt_30 in_30 1419 160 = true := by decide +kernel
set_option maxRecDepth 20000 in
theorem c_31 : kmck mt_31 in_31 1413 160 = true := by decide +kernel
set_option maxRecDepth 20000 in
theorem c_32 : kmck mt_32 in_32 1424 160 = true := by decide +kernel
set_option maxRecDepth 20000 in
theorem c_33 : kmck mt_33 in_33 1429 160 = true := by decide +kernel
set_option maxRecDepth 20000 in
theorem c_34 : kmck mt_34 in_34 1433 160 = true := by decide +kernel
set_option maxRecDepth 20000 in
theorem c_35 : kmck mt_35 in_35 1481 160 = true := by decide +kernel
set_option maxRecDepth 20000 in
theorem c_36 : kmck mt_36 in_36 1489 160 = true := by decide +kernel
set_option maxRecDepth 20000 in
theorem c_37 : kmck mt_37 in_37 1493 160 = true := by decide +kernel
set_option maxRecDepth 20000 in
theorem c_38 : kmck mt_38 in_38 1497 160 = true := by decide +kernel
set_option maxRecDepth 20000 in
theorem c_39 : kmck mt_39 in_39 1501 160 = true := by decide +kernel
