theorem c_0 : kmck mt_0 in_0 496 168 = true := by decide +kernel
set_option maxRecDepth 20000 in
theorem r_0_0 : kmr mt_0 in_0 0 16 = true := by decide +kernel
theorem q_0 : kmr mt_0 in_0 0 (16 * mt_0.2.2.2.length) = true := kmr_as (r_0_0) (by decide +kernel)
theorem c_1 : kmck mt_1 in_1 1039 168 = true := by decide +kernel
set_option maxRecDepth 20000 in
theorem r_1_0 : kmr mt_1 in_1 0 16 = true := by decide +kernel
theorem q_1 : kmr mt_1 in_1 0 (16 * mt_1.2.2.2.length) = true := kmr_as (r_1_0) (by decide +kernel)
theorem c_2 : kmck mt_2 in_2 1103 168 = true := by decide +kernel
set_option maxRecDepth 20000 in
theorem r_2_0 : kmr mt_2 in_2 0 32 = true := by decide +kernel
theorem q_2 : kmr mt_2 in_2 0 (16 * mt_2.2.2.2.length) = true := kmr_as (r_2_0) (by decide +kernel)
theorem c_3 : kmck mt_3 in_3 1107 168 = true := by decide +kernel
set_option maxRecDepth 20000 in
theorem r_3_0 : kmr mt_3 in_3 0 16 = true := by decide +kernel
theorem q_3 : kmr mt_3 in_3 0 (16 * mt_3.2.2.2.length) = true := kmr_as (r_3_0) (by decide +kernel)
theorem c_4 : kmck mt_4 in_4 1604 168 = true := by decide +kernel
set_option maxRecDepth 20000 in
theorem r_4_0 : kmr mt_4 in_4 0 16 = true := by decide +kernel
theorem q_4 : kmr mt_4 in_4 0 (16 * mt_4.2.2.2.length) = true := kmr_as (r_4_0) (by decide +kernel)
theorem c_5 : kmck mt_5 in_5 1612 168 = true := by decide +kernel
set_option maxRecDepth 20000 in
theorem r_5_0 : kmr mt_5 in_5 0 16 = true := by decide +kernel
theorem q_5 : kmr mt_5 in_5 0 (16 * mt_5.2.2.2.length) = true := kmr_as (r_5_0) (by decide +kernel)
theorem c_6 : kmck mt_6 in_6 1176 168 = true := by decide +kernel
set_option maxRecDepth 20000 in
theorem r_6_0 : kmr mt_6 in_6 0 32 = true := by decide +kernel
theorem q_6 : kmr mt_6 in_6 0 (16 * mt_6.2.2.2.length) = true := kmr_as (r_6_0) (by decide +kernel)
theorem c_7 : kmck mt_7 in_7 1172 168 = true := by decide +kernel
set_option maxRecDepth 20000 in
theorem r_7_0 : kmr mt_7 in_7 0 32 = true := by decide +kernel
theorem q_7 : kmr mt_7 in_7 0 (16 * mt_7.2.2.2.length) = true := kmr_as (r_7_0) (by decide +kernel)
theorem c_8 : kmck mt_8 in_8 1052 168 = true := by decide +kernel
set_option maxRecDepth 20000 in
theorem r_8_0 : kmr mt_8 in_8 0 48 = true := by decide +kernel
theorem q_8 : kmr mt_8 in_8 0 (16 * mt_8.2.2.2.length) = true := kmr_as (r_8_0) (by decide +kernel)
theorem c_9 : kmck mt_9 in_9 1253 168 = true := by decide +kernel
set_option maxRecDepth 20000 in
theorem r_9_0 : kmr mt_9 in_9 0 32 = true := by decide +kernel
theorem q_9 : kmr mt_9 in_9 0 (16 * mt_9.2.2.2.length) = true := kmr_as (r_9_0) (by decide +kernel)
theorem c_10 : kmck mt_10 in_10 1743 168 = true := by decide +kernel
set_option maxRecDepth 20000 in
theorem r_10_0 : kmr mt_10 in_10 0 48 = true := by decide +kernel
theorem q_10 : kmr mt_10 in_10 0 (16 * mt_10.2.2.2.length) = true := kmr_as (r_10_0) (by decide +kernel)
theorem c_11 : kmck mt_11 in_11 1547 168 = true := by decide +kernel
set_option maxRecDepth 20000 in
theorem r_11_0 : kmr mt_11 in_11 0 32 = true := by decide +kernel
theorem q_11 : kmr mt_11 in_11 0 (16 * mt_11.2.2.2.length) = true := kmr_as (r_11_0) (by decide +kernel)
theorem c_12 : kmck mt_12 in_12 1591 168 = true := by decide +kernel
set_option maxRecDepth 20000 in
theorem r_12_0 : kmr mt_12 in_12 0 48 = true := by decide +kernel
set_option maxRecDepth 20000 in
theorem r_12_48 : kmr mt_12 in_12 48 16 = true := by decide +kernel
theorem q_12 : kmr mt_12 in_12 0 (16 * mt_12.2.2.2.length) = true := kmr_as (kmr_join (r_12_0) r_12_48) (by decide +kernel)
theorem c_13 : kmck mt_13 in_13 323 163 = true := by decide +kernel
set_option maxRecDepth 20000 in
theorem r_13_0 : kmr mt_13 in_13 0 32 = true := by decide +kernel
theorem q_13 : kmr mt_13 in_13 0 (16 * mt_13.2.2.2.length) = true := kmr_as (r_13_0) (by decide +kernel)
theorem c_14 : kmck mt_14 in_14 1509 163 = true := by decide +kernel
set_option maxRecDepth 20000 in
theorem r_14_0 : kmr mt_14 in_14 0 48 = true := by decide +kernel
set_option maxRecDepth 20000 in
theorem r_14_48 : kmr mt_14 in_14 48 16 = true := by decide +kernel
theorem q_14 : kmr mt_14 in_14 0 (16 * mt_14.2.2.2.length) = true := kmr_as (kmr_join (r_14_0) r_14_48) (by decide +kernel)
theorem c_15 : kmck mt_15 in_15 1152 163 = true := by decide +kernel
set_option maxRecDepth 20000 in
theorem r_15_0 : kmr mt_15 in_15 0 48 = true := by decide +kernel
theorem q_15 : kmr mt_15 in_15 0 (16 * mt_15.2.2.2.length) = true := kmr_as (r_15_0) (by decide +kernel)
theorem c_16 : kmck mt_16 in_16 1522 163 = true := by decide +kernel
set_option maxRecDepth 20000 in
theorem r_16_0 : kmr mt_16 in_16 0 48 = true := by decide +kernel
set_option maxRecDepth 20000 in
theorem r_16_48 : kmr mt_16 in_16 48 16 = true := by decide +kernel
theorem q_16 : kmr mt_16 in_16 0 (16 * mt_16.2.2.2.length) = true := kmr_as (kmr_join (r_16_0) r_16_48) (by decide +kernel)
theorem c_17 : kmck mt_17 in_17 426 166 = true := by decide +kernel
set_option maxRecDepth 20000 in
theorem r_17_0 : kmr mt_17 in_17 0 32 = true := by decide +kernel
theorem q_17 : kmr mt_17 in_17 0 (16 * mt_17.2.2.2.length) = true := kmr_as (r_17_0) (by decide +kernel)
theorem c_18 : kmck mt_18 in_18 1638 166 = true := by decide +kernel
set_option maxRecDepth 20000 in
theorem r_18_0 : kmr mt_18 in_18 0 16 = true := by decide +kernel
theorem q_18 : kmr mt_18 in_18 0 (16 * mt_18.2.2.2.length) = true := kmr_as (r_18_0) (by decide +kernel)
theorem c_19 : kmck mt_19 in_19 1628 166 = true := by decide +kernel
set_option maxRecDepth 20000 in
theorem r_19_0 : kmr mt_19 in_19 0 32 = true := by decide +kernel
theorem q_19 : kmr mt_19 in_19 0 (16 * mt_19.2.2.2.length) = true := kmr_as (r_19_0) (by decide +kernel)
theorem c_20 : kmck mt_20 in_20 1642 166 = true := by decide +kernel
set_option maxRecDepth 20000 in
theorem r_20_0 : kmr mt_20 in_20 0 32 = true := by decide +kernel
theorem q_20 : kmr mt_20 in_20 0 (16 * mt_20.2.2.2.length) = true := kmr_as (r_20_0) (by decide +kernel)
theorem c_21 : kmck mt_21 in_21 1633 166 = true := by decide +kernel
set_option maxRecDepth 20000 in
theorem r_21_0 : kmr mt_21 in_21 0 48 = true := by decide +kernel
theorem q_21 : kmr mt_21 in_21 0 (16 * mt_21.2.2.2.length) = true := kmr_as (r_21_0) (by decide +kernel)
theorem c_22 : kmck mt_22 in_22 1646 166 = true := by decide +kernel
set_option maxRecDepth 20000 in
theorem r_22_0 : kmr mt_22 in_22 0 48 = true := by decide +kernel
theorem q_22 : kmr mt_22 in_22 0 (16 * mt_22.2.2.2.length) = true := kmr_as (r_22_0) (by decide +kernel)
theorem c_23 : kmck mt_23 in_23 229 160 = true := by decide +kernel
set_option maxRecDepth 20000 in
theorem r_23_0 : kmr mt_23 in_23 0 48 = true := by decide +kernel
set_option maxRecDepth 20000 in
theorem r_23_48 : kmr mt_23 in_23 48 16 = true := by decide +kernel
theorem q_23 : kmr mt_23 in_23 0 (16 * mt_23.2.2.2.length) = true := kmr_as (kmr_join (r_23_0) r_23_48) (by decide +kernel)
theorem c_24 : kmck mt_24 in_24 760 160 = true := by decide +kernel
set_option maxRecDepth 20000 in
theorem r_24_0 : kmr mt_24 in_24 0 32 = true := by decide +kernel
theorem q_24 : kmr mt_24 in_24 0 (16 * mt_24.2.2.2.length) = true := kmr_as (r_24_0) (by decide +kernel)
theorem c_25 : kmck mt_25 in_25 1094 160 = true := by decide +kernel
set_option maxRecDepth 20000 in
theorem r_25_0 : kmr mt_25 in_25 0 16 = true := by decide +kernel
theorem q_25 : kmr mt_25 in_25 0 (16 * mt_25.2.2.2.length) = true := kmr_as (r_25_0) (by decide +kernel)
theorem c_26 : kmck mt_26 in_26 1658 160 = true := by decide +kernel
set_option maxRecDepth 20000 in
theorem r_26_0 : kmr mt_26 in_26 0 16 = true := by decide +kernel
theorem q_26 : kmr mt_26 in_26 0 (16 * mt_26.2.2.2.length) = true := kmr_as (r_26_0) (by decide +kernel)
theorem c_27 : kmck mt_27 in_27 1395 160 = true := by decide +kernel
set_option maxRecDepth 20000 in
theorem r_27_0 : kmr mt_27 in_27 0 32 = true := by decide +kernel
theorem q_27 : kmr mt_27 in_27 0 (16 * mt_27.2.2.2.length) = true := kmr_as (r_27_0) (by decide +kernel)
theorem c_28 : kmck mt_28 in_28 1404 160 = true := by decide +kernel
set_option maxRecDepth 20000 in
theorem r_28_0 : kmr mt_28 in_28 0 48 = true := by decide +kernel
theorem q_28 : kmr mt_28 in_28 0 (16 * mt_28.2.2.2.length) = true := kmr_as (r_28_0) (by decide +kernel)
theorem c_29 : kmck mt_29 in_29 1408 160 = true := by decide +kernel
set_option maxRecDepth 20000 in
theorem r_29_0 : kmr mt_29 in_29 0 48 = true := by decide +kernel
theorem q_29 : kmr mt_29 in_29 0 (16 * mt_29.2.2.2.length) = true := kmr_as (r_29_0) (by decide +kernel)
theorem c_30 : kmck mt_30 in_30 1419 160 = true := by decide +kernel
set_option maxRecDepth 20000 in
theorem r_30_0 : kmr mt_30 in_30 0 32 = true := by decide +kernel
theorem q_30 : kmr mt_30 in_30 0 (16 * mt_30.2.2.2.length) = true := kmr_as (r_30_0) (by decide +kernel)
theorem c_31 : kmck mt_31 in_31 1413 160 = true := by decide +kernel
set_option maxRecDepth 20000 in
theorem r_31_0 : kmr mt_31 in_31 0 48 = true := by decide +kernel
set_option maxRecDepth 20000 in
theorem r_31_48 : kmr mt_31 in_31 48 16 = true := by decide +kernel
theorem q_31 : kmr mt_31 in_31 0 (16 * mt_31.2.2.2.length) = true := kmr_as (kmr_join (r_31_0) r_31_48) (by decide +kernel)
theorem c_32 : kmck mt_32 in_32 1424 160 = true := by decide +kernel
set_option maxRecDepth 20000 in
theorem r_32_0 : kmr mt_32 in_32 0 48 = true := by decide +kernel
theorem q_32 : kmr mt_32 in_32 0 (16 * mt_32.2.2.2.length) = true := kmr_as (r_32_0) (by decide +kernel)
theorem c_33 : kmck mt_33 in_33 1429 160 = true := by decide +kernel
set_option maxRecDepth 20000 in
theorem r_33_0 : kmr mt_33 in_33 0 48 = true := by decide +kernel
set_option maxRecDepth 20000 in
theorem r_33_48 : kmr mt_33 in_33 48 16 = true := by decide +kernel
theorem q_33 : kmr mt_33 in_33 0 (16 * mt_33.2.2.2.length) = true := kmr_as (kmr_join (r_33_0) r_33_48) (by decide +kernel)
theorem c_34 : kmck mt_34 in_34 1433 160 = true := by decide +kernel
set_option maxRecDepth 20000 in
theorem r_34_0 : kmr mt_34 in_34 0 32 = true := by decide +kernel
theorem q_34 : kmr mt_34 in_34 0 (16 * mt_34.2.2.2.length) = true := kmr_as (r_34_0) (by decide +kernel)
theorem c_35 : kmck mt_35 in_35 1481 160 = true := by decide +kernel
set_option maxRecDepth 20000 in
theorem r_35_0 : kmr mt_35 in_35 0 32 = true := by decide +kernel
theorem q_35 : kmr mt_35 in_35 0 (16 * mt_35.2.2.2.length) = true := kmr_as (r_35_0) (by decide +kernel)
theorem c_36 : kmck mt_36 in_36 1489 160 = true := by decide +kernel
set_option maxRecDepth 20000 in
theorem r_36_0 : kmr mt_36 in_36 0 48 = true := by decide +kernel
theorem q_36 : kmr mt_36 in_36 0 (16 * mt_36.2.2.2.length) = true := kmr_as (r_36_0) (by decide +kernel)
theorem c_37 : kmck mt_37 in_37 1493 160 = true := by decide +kernel
set_option maxRecDepth 20000 in
theorem r_37_0 : kmr mt_37 in_37 0 48 = true := by decide +kernel
theorem q_37 : kmr mt_37 in_37 0 (16 * mt_37.2.2.2.length) = true := kmr_as (r_37_0) (by decide +kernel)
theorem c_38 : kmck mt_38 in_38 1497 160 = true := by decide +kernel
set_option maxRecDepth 20000 in
theorem r_38_0 : kmr mt_38 in_38 0 48 = true := by decide +kernel
theorem q_38 : kmr mt_38 in_38 0 (16 * mt_38.2.2.2.length) = true := kmr_as (r_38_0) (by decide +kernel)
theorem c_39 : kmck mt_39 in_39 1501 160 = true := by decide +kernel
set_option maxRecDepth 20000 in
theorem r_39_0 : kmr mt_39 in_39 0 32 = true := by decide +kernel
theorem q_39 : kmr mt_39 in_39 0 (16 * mt_39.2.2.2.length) = true := kmr_as (r_39_0) (by decide +kernel)
