/-! THE REFERENCE: what the tables say of it -/
set_option maxRecDepth 100000 in
theorem rp_0_c : (rp_0_l.all fun q => mm_chk rp_K 6 prog_8_method_2_code rp_0_l q.1 q.2) = true := by decide +kernel
set_option maxRecDepth 100000 in
theorem rp_0_ok : mm_MOk ww_tbl ww_nm rp_K rp_0 := ⟨ww_c4 43 rfl rfl, ww_c1 7 rfl rfl, rfl, by decide, ⟨by decide, by decide⟩, by decide, ⟨_, rfl⟩, by decide, List.all_eq_true.mp rp_0_c⟩
set_option maxRecDepth 100000 in
theorem rp_1_c : (rp_1_l.all fun q => mm_chk rp_K 6 prog_8_method_3_code rp_1_l q.1 q.2) = true := by decide +kernel
set_option maxRecDepth 100000 in
theorem rp_1_ok : mm_MOk ww_tbl ww_nm rp_K rp_1 := ⟨ww_c4 70 rfl rfl, ww_c1 7 rfl rfl, rfl, by decide, ⟨by decide, by decide⟩, by decide, ⟨_, rfl⟩, by decide, List.all_eq_true.mp rp_1_c⟩
set_option maxRecDepth 100000 in
theorem rp_2_c : (rp_2_l.all fun q => mm_chk rp_K 6 prog_8_method_4_code rp_2_l q.1 q.2) = true := by decide +kernel
set_option maxRecDepth 100000 in
theorem rp_2_ok : mm_MOk ww_tbl ww_nm rp_K rp_2 := ⟨ww_c4 50 rfl rfl, ww_c1 7 rfl rfl, rfl, by decide, ⟨by decide, by decide⟩, by decide, ⟨_, rfl⟩, by decide, List.all_eq_true.mp rp_2_c⟩
set_option maxRecDepth 100000 in
theorem rp_3_c : (rp_3_l.all fun q => mm_chk rp_K 6 prog_8_method_5_code rp_3_l q.1 q.2) = true := by decide +kernel
set_option maxRecDepth 100000 in
theorem rp_3_ok : mm_MOk ww_tbl ww_nm rp_K rp_3 := ⟨ww_c4 73 rfl rfl, ww_c1 7 rfl rfl, rfl, by decide, ⟨by decide, by decide⟩, by decide, ⟨_, rfl⟩, by decide, List.all_eq_true.mp rp_3_c⟩
set_option maxRecDepth 100000 in
theorem rp_4_c : (rp_4_l.all fun q => mm_chk rp_K 6 prog_8_method_6_code rp_4_l q.1 q.2) = true := by decide +kernel
set_option maxRecDepth 100000 in
theorem rp_4_ok : mm_MOk ww_tbl ww_nm rp_K rp_4 := ⟨ww_c4 39 rfl rfl, ww_c1 7 rfl rfl, rfl, by decide, ⟨by decide, by decide⟩, by decide, ⟨_, rfl⟩, by decide, List.all_eq_true.mp rp_4_c⟩
set_option maxRecDepth 100000 in
theorem rp_5_c : (rp_5_l.all fun q => mm_chk rp_K 6 prog_8_method_7_code rp_5_l q.1 q.2) = true := by decide +kernel
set_option maxRecDepth 100000 in
theorem rp_5_ok : mm_MOk ww_tbl ww_nm rp_K rp_5 := ⟨ww_c4 35 rfl rfl, ww_c1 7 rfl rfl, rfl, by decide, ⟨by decide, by decide⟩, by decide, ⟨_, rfl⟩, by decide, List.all_eq_true.mp rp_5_c⟩
set_option maxRecDepth 100000 in
theorem rp_6_c : (rp_6_l.all fun q => mm_chk rp_K 6 prog_8_method_8_code rp_6_l q.1 q.2) = true := by decide +kernel
set_option maxRecDepth 100000 in
theorem rp_6_ok : mm_MOk ww_tbl ww_nm rp_K rp_6 := ⟨ww_c4 54 rfl rfl, ww_c1 7 rfl rfl, rfl, by decide, ⟨by decide, by decide⟩, by decide, ⟨_, rfl⟩, by decide, List.all_eq_true.mp rp_6_c⟩
set_option maxRecDepth 100000 in
theorem rp_7_c : (rp_7_l.all fun q => mm_chk rp_K 6 prog_8_method_9_code rp_7_l q.1 q.2) = true := by decide +kernel
set_option maxRecDepth 100000 in
theorem rp_7_ok : mm_MOk ww_tbl ww_nm rp_K rp_7 := ⟨ww_c4 47 rfl rfl, ww_c1 7 rfl rfl, rfl, by decide, ⟨by decide, by decide⟩, by decide, ⟨_, rfl⟩, by decide, List.all_eq_true.mp rp_7_c⟩
set_option maxRecDepth 100000 in
theorem rp_8_c : (rp_8_l.all fun q => mm_chk rp_K 6 prog_8_method_10_code rp_8_l q.1 q.2) = true := by decide +kernel
set_option maxRecDepth 100000 in
theorem rp_8_ok : mm_MOk ww_tbl ww_nm rp_K rp_8 := ⟨ww_c4 58 rfl rfl, ww_c1 7 rfl rfl, rfl, by decide, ⟨by decide, by decide⟩, by decide, ⟨_, rfl⟩, by decide, List.all_eq_true.mp rp_8_c⟩
set_option maxRecDepth 100000 in
theorem rp_9_c : (rp_9_l.all fun q => mm_chk rp_K 6 prog_8_method_11_code rp_9_l q.1 q.2) = true := by decide +kernel
set_option maxRecDepth 100000 in
theorem rp_9_ok : mm_MOk ww_tbl ww_nm rp_K rp_9 := ⟨ww_c4 66 rfl rfl, ww_c1 7 rfl rfl, rfl, by decide, ⟨by decide, by decide⟩, by decide, ⟨_, rfl⟩, by decide, List.all_eq_true.mp rp_9_c⟩
set_option maxRecDepth 100000 in
theorem rp_10_c : (rp_10_l.all fun q => mm_chk rp_K 6 prog_8_method_12_code rp_10_l q.1 q.2) = true := by decide +kernel
set_option maxRecDepth 100000 in
theorem rp_10_ok : mm_MOk ww_tbl ww_nm rp_K rp_10 := ⟨ww_c4 62 rfl rfl, ww_c1 7 rfl rfl, rfl, by decide, ⟨by decide, by decide⟩, by decide, ⟨_, rfl⟩, by decide, List.all_eq_true.mp rp_10_c⟩
set_option maxRecDepth 100000 in
theorem rp_11_c : (rp_11_l.all fun q => mm_chk rp_K 6 prog_8_method_13_code rp_11_l q.1 q.2) = true := by decide +kernel
set_option maxRecDepth 100000 in
theorem rp_11_ok : mm_MOk ww_tbl ww_nm rp_K rp_11 := ⟨ww_c4 117 rfl rfl, ww_c1 7 rfl rfl, rfl, by decide, ⟨by decide, by decide⟩, by decide, ⟨_, rfl⟩, by decide, List.all_eq_true.mp rp_11_c⟩
set_option maxRecDepth 100000 in
theorem rp_12_c : (rp_12_l.all fun q => mm_chk rp_K 6 prog_8_method_14_code rp_12_l q.1 q.2) = true := by decide +kernel
set_option maxRecDepth 100000 in
theorem rp_12_ok : mm_MOk ww_tbl ww_nm rp_K rp_12 := ⟨ww_c4 140 rfl rfl, ww_c1 7 rfl rfl, rfl, by decide, ⟨by decide, by decide⟩, by decide, ⟨_, rfl⟩, by decide, List.all_eq_true.mp rp_12_c⟩
set_option maxRecDepth 100000 in
theorem rp_13_c : (rp_13_l.all fun q => mm_chk rp_K 6 prog_8_method_15_code rp_13_l q.1 q.2) = true := by decide +kernel
set_option maxRecDepth 100000 in
theorem rp_13_ok : mm_MOk ww_tbl ww_nm rp_K rp_13 := ⟨ww_c4 85 rfl rfl, ww_c1 7 rfl rfl, rfl, by decide, ⟨by decide, by decide⟩, by decide, ⟨_, rfl⟩, by decide, List.all_eq_true.mp rp_13_c⟩
set_option maxRecDepth 100000 in
theorem rp_14_c : (rp_14_l.all fun q => mm_chk rp_K 6 prog_8_method_16_code rp_14_l q.1 q.2) = true := by decide +kernel
set_option maxRecDepth 100000 in
theorem rp_14_ok : mm_MOk ww_tbl ww_nm rp_K rp_14 := ⟨ww_c4 90 rfl rfl, ww_c1 7 rfl rfl, rfl, by decide, ⟨by decide, by decide⟩, by decide, ⟨_, rfl⟩, by decide, List.all_eq_true.mp rp_14_c⟩
set_option maxRecDepth 100000 in
theorem rp_15_c : (rp_15_l.all fun q => mm_chk rp_K 6 prog_8_method_17_code rp_15_l q.1 q.2) = true := by decide +kernel
set_option maxRecDepth 100000 in
theorem rp_15_ok : mm_MOk ww_tbl ww_nm rp_K rp_15 := ⟨ww_c4 81 rfl rfl, ww_c1 7 rfl rfl, rfl, by decide, ⟨by decide, by decide⟩, by decide, ⟨_, rfl⟩, by decide, List.all_eq_true.mp rp_15_c⟩
set_option maxRecDepth 100000 in
theorem rp_16_c : (rp_16_l.all fun q => mm_chk rp_K 6 prog_8_method_18_code rp_16_l q.1 q.2) = true := by decide +kernel
set_option maxRecDepth 100000 in
theorem rp_16_ok : mm_MOk ww_tbl ww_nm rp_K rp_16 := ⟨ww_c4 102 rfl rfl, ww_c1 7 rfl rfl, rfl, by decide, ⟨by decide, by decide⟩, by decide, ⟨_, rfl⟩, by decide, List.all_eq_true.mp rp_16_c⟩
set_option maxRecDepth 100000 in
theorem rp_17_c : (rp_17_l.all fun q => mm_chk rp_K 6 prog_8_method_19_code rp_17_l q.1 q.2) = true := by decide +kernel
set_option maxRecDepth 100000 in
theorem rp_17_ok : mm_MOk ww_tbl ww_nm rp_K rp_17 := ⟨ww_c4 98 rfl rfl, ww_c1 7 rfl rfl, rfl, by decide, ⟨by decide, by decide⟩, by decide, ⟨_, rfl⟩, by decide, List.all_eq_true.mp rp_17_c⟩
set_option maxRecDepth 100000 in
theorem rp_18_c : (rp_18_l.all fun q => mm_chk rp_K 6 prog_8_method_20_code rp_18_l q.1 q.2) = true := by decide +kernel
set_option maxRecDepth 100000 in
theorem rp_18_ok : mm_MOk ww_tbl ww_nm rp_K rp_18 := ⟨ww_c4 121 rfl rfl, ww_c1 7 rfl rfl, rfl, by decide, ⟨by decide, by decide⟩, by decide, ⟨_, rfl⟩, by decide, List.all_eq_true.mp rp_18_c⟩
set_option maxRecDepth 100000 in
theorem rp_19_c : (rp_19_l.all fun q => mm_chk rp_K 6 prog_8_method_21_code rp_19_l q.1 q.2) = true := by decide +kernel
set_option maxRecDepth 100000 in
theorem rp_19_ok : mm_MOk ww_tbl ww_nm rp_K rp_19 := ⟨ww_c4 113 rfl rfl, ww_c1 7 rfl rfl, rfl, by decide, ⟨by decide, by decide⟩, by decide, ⟨_, rfl⟩, by decide, List.all_eq_true.mp rp_19_c⟩
set_option maxRecDepth 100000 in
theorem rp_20_c : (rp_20_l.all fun q => mm_chk rp_K 6 prog_8_method_22_code rp_20_l q.1 q.2) = true := by decide +kernel
set_option maxRecDepth 100000 in
theorem rp_20_ok : mm_MOk ww_tbl ww_nm rp_K rp_20 := ⟨ww_c4 124 rfl rfl, ww_c1 7 rfl rfl, rfl, by decide, ⟨by decide, by decide⟩, by decide, ⟨_, rfl⟩, by decide, List.all_eq_true.mp rp_20_c⟩
set_option maxRecDepth 100000 in
theorem rp_21_c : (rp_21_l.all fun q => mm_chk rp_K 6 prog_8_method_23_code rp_21_l q.1 q.2) = true := by decide +kernel
set_option maxRecDepth 100000 in
theorem rp_21_ok : mm_MOk ww_tbl ww_nm rp_K rp_21 := ⟨ww_c4 136 rfl rfl, ww_c1 7 rfl rfl, rfl, by decide, ⟨by decide, by decide⟩, by decide, ⟨_, rfl⟩, by decide, List.all_eq_true.mp rp_21_c⟩
set_option maxRecDepth 100000 in
theorem rp_22_c : (rp_22_l.all fun q => mm_chk rp_K 6 prog_8_method_24_code rp_22_l q.1 q.2) = true := by decide +kernel
set_option maxRecDepth 100000 in
theorem rp_22_ok : mm_MOk ww_tbl ww_nm rp_K rp_22 := ⟨ww_c4 132 rfl rfl, ww_c1 7 rfl rfl, rfl, by decide, ⟨by decide, by decide⟩, by decide, ⟨_, rfl⟩, by decide, List.all_eq_true.mp rp_22_c⟩
set_option maxRecDepth 100000 in
theorem rp_23_c : (rp_23_l.all fun q => mm_chk rp_K 6 prog_8_method_25_code rp_23_l q.1 q.2) = true := by decide +kernel
set_option maxRecDepth 100000 in
theorem rp_23_ok : mm_MOk ww_tbl ww_nm rp_K rp_23 := ⟨ww_c4 77 rfl rfl, ww_c1 7 rfl rfl, rfl, by decide, ⟨by decide, by decide⟩, by decide, ⟨_, rfl⟩, by decide, List.all_eq_true.mp rp_23_c⟩
set_option maxRecDepth 100000 in
theorem rp_24_c : (rp_24_l.all fun q => mm_chk rp_K 6 prog_8_method_26_code rp_24_l q.1 q.2) = true := by decide +kernel
set_option maxRecDepth 100000 in
theorem rp_24_ok : mm_MOk ww_tbl ww_nm rp_K rp_24 := ⟨ww_c4 94 rfl rfl, ww_c1 7 rfl rfl, rfl, by decide, ⟨by decide, by decide⟩, by decide, ⟨_, rfl⟩, by decide, List.all_eq_true.mp rp_24_c⟩
set_option maxRecDepth 100000 in
theorem rp_25_c : (rp_25_l.all fun q => mm_chk rp_K 6 prog_8_method_27_code rp_25_l q.1 q.2) = true := by decide +kernel
set_option maxRecDepth 100000 in
theorem rp_25_ok : mm_MOk ww_tbl ww_nm rp_K rp_25 := ⟨ww_c4 109 rfl rfl, ww_c1 7 rfl rfl, rfl, by decide, ⟨by decide, by decide⟩, by decide, ⟨_, rfl⟩, by decide, List.all_eq_true.mp rp_25_c⟩
set_option maxRecDepth 100000 in
theorem rp_26_c : (rp_26_l.all fun q => mm_chk rp_K 6 prog_8_method_28_code rp_26_l q.1 q.2) = true := by decide +kernel
set_option maxRecDepth 100000 in
theorem rp_26_ok : mm_MOk ww_tbl ww_nm rp_K rp_26 := ⟨ww_c4 128 rfl rfl, ww_c1 7 rfl rfl, rfl, by decide, ⟨by decide, by decide⟩, by decide, ⟨_, rfl⟩, by decide, List.all_eq_true.mp rp_26_c⟩
set_option maxRecDepth 100000 in
theorem rp_27_c : (rp_27_l.all fun q => mm_chk rp_K 6 prog_8_method_29_code rp_27_l q.1 q.2) = true := by decide +kernel
set_option maxRecDepth 100000 in
theorem rp_27_ok : mm_MOk ww_tbl ww_nm rp_K rp_27 := ⟨ww_c4 152 rfl rfl, ww_c1 7 rfl rfl, rfl, by decide, ⟨by decide, by decide⟩, by decide, ⟨_, rfl⟩, by decide, List.all_eq_true.mp rp_27_c⟩
set_option maxRecDepth 100000 in
theorem rp_28_c : (rp_28_l.all fun q => mm_chk rp_K 6 prog_8_method_30_code rp_28_l q.1 q.2) = true := by decide +kernel
set_option maxRecDepth 100000 in
theorem rp_28_ok : mm_MOk ww_tbl ww_nm rp_K rp_28 := ⟨ww_c4 148 rfl rfl, ww_c1 7 rfl rfl, rfl, by decide, ⟨by decide, by decide⟩, by decide, ⟨_, rfl⟩, by decide, List.all_eq_true.mp rp_28_c⟩
set_option maxRecDepth 100000 in
theorem rp_29_c : (rp_29_l.all fun q => mm_chk rp_K 6 prog_8_method_31_code rp_29_l q.1 q.2) = true := by decide +kernel
set_option maxRecDepth 100000 in
theorem rp_29_ok : mm_MOk ww_tbl ww_nm rp_K rp_29 := ⟨ww_c4 156 rfl rfl, ww_c1 7 rfl rfl, rfl, by decide, ⟨by decide, by decide⟩, by decide, ⟨_, rfl⟩, by decide, List.all_eq_true.mp rp_29_c⟩
set_option maxRecDepth 100000 in
theorem rp_30_c : (rp_30_l.all fun q => mm_chk rp_K 6 prog_8_method_32_code rp_30_l q.1 q.2) = true := by decide +kernel
set_option maxRecDepth 100000 in
theorem rp_30_ok : mm_MOk ww_tbl ww_nm rp_K rp_30 := ⟨ww_c4 160 rfl rfl, ww_c1 7 rfl rfl, rfl, by decide, ⟨by decide, by decide⟩, by decide, ⟨_, rfl⟩, by decide, List.all_eq_true.mp rp_30_c⟩
set_option maxRecDepth 100000 in
theorem rp_31_c : (rp_31_l.all fun q => mm_chk rp_K 6 prog_8_method_33_code rp_31_l q.1 q.2) = true := by decide +kernel
set_option maxRecDepth 100000 in
theorem rp_31_ok : mm_MOk ww_tbl ww_nm rp_K rp_31 := ⟨ww_c4 164 rfl rfl, ww_c1 7 rfl rfl, rfl, by decide, ⟨by decide, by decide⟩, by decide, ⟨_, rfl⟩, by decide, List.all_eq_true.mp rp_31_c⟩
set_option maxRecDepth 100000 in
theorem rp_32_c : (rp_32_l.all fun q => mm_chk rp_K 6 prog_8_method_34_code rp_32_l q.1 q.2) = true := by decide +kernel
set_option maxRecDepth 100000 in
theorem rp_32_ok : mm_MOk ww_tbl ww_nm rp_K rp_32 := ⟨ww_c4 144 rfl rfl, ww_c1 7 rfl rfl, rfl, by decide, ⟨by decide, by decide⟩, by decide, ⟨_, rfl⟩, by decide, List.all_eq_true.mp rp_32_c⟩
set_option maxRecDepth 100000 in
theorem rp_33_c : (rp_33_l.all fun q => mm_chk rp_K 6 prog_8_method_35_code rp_33_l q.1 q.2) = true := by decide +kernel
set_option maxRecDepth 100000 in
theorem rp_33_ok : mm_MOk ww_tbl ww_nm rp_K rp_33 := ⟨ww_c4 168 rfl rfl, ww_c1 7 rfl rfl, rfl, by decide, ⟨by decide, by decide⟩, by decide, ⟨_, rfl⟩, by decide, List.all_eq_true.mp rp_33_c⟩
set_option maxRecDepth 100000 in
theorem rp_34_c : (rp_34_l.all fun q => mm_chk rp_K 6 prog_8_method_36_code rp_34_l q.1 q.2) = true := by decide +kernel
set_option maxRecDepth 100000 in
theorem rp_34_ok : mm_MOk ww_tbl ww_nm rp_K rp_34 := ⟨ww_c4 203 rfl rfl, ww_c1 7 rfl rfl, rfl, by decide, ⟨by decide, by decide⟩, by decide, ⟨_, rfl⟩, by decide, List.all_eq_true.mp rp_34_c⟩
set_option maxRecDepth 100000 in
theorem rp_35_c : (rp_35_l.all fun q => mm_chk rp_K 6 prog_8_method_37_code rp_35_l q.1 q.2) = true := by decide +kernel
set_option maxRecDepth 100000 in
theorem rp_35_ok : mm_MOk ww_tbl ww_nm rp_K rp_35 := ⟨ww_c4 207 rfl rfl, ww_c1 7 rfl rfl, rfl, by decide, ⟨by decide, by decide⟩, by decide, ⟨_, rfl⟩, by decide, List.all_eq_true.mp rp_35_c⟩
set_option maxRecDepth 100000 in
theorem rp_36_c : (rp_36_l.all fun q => mm_chk rp_K 6 prog_8_method_38_code rp_36_l q.1 q.2) = true := by decide +kernel
set_option maxRecDepth 100000 in
theorem rp_36_ok : mm_MOk ww_tbl ww_nm rp_K rp_36 := ⟨ww_c4 199 rfl rfl, ww_c1 7 rfl rfl, rfl, by decide, ⟨by decide, by decide⟩, by decide, ⟨_, rfl⟩, by decide, List.all_eq_true.mp rp_36_c⟩
set_option maxRecDepth 100000 in
theorem rp_37_c : (rp_37_l.all fun q => mm_chk rp_K 6 prog_8_method_39_code rp_37_l q.1 q.2) = true := by decide +kernel
set_option maxRecDepth 100000 in
theorem rp_37_ok : mm_MOk ww_tbl ww_nm rp_K rp_37 := ⟨ww_c4 211 rfl rfl, ww_c1 7 rfl rfl, rfl, by decide, ⟨by decide, by decide⟩, by decide, ⟨_, rfl⟩, by decide, List.all_eq_true.mp rp_37_c⟩
set_option maxRecDepth 100000 in
theorem rp_38_c : (rp_38_l.all fun q => mm_chk rp_K 6 prog_8_method_40_code rp_38_l q.1 q.2) = true := by decide +kernel
set_option maxRecDepth 100000 in
theorem rp_38_ok : mm_MOk ww_tbl ww_nm rp_K rp_38 := ⟨ww_c4 187 rfl rfl, ww_c1 7 rfl rfl, rfl, by decide, ⟨by decide, by decide⟩, by decide, ⟨_, rfl⟩, by decide, List.all_eq_true.mp rp_38_c⟩
set_option maxRecDepth 100000 in
theorem rp_39_c : (rp_39_l.all fun q => mm_chk rp_K 6 prog_8_method_41_code rp_39_l q.1 q.2) = true := by decide +kernel
set_option maxRecDepth 100000 in
theorem rp_39_ok : mm_MOk ww_tbl ww_nm rp_K rp_39 := ⟨ww_c4 183 rfl rfl, ww_c1 7 rfl rfl, rfl, by decide, ⟨by decide, by decide⟩, by decide, ⟨_, rfl⟩, by decide, List.all_eq_true.mp rp_39_c⟩
set_option maxRecDepth 100000 in
theorem rp_40_c : (rp_40_l.all fun q => mm_chk rp_K 6 prog_8_method_42_code rp_40_l q.1 q.2) = true := by decide +kernel
set_option maxRecDepth 100000 in
theorem rp_40_ok : mm_MOk ww_tbl ww_nm rp_K rp_40 := ⟨ww_c4 195 rfl rfl, ww_c1 7 rfl rfl, rfl, by decide, ⟨by decide, by decide⟩, by decide, ⟨_, rfl⟩, by decide, List.all_eq_true.mp rp_40_c⟩
set_option maxRecDepth 100000 in
theorem rp_41_c : (rp_41_l.all fun q => mm_chk rp_K 6 prog_8_method_43_code rp_41_l q.1 q.2) = true := by decide +kernel
set_option maxRecDepth 100000 in
theorem rp_41_ok : mm_MOk ww_tbl ww_nm rp_K rp_41 := ⟨ww_c4 175 rfl rfl, ww_c1 7 rfl rfl, rfl, by decide, ⟨by decide, by decide⟩, by decide, ⟨_, rfl⟩, by decide, List.all_eq_true.mp rp_41_c⟩
set_option maxRecDepth 100000 in
theorem rp_42_c : (rp_42_l.all fun q => mm_chk rp_K 6 prog_8_method_44_code rp_42_l q.1 q.2) = true := by decide +kernel
set_option maxRecDepth 100000 in
theorem rp_42_ok : mm_MOk ww_tbl ww_nm rp_K rp_42 := ⟨ww_c4 219 rfl rfl, ww_c1 7 rfl rfl, rfl, by decide, ⟨by decide, by decide⟩, by decide, ⟨_, rfl⟩, by decide, List.all_eq_true.mp rp_42_c⟩
set_option maxRecDepth 100000 in
theorem rp_43_c : (rp_43_l.all fun q => mm_chk rp_K 6 prog_8_method_45_code rp_43_l q.1 q.2) = true := by decide +kernel
set_option maxRecDepth 100000 in
theorem rp_43_ok : mm_MOk ww_tbl ww_nm rp_K rp_43 := ⟨ww_c4 172 rfl rfl, ww_c1 7 rfl rfl, rfl, by decide, ⟨by decide, by decide⟩, by decide, ⟨_, rfl⟩, by decide, List.all_eq_true.mp rp_43_c⟩
set_option maxRecDepth 100000 in
theorem rp_44_c : (rp_44_l.all fun q => mm_chk rp_K 6 prog_8_method_46_code rp_44_l q.1 q.2) = true := by decide +kernel
set_option maxRecDepth 100000 in
theorem rp_44_ok : mm_MOk ww_tbl ww_nm rp_K rp_44 := ⟨ww_c4 179 rfl rfl, ww_c1 7 rfl rfl, rfl, by decide, ⟨by decide, by decide⟩, by decide, ⟨_, rfl⟩, by decide, List.all_eq_true.mp rp_44_c⟩
set_option maxRecDepth 100000 in
theorem rp_45_c : (rp_45_l.all fun q => mm_chk rp_K 6 prog_8_method_47_code rp_45_l q.1 q.2) = true := by decide +kernel
set_option maxRecDepth 100000 in
theorem rp_45_ok : mm_MOk ww_tbl ww_nm rp_K rp_45 := ⟨ww_c4 191 rfl rfl, ww_c1 7 rfl rfl, rfl, by decide, ⟨by decide, by decide⟩, by decide, ⟨_, rfl⟩, by decide, List.all_eq_true.mp rp_45_c⟩
set_option maxRecDepth 100000 in
theorem rp_46_c : (rp_46_l.all fun q => mm_chk rp_K 6 prog_8_method_48_code rp_46_l q.1 q.2) = true := by decide +kernel
set_option maxRecDepth 100000 in
theorem rp_46_ok : mm_MOk ww_tbl ww_nm rp_K rp_46 := ⟨ww_c4 215 rfl rfl, ww_c1 7 rfl rfl, rfl, by decide, ⟨by decide, by decide⟩, by decide, ⟨_, rfl⟩, by decide, List.all_eq_true.mp rp_46_c⟩
set_option maxRecDepth 100000 in
theorem rp_47_c : (rp_47_l.all fun q => mm_chk rp_K 6 prog_8_method_49_code rp_47_l q.1 q.2) = true := by decide +kernel
set_option maxRecDepth 100000 in
theorem rp_47_ok : mm_MOk ww_tbl ww_nm rp_K rp_47 := ⟨ww_c4 223 rfl rfl, ww_c1 7 rfl rfl, rfl, by decide, ⟨by decide, by decide⟩, by decide, ⟨_, rfl⟩, by decide, List.all_eq_true.mp rp_47_c⟩
set_option maxRecDepth 100000 in
theorem rp_48_c : (rp_48_l.all fun q => mm_chk rp_K 6 prog_8_method_50_code rp_48_l q.1 q.2) = true := by decide +kernel
set_option maxRecDepth 100000 in
theorem rp_48_ok : mm_MOk ww_tbl ww_nm rp_K rp_48 := ⟨ww_c4 227 rfl rfl, ww_c1 7 rfl rfl, rfl, by decide, ⟨by decide, by decide⟩, by decide, ⟨_, rfl⟩, by decide, List.all_eq_true.mp rp_48_c⟩
set_option maxRecDepth 100000 in
theorem rp_49_c : (rp_49_l.all fun q => mm_chk rp_K 6 prog_8_method_51_code rp_49_l q.1 q.2) = true := by decide +kernel
set_option maxRecDepth 100000 in
theorem rp_49_ok : mm_MOk ww_tbl ww_nm rp_K rp_49 := ⟨ww_c4 231 rfl rfl, ww_c1 7 rfl rfl, rfl, by decide, ⟨by decide, by decide⟩, by decide, ⟨_, rfl⟩, by decide, List.all_eq_true.mp rp_49_c⟩
set_option maxRecDepth 100000 in
theorem rp_50_c : (rp_50_l.all fun q => mm_chk rp_K 6 prog_8_method_52_code rp_50_l q.1 q.2) = true := by decide +kernel
set_option maxRecDepth 100000 in
theorem rp_50_ok : mm_MOk ww_tbl ww_nm rp_K rp_50 := ⟨ww_c4 235 rfl rfl, ww_c1 7 rfl rfl, rfl, by decide, ⟨by decide, by decide⟩, by decide, ⟨_, rfl⟩, by decide, List.all_eq_true.mp rp_50_c⟩
set_option maxRecDepth 100000 in
theorem rp_51_c : (rp_51_l.all fun q => mm_chk rp_K 6 prog_8_method_53_code rp_51_l q.1 q.2) = true := by decide +kernel
set_option maxRecDepth 100000 in
theorem rp_51_ok : mm_MOk ww_tbl ww_nm rp_K rp_51 := ⟨ww_c4 239 rfl rfl, ww_c1 7 rfl rfl, rfl, by decide, ⟨by decide, by decide⟩, by decide, ⟨_, rfl⟩, by decide, List.all_eq_true.mp rp_51_c⟩
set_option maxRecDepth 100000 in
theorem rp_52_c : (rp_52_l.all fun q => mm_chk rp_K 6 prog_8_method_54_code rp_52_l q.1 q.2) = true := by decide +kernel
set_option maxRecDepth 100000 in
theorem rp_52_ok : mm_MOk ww_tbl ww_nm rp_K rp_52 := ⟨ww_c5 3 rfl rfl, ww_c1 7 rfl rfl, rfl, by decide, ⟨by decide, by decide⟩, by decide, ⟨_, rfl⟩, by decide, List.all_eq_true.mp rp_52_c⟩
set_option maxRecDepth 100000 in
theorem rp_Ms_0 : ∀ q ∈ ([rp_0, rp_1, rp_2, rp_3, rp_4, rp_5, rp_6, rp_7, rp_8, rp_9, rp_10, rp_11] : List _), mm_MOk ww_tbl ww_nm rp_K q := List.forall_mem_cons.mpr ⟨rp_0_ok, List.forall_mem_cons.mpr ⟨rp_1_ok, List.forall_mem_cons.mpr ⟨rp_2_ok, List.forall_mem_cons.mpr ⟨rp_3_ok, List.forall_mem_cons.mpr ⟨rp_4_ok, List.forall_mem_cons.mpr ⟨rp_5_ok, List.forall_mem_cons.mpr ⟨rp_6_ok, List.forall_mem_cons.mpr ⟨rp_7_ok, List.forall_mem_cons.mpr ⟨rp_8_ok, List.forall_mem_cons.mpr ⟨rp_9_ok, List.forall_mem_cons.mpr ⟨rp_10_ok, List.forall_mem_cons.mpr ⟨rp_11_ok, fun _ h => absurd h List.not_mem_nil⟩⟩⟩⟩⟩⟩⟩⟩⟩⟩⟩⟩
set_option maxRecDepth 100000 in
theorem rp_Ms_1 : ∀ q ∈ ([rp_12, rp_13, rp_14, rp_15, rp_16, rp_17, rp_18, rp_19, rp_20, rp_21, rp_22, rp_23] : List _), mm_MOk ww_tbl ww_nm rp_K q := List.forall_mem_cons.mpr ⟨rp_12_ok, List.forall_mem_cons.mpr ⟨rp_13_ok, List.forall_mem_cons.mpr ⟨rp_14_ok, List.forall_mem_cons.mpr ⟨rp_15_ok, List.forall_mem_cons.mpr ⟨rp_16_ok, List.forall_mem_cons.mpr ⟨rp_17_ok, List.forall_mem_cons.mpr ⟨rp_18_ok, List.forall_mem_cons.mpr ⟨rp_19_ok, List.forall_mem_cons.mpr ⟨rp_20_ok, List.forall_mem_cons.mpr ⟨rp_21_ok, List.forall_mem_cons.mpr ⟨rp_22_ok, List.forall_mem_cons.mpr ⟨rp_23_ok, fun _ h => absurd h List.not_mem_nil⟩⟩⟩⟩⟩⟩⟩⟩⟩⟩⟩⟩
set_option maxRecDepth 100000 in
theorem rp_Ms_2 : ∀ q ∈ ([rp_24, rp_25, rp_26, rp_27, rp_28, rp_29, rp_30, rp_31, rp_32, rp_33, rp_34, rp_35] : List _), mm_MOk ww_tbl ww_nm rp_K q := List.forall_mem_cons.mpr ⟨rp_24_ok, List.forall_mem_cons.mpr ⟨rp_25_ok, List.forall_mem_cons.mpr ⟨rp_26_ok, List.forall_mem_cons.mpr ⟨rp_27_ok, List.forall_mem_cons.mpr ⟨rp_28_ok, List.forall_mem_cons.mpr ⟨rp_29_ok, List.forall_mem_cons.mpr ⟨rp_30_ok, List.forall_mem_cons.mpr ⟨rp_31_ok, List.forall_mem_cons.mpr ⟨rp_32_ok, List.forall_mem_cons.mpr ⟨rp_33_ok, List.forall_mem_cons.mpr ⟨rp_34_ok, List.forall_mem_cons.mpr ⟨rp_35_ok, fun _ h => absurd h List.not_mem_nil⟩⟩⟩⟩⟩⟩⟩⟩⟩⟩⟩⟩
set_option maxRecDepth 100000 in
theorem rp_Ms_3 : ∀ q ∈ ([rp_36, rp_37, rp_38, rp_39, rp_40, rp_41, rp_42, rp_43, rp_44, rp_45, rp_46, rp_47] : List _), mm_MOk ww_tbl ww_nm rp_K q := List.forall_mem_cons.mpr ⟨rp_36_ok, List.forall_mem_cons.mpr ⟨rp_37_ok, List.forall_mem_cons.mpr ⟨rp_38_ok, List.forall_mem_cons.mpr ⟨rp_39_ok, List.forall_mem_cons.mpr ⟨rp_40_ok, List.forall_mem_cons.mpr ⟨rp_41_ok, List.forall_mem_cons.mpr ⟨rp_42_ok, List.forall_mem_cons.mpr ⟨rp_43_ok, List.forall_mem_cons.mpr ⟨rp_44_ok, List.forall_mem_cons.mpr ⟨rp_45_ok, List.forall_mem_cons.mpr ⟨rp_46_ok, List.forall_mem_cons.mpr ⟨rp_47_ok, fun _ h => absurd h List.not_mem_nil⟩⟩⟩⟩⟩⟩⟩⟩⟩⟩⟩⟩
set_option maxRecDepth 100000 in
theorem rp_Ms_4 : ∀ q ∈ ([rp_48, rp_49, rp_50, rp_51, rp_52] : List _), mm_MOk ww_tbl ww_nm rp_K q := List.forall_mem_cons.mpr ⟨rp_48_ok, List.forall_mem_cons.mpr ⟨rp_49_ok, List.forall_mem_cons.mpr ⟨rp_50_ok, List.forall_mem_cons.mpr ⟨rp_51_ok, List.forall_mem_cons.mpr ⟨rp_52_ok, fun _ h => absurd h List.not_mem_nil⟩⟩⟩⟩⟩
set_option maxRecDepth 100000 in
theorem rp_Ms : ∀ q ∈ (([rp_0, rp_1, rp_2, rp_3, rp_4, rp_5, rp_6, rp_7, rp_8, rp_9, rp_10, rp_11] : List _) ++ (([rp_12, rp_13, rp_14, rp_15, rp_16, rp_17, rp_18, rp_19, rp_20, rp_21, rp_22, rp_23] : List _) ++ (([rp_24, rp_25, rp_26, rp_27, rp_28, rp_29, rp_30, rp_31, rp_32, rp_33, rp_34, rp_35] : List _) ++ (([rp_36, rp_37, rp_38, rp_39, rp_40, rp_41, rp_42, rp_43, rp_44, rp_45, rp_46, rp_47] : List _) ++ (([rp_48, rp_49, rp_50, rp_51, rp_52] : List _)))))), mm_MOk ww_tbl ww_nm rp_K q := List.forall_mem_append.mpr ⟨rp_Ms_0, List.forall_mem_append.mpr ⟨rp_Ms_1, List.forall_mem_append.mpr ⟨rp_Ms_2, List.forall_mem_append.mpr ⟨rp_Ms_3, rp_Ms_4⟩⟩⟩⟩
set_option maxRecDepth 100000 in
theorem rp_Fs_0 : ∀ q ∈ ([(6, 7, 6, 0), (6, 13, 6, 1), (6, 17, 6, 2), (6, 20, 6, 3), (6, 24, 6, 4), (6, 27, 6, 6), (6, 30, 6, 7), (6, 33, 6, 8), (6, 36, 6, 9), (6, 39, 6, 10), (6, 42, 6, 11), (6, 45, 6, 12)] : List _), mm_FOk ww_tbl ww_cl ww_nm q := List.forall_mem_cons.mpr ⟨⟨_, _, _, rfl, by decide, ww_c3 148 rfl rfl⟩, List.forall_mem_cons.mpr ⟨⟨_, _, _, rfl, by decide, ww_c3 149 rfl rfl⟩, List.forall_mem_cons.mpr ⟨⟨_, _, _, rfl, by decide, ww_c3 150 rfl rfl⟩, List.forall_mem_cons.mpr ⟨⟨_, _, _, rfl, by decide, ww_c3 151 rfl rfl⟩, List.forall_mem_cons.mpr ⟨⟨_, _, _, rfl, by decide, ww_c3 152 rfl rfl⟩, List.forall_mem_cons.mpr ⟨⟨_, _, _, rfl, by decide, ww_c3 154 rfl rfl⟩, List.forall_mem_cons.mpr ⟨⟨_, _, _, rfl, by decide, ww_c3 155 rfl rfl⟩, List.forall_mem_cons.mpr ⟨⟨_, _, _, rfl, by decide, ww_c3 156 rfl rfl⟩, List.forall_mem_cons.mpr ⟨⟨_, _, _, rfl, by decide, ww_c3 157 rfl rfl⟩, List.forall_mem_cons.mpr ⟨⟨_, _, _, rfl, by decide, ww_c3 158 rfl rfl⟩, List.forall_mem_cons.mpr ⟨⟨_, _, _, rfl, by decide, ww_c3 159 rfl rfl⟩, List.forall_mem_cons.mpr ⟨⟨_, _, _, rfl, by decide, ww_c3 160 rfl rfl⟩, fun _ h => absurd h List.not_mem_nil⟩⟩⟩⟩⟩⟩⟩⟩⟩⟩⟩⟩
set_option maxRecDepth 100000 in
theorem rp_Fs_1 : ∀ q ∈ ([(6, 48, 6, 13), (6, 51, 6, 14), (6, 54, 6, 16), (6, 57, 6, 17), (6, 60, 6, 18), (6, 63, 6, 19), (6, 67, 6, 21), (6, 70, 6, 22), (6, 73, 6, 25), (6, 76, 6, 26), (6, 79, 6, 27), (6, 82, 6, 28)] : List _), mm_FOk ww_tbl ww_cl ww_nm q := List.forall_mem_cons.mpr ⟨⟨_, _, _, rfl, by decide, ww_c3 161 rfl rfl⟩, List.forall_mem_cons.mpr ⟨⟨_, _, _, rfl, by decide, ww_c3 162 rfl rfl⟩, List.forall_mem_cons.mpr ⟨⟨_, _, _, rfl, by decide, ww_c3 164 rfl rfl⟩, List.forall_mem_cons.mpr ⟨⟨_, _, _, rfl, by decide, ww_c3 165 rfl rfl⟩, List.forall_mem_cons.mpr ⟨⟨_, _, _, rfl, by decide, ww_c3 166 rfl rfl⟩, List.forall_mem_cons.mpr ⟨⟨_, _, _, rfl, by decide, ww_c3 167 rfl rfl⟩, List.forall_mem_cons.mpr ⟨⟨_, _, _, rfl, by decide, ww_c3 169 rfl rfl⟩, List.forall_mem_cons.mpr ⟨⟨_, _, _, rfl, by decide, ww_c3 170 rfl rfl⟩, List.forall_mem_cons.mpr ⟨⟨_, _, _, rfl, by decide, ww_c3 173 rfl rfl⟩, List.forall_mem_cons.mpr ⟨⟨_, _, _, rfl, by decide, ww_c3 174 rfl rfl⟩, List.forall_mem_cons.mpr ⟨⟨_, _, _, rfl, by decide, ww_c3 175 rfl rfl⟩, List.forall_mem_cons.mpr ⟨⟨_, _, _, rfl, by decide, ww_c3 176 rfl rfl⟩, fun _ h => absurd h List.not_mem_nil⟩⟩⟩⟩⟩⟩⟩⟩⟩⟩⟩⟩
set_option maxRecDepth 100000 in
theorem rp_Fs_2 : ∀ q ∈ ([(6, 85, 6, 29), (6, 88, 6, 30), (6, 91, 6, 32), (6, 94, 6, 33), (6, 97, 6, 34), (6, 100, 6, 35), (6, 103, 6, 36), (6, 106, 6, 38), (6, 109, 6, 39), (6, 112, 6, 40), (6, 123, 6, 15), (6, 131, 6, 5)] : List _), mm_FOk ww_tbl ww_cl ww_nm q := List.forall_mem_cons.mpr ⟨⟨_, _, _, rfl, by decide, ww_c3 177 rfl rfl⟩, List.forall_mem_cons.mpr ⟨⟨_, _, _, rfl, by decide, ww_c3 178 rfl rfl⟩, List.forall_mem_cons.mpr ⟨⟨_, _, _, rfl, by decide, ww_c3 180 rfl rfl⟩, List.forall_mem_cons.mpr ⟨⟨_, _, _, rfl, by decide, ww_c3 181 rfl rfl⟩, List.forall_mem_cons.mpr ⟨⟨_, _, _, rfl, by decide, ww_c3 182 rfl rfl⟩, List.forall_mem_cons.mpr ⟨⟨_, _, _, rfl, by decide, ww_c3 183 rfl rfl⟩, List.forall_mem_cons.mpr ⟨⟨_, _, _, rfl, by decide, ww_c3 184 rfl rfl⟩, List.forall_mem_cons.mpr ⟨⟨_, _, _, rfl, by decide, ww_c3 186 rfl rfl⟩, List.forall_mem_cons.mpr ⟨⟨_, _, _, rfl, by decide, ww_c3 187 rfl rfl⟩, List.forall_mem_cons.mpr ⟨⟨_, _, _, rfl, by decide, ww_c3 188 rfl rfl⟩, List.forall_mem_cons.mpr ⟨⟨_, _, _, rfl, by decide, ww_c3 163 rfl rfl⟩, List.forall_mem_cons.mpr ⟨⟨_, _, _, rfl, by decide, ww_c3 153 rfl rfl⟩, fun _ h => absurd h List.not_mem_nil⟩⟩⟩⟩⟩⟩⟩⟩⟩⟩⟩⟩
set_option maxRecDepth 100000 in
theorem rp_Fs_3 : ∀ q ∈ ([(6, 147, 6, 20), (6, 160, 6, 23), (6, 219, 6, 37), (6, 226, 6, 24), (6, 238, 6, 31)] : List _), mm_FOk ww_tbl ww_cl ww_nm q := List.forall_mem_cons.mpr ⟨⟨_, _, _, rfl, by decide, ww_c3 168 rfl rfl⟩, List.forall_mem_cons.mpr ⟨⟨_, _, _, rfl, by decide, ww_c3 171 rfl rfl⟩, List.forall_mem_cons.mpr ⟨⟨_, _, _, rfl, by decide, ww_c3 185 rfl rfl⟩, List.forall_mem_cons.mpr ⟨⟨_, _, _, rfl, by decide, ww_c3 172 rfl rfl⟩, List.forall_mem_cons.mpr ⟨⟨_, _, _, rfl, by decide, ww_c3 179 rfl rfl⟩, fun _ h => absurd h List.not_mem_nil⟩⟩⟩⟩⟩
set_option maxRecDepth 100000 in
theorem rp_Fs : ∀ q ∈ (([(6, 7, 6, 0), (6, 13, 6, 1), (6, 17, 6, 2), (6, 20, 6, 3), (6, 24, 6, 4), (6, 27, 6, 6), (6, 30, 6, 7), (6, 33, 6, 8), (6, 36, 6, 9), (6, 39, 6, 10), (6, 42, 6, 11), (6, 45, 6, 12)] : List _) ++ (([(6, 48, 6, 13), (6, 51, 6, 14), (6, 54, 6, 16), (6, 57, 6, 17), (6, 60, 6, 18), (6, 63, 6, 19), (6, 67, 6, 21), (6, 70, 6, 22), (6, 73, 6, 25), (6, 76, 6, 26), (6, 79, 6, 27), (6, 82, 6, 28)] : List _) ++ (([(6, 85, 6, 29), (6, 88, 6, 30), (6, 91, 6, 32), (6, 94, 6, 33), (6, 97, 6, 34), (6, 100, 6, 35), (6, 103, 6, 36), (6, 106, 6, 38), (6, 109, 6, 39), (6, 112, 6, 40), (6, 123, 6, 15), (6, 131, 6, 5)] : List _) ++ (([(6, 147, 6, 20), (6, 160, 6, 23), (6, 219, 6, 37), (6, 226, 6, 24), (6, 238, 6, 31)] : List _))))), mm_FOk ww_tbl ww_cl ww_nm q := List.forall_mem_append.mpr ⟨rp_Fs_0, List.forall_mem_append.mpr ⟨rp_Fs_1, List.forall_mem_append.mpr ⟨rp_Fs_2, rp_Fs_3⟩⟩⟩
set_option maxRecDepth 100000 in
theorem rp_Vs_0 : ∀ q ∈ ([(6, 115, 0, 437), (6, 127, 4, 435), (6, 134, 6, 406), (6, 138, 9, 434), (6, 141, 1, 434), (6, 152, 13, 386), (6, 156, 14, 419), (6, 163, 15, 386), (6, 166, 16, 387), (6, 175, 11, 434), (6, 178, 18, 435), (6, 182, 17, 435)] : List _), mm_VOk ww_tbl ww_cl ww_nm rp_P q := List.forall_mem_cons.mpr ⟨⟨_, _, _, 4, rfl, ww_c4 40 rfl rfl, ww_c4 42 rfl rfl, ww_inS 19 rfl rfl, rfl, by decide +kernel, rfl, rfl⟩, List.forall_mem_cons.mpr ⟨⟨_, _, _, 2, rfl, ww_c4 36 rfl rfl, ww_c4 38 rfl rfl, ww_inS 18 rfl rfl, rfl, by decide +kernel, rfl, rfl⟩, List.forall_mem_cons.mpr ⟨⟨_, _, _, 5, rfl, ww_c4 51 rfl rfl, ww_c4 53 rfl rfl, ww_inS 20 rfl rfl, rfl, by decide +kernel, rfl, rfl⟩, List.forall_mem_cons.mpr ⟨⟨_, _, _, 1, rfl, ww_c4 63 rfl rfl, ww_c4 65 rfl rfl, ww_inS 21 rfl rfl, rfl, by decide +kernel, rfl, rfl⟩, List.forall_mem_cons.mpr ⟨⟨_, _, _, 1, rfl, ww_c4 67 rfl rfl, ww_c4 69 rfl rfl, ww_inS 22 rfl rfl, rfl, by decide +kernel, rfl, rfl⟩, List.forall_mem_cons.mpr ⟨⟨_, _, _, 1, rfl, ww_c4 82 rfl rfl, ww_c4 84 rfl rfl, ww_inS 24 rfl rfl, rfl, by decide +kernel, rfl, rfl⟩, List.forall_mem_cons.mpr ⟨⟨_, _, _, 2, rfl, ww_c4 87 rfl rfl, ww_c4 89 rfl rfl, ww_inS 25 rfl rfl, rfl, by decide +kernel, rfl, rfl⟩, List.forall_mem_cons.mpr ⟨⟨_, _, _, 1, rfl, ww_c4 78 rfl rfl, ww_c4 80 rfl rfl, ww_inS 23 rfl rfl, rfl, by decide +kernel, rfl, rfl⟩, List.forall_mem_cons.mpr ⟨⟨_, _, _, 2, rfl, ww_c4 99 rfl rfl, ww_c4 101 rfl rfl, ww_inS 27 rfl rfl, rfl, by decide +kernel, rfl, rfl⟩, List.forall_mem_cons.mpr ⟨⟨_, _, _, 1, rfl, ww_c4 114 rfl rfl, ww_c4 116 rfl rfl, ww_inS 29 rfl rfl, rfl, by decide +kernel, rfl, rfl⟩, List.forall_mem_cons.mpr ⟨⟨_, _, _, 2, rfl, ww_c4 118 rfl rfl, ww_c4 120 rfl rfl, ww_inS 30 rfl rfl, rfl, by decide +kernel, rfl, rfl⟩, List.forall_mem_cons.mpr ⟨⟨_, _, _, 2, rfl, ww_c4 95 rfl rfl, ww_c4 97 rfl rfl, ww_inS 26 rfl rfl, rfl, by decide +kernel, rfl, rfl⟩, fun _ h => absurd h List.not_mem_nil⟩⟩⟩⟩⟩⟩⟩⟩⟩⟩⟩⟩
set_option maxRecDepth 100000 in
theorem rp_Vs_1 : ∀ q ∈ ([(6, 186, 12, 402), (6, 190, 19, 403), (6, 194, 21, 402), (6, 200, 22, 403), (6, 203, 27, 434), (6, 206, 28, 402), (6, 209, 29, 433), (6, 213, 30, 433), (6, 216, 31, 402), (6, 222, 34, 389), (6, 229, 35, 402), (6, 232, 37, 435)] : List _), mm_VOk ww_tbl ww_cl ww_nm rp_P q := List.forall_mem_cons.mpr ⟨⟨_, _, _, 1, rfl, ww_c4 137 rfl rfl, ww_c4 139 rfl rfl, ww_inS 33 rfl rfl, rfl, by decide +kernel, rfl, rfl⟩, List.forall_mem_cons.mpr ⟨⟨_, _, _, 2, rfl, ww_c4 110 rfl rfl, ww_c4 112 rfl rfl, ww_inS 28 rfl rfl, rfl, by decide +kernel, rfl, rfl⟩, List.forall_mem_cons.mpr ⟨⟨_, _, _, 1, rfl, ww_c4 133 rfl rfl, ww_c4 135 rfl rfl, ww_inS 32 rfl rfl, rfl, by decide +kernel, rfl, rfl⟩, List.forall_mem_cons.mpr ⟨⟨_, _, _, 2, rfl, ww_c4 129 rfl rfl, ww_c4 131 rfl rfl, ww_inS 31 rfl rfl, rfl, by decide +kernel, rfl, rfl⟩, List.forall_mem_cons.mpr ⟨⟨_, _, _, 1, rfl, ww_c4 149 rfl rfl, ww_c4 151 rfl rfl, ww_inS 35 rfl rfl, rfl, by decide +kernel, rfl, rfl⟩, List.forall_mem_cons.mpr ⟨⟨_, _, _, 1, rfl, ww_c4 145 rfl rfl, ww_c4 147 rfl rfl, ww_inS 34 rfl rfl, rfl, by decide +kernel, rfl, rfl⟩, List.forall_mem_cons.mpr ⟨⟨_, _, _, 0, rfl, ww_c4 153 rfl rfl, ww_c4 155 rfl rfl, ww_inS 36 rfl rfl, rfl, by decide +kernel, rfl, rfl⟩, List.forall_mem_cons.mpr ⟨⟨_, _, _, 0, rfl, ww_c4 157 rfl rfl, ww_c4 159 rfl rfl, ww_inS 37 rfl rfl, rfl, by decide +kernel, rfl, rfl⟩, List.forall_mem_cons.mpr ⟨⟨_, _, _, 1, rfl, ww_c4 161 rfl rfl, ww_c4 163 rfl rfl, ww_inS 38 rfl rfl, rfl, by decide +kernel, rfl, rfl⟩, List.forall_mem_cons.mpr ⟨⟨_, _, _, 4, rfl, ww_c4 200 rfl rfl, ww_c4 202 rfl rfl, ww_inS 43 rfl rfl, rfl, by decide +kernel, rfl, rfl⟩, List.forall_mem_cons.mpr ⟨⟨_, _, _, 1, rfl, ww_c4 204 rfl rfl, ww_c4 206 rfl rfl, ww_inS 44 rfl rfl, rfl, by decide +kernel, rfl, rfl⟩, List.forall_mem_cons.mpr ⟨⟨_, _, _, 2, rfl, ww_c4 208 rfl rfl, ww_c4 210 rfl rfl, ww_inS 45 rfl rfl, rfl, by decide +kernel, rfl, rfl⟩, fun _ h => absurd h List.not_mem_nil⟩⟩⟩⟩⟩⟩⟩⟩⟩⟩⟩⟩
set_option maxRecDepth 100000 in
theorem rp_Vs_2 : ∀ q ∈ ([(6, 235, 38, 403), (6, 241, 36, 402), (6, 247, 39, 402), (6, 250, 40, 403), (6, 253, 42, 434)] : List _), mm_VOk ww_tbl ww_cl ww_nm rp_P q := List.forall_mem_cons.mpr ⟨⟨_, _, _, 2, rfl, ww_c4 184 rfl rfl, ww_c4 186 rfl rfl, ww_inS 40 rfl rfl, rfl, by decide +kernel, rfl, rfl⟩, List.forall_mem_cons.mpr ⟨⟨_, _, _, 1, rfl, ww_c4 196 rfl rfl, ww_c4 198 rfl rfl, ww_inS 42 rfl rfl, rfl, by decide +kernel, rfl, rfl⟩, List.forall_mem_cons.mpr ⟨⟨_, _, _, 1, rfl, ww_c4 180 rfl rfl, ww_c4 182 rfl rfl, ww_inS 39 rfl rfl, rfl, by decide +kernel, rfl, rfl⟩, List.forall_mem_cons.mpr ⟨⟨_, _, _, 2, rfl, ww_c4 192 rfl rfl, ww_c4 194 rfl rfl, ww_inS 41 rfl rfl, rfl, by decide +kernel, rfl, rfl⟩, List.forall_mem_cons.mpr ⟨⟨_, _, _, 1, rfl, ww_c4 216 rfl rfl, ww_c4 218 rfl rfl, ww_inS 46 rfl rfl, rfl, by decide +kernel, rfl, rfl⟩, fun _ h => absurd h List.not_mem_nil⟩⟩⟩⟩⟩
set_option maxRecDepth 100000 in
theorem rp_Vs : ∀ q ∈ (([(6, 115, 0, 437), (6, 127, 4, 435), (6, 134, 6, 406), (6, 138, 9, 434), (6, 141, 1, 434), (6, 152, 13, 386), (6, 156, 14, 419), (6, 163, 15, 386), (6, 166, 16, 387), (6, 175, 11, 434), (6, 178, 18, 435), (6, 182, 17, 435)] : List _) ++ (([(6, 186, 12, 402), (6, 190, 19, 403), (6, 194, 21, 402), (6, 200, 22, 403), (6, 203, 27, 434), (6, 206, 28, 402), (6, 209, 29, 433), (6, 213, 30, 433), (6, 216, 31, 402), (6, 222, 34, 389), (6, 229, 35, 402), (6, 232, 37, 435)] : List _) ++ (([(6, 235, 38, 403), (6, 241, 36, 402), (6, 247, 39, 402), (6, 250, 40, 403), (6, 253, 42, 434)] : List _)))), mm_VOk ww_tbl ww_cl ww_nm rp_P q := List.forall_mem_append.mpr ⟨rp_Vs_0, List.forall_mem_append.mpr ⟨rp_Vs_1, rp_Vs_2⟩⟩
set_option maxRecDepth 100000 in
theorem rp_Ts_0 : ∀ q ∈ ([(6, 119, 2, 49), (6, 144, 3, 49), (6, 197, 20, 17), (6, 244, 41, 49)] : List _), mm_TOk ww_tbl ww_nst ww_nm rp_P q := List.forall_mem_cons.mpr ⟨Or.inr (Or.inr ⟨by decide, by decide, _, 1, rfl, Or.inl (ww_c4 48 rfl rfl), ww_c4 49 rfl rfl, by decide +kernel, rfl, rfl⟩), List.forall_mem_cons.mpr ⟨Or.inr (Or.inr ⟨by decide, by decide, _, 1, rfl, Or.inl (ww_c4 71 rfl rfl), ww_c4 72 rfl rfl, by decide +kernel, rfl, rfl⟩), List.forall_mem_cons.mpr ⟨Or.inr (Or.inr ⟨by decide, by decide, _, 1, rfl, Or.inl (ww_c4 122 rfl rfl), ww_c4 123 rfl rfl, by decide +kernel, rfl, rfl⟩), List.forall_mem_cons.mpr ⟨Or.inr (Or.inr ⟨by decide, by decide, _, 1, rfl, Or.inl (ww_c4 173 rfl rfl), ww_c4 174 rfl rfl, by decide +kernel, rfl, rfl⟩), fun _ h => absurd h List.not_mem_nil⟩⟩⟩⟩
set_option maxRecDepth 100000 in
theorem rp_Ts : ∀ q ∈ (([(6, 119, 2, 49), (6, 144, 3, 49), (6, 197, 20, 17), (6, 244, 41, 49)] : List _)), mm_TOk ww_tbl ww_nst ww_nm rp_P q := rp_Ts_0
set_option maxRecDepth 100000 in
theorem rp_Is_0 : ∀ q ∈ ([(6, 170, 1000000)] : List _), (fun q : Nat × Nat × Int32 => Jvm.Cond.constant (ww_nm q.1) q.2.1 q.2.2 ∈ ww_tbl) q := List.forall_mem_cons.mpr ⟨ww_c4 103 rfl rfl, fun _ h => absurd h List.not_mem_nil⟩
set_option maxRecDepth 100000 in
theorem rp_Is : ∀ q ∈ (([(6, 170, 1000000)] : List _)), (fun q : Nat × Nat × Int32 => Jvm.Cond.constant (ww_nm q.1) q.2.1 q.2.2 ∈ ww_tbl) q := rp_Is_0
set_option maxRecDepth 100000 in
theorem rp_Ls_0 : ∀ q ∈ ([(6, 150, 31), (6, 171, 30), (6, 173, 29)] : List _), (fun q : Nat × Nat × Int64 => Jvm.Cond.constantLong (ww_nm q.1) q.2.1 q.2.2 ∈ ww_tbl) q := List.forall_mem_cons.mpr ⟨ww_c4 86 rfl rfl, List.forall_mem_cons.mpr ⟨ww_c4 104 rfl rfl, List.forall_mem_cons.mpr ⟨ww_c4 105 rfl rfl, fun _ h => absurd h List.not_mem_nil⟩⟩⟩
set_option maxRecDepth 100000 in
theorem rp_Ls : ∀ q ∈ (([(6, 150, 31), (6, 171, 30), (6, 173, 29)] : List _)), (fun q : Nat × Nat × Int64 => Jvm.Cond.constantLong (ww_nm q.1) q.2.1 q.2.2 ∈ ww_tbl) q := rp_Ls_0
set_option maxRecDepth 100000 in
theorem rp_OK : mm_OK ww_tbl ww_nst ww_cl ww_nm sr rp_P rp_K := ⟨ww_good, ww_Cs, sr_ok, rp_Ms, rp_Fs, rp_Vs, rp_Ts, rp_Is, rp_Ls⟩
