/-! THE CLASS: what the tables say of it -/
set_option maxRecDepth 100000 in
theorem cp_0_c : (cp_0_l.all fun q => mm_chk cp_K 0 prog_2_method_2_code cp_0_l q.1 q.2) = true := by decide +kernel
set_option maxRecDepth 100000 in
theorem cp_0_ok : mm_MOk ww_tbl ww_nm cp_K cp_0 := ⟨ww_c1 229 rfl rfl, ww_c1 3 rfl rfl, rfl, by decide, ⟨by decide, by decide⟩, by decide, ⟨_, rfl⟩, by decide, List.all_eq_true.mp cp_0_c⟩
set_option maxRecDepth 100000 in
theorem cp_1_c : (cp_1_l.all fun q => mm_chk cp_K 0 prog_2_method_3_code cp_1_l q.1 q.2) = true := by decide +kernel
set_option maxRecDepth 100000 in
theorem cp_1_ok : mm_MOk ww_tbl ww_nm cp_K cp_1 := ⟨ww_c2 16 rfl rfl, ww_c1 3 rfl rfl, rfl, by decide, ⟨by decide, by decide⟩, by decide, ⟨_, rfl⟩, by decide, List.all_eq_true.mp cp_1_c⟩
set_option maxRecDepth 100000 in
theorem cp_2_c : (cp_2_l.all fun q => mm_chk cp_K 0 prog_2_method_4_code cp_2_l q.1 q.2) = true := by decide +kernel
set_option maxRecDepth 100000 in
theorem cp_2_ok : mm_MOk ww_tbl ww_nm cp_K cp_2 := ⟨ww_c2 145 rfl rfl, ww_c1 3 rfl rfl, rfl, by decide, ⟨by decide, by decide⟩, by decide, ⟨_, rfl⟩, by decide, List.all_eq_true.mp cp_2_c⟩
set_option maxRecDepth 100000 in
theorem cp_3_c : (cp_3_l.all fun q => mm_chk cp_K 0 prog_2_method_5_code cp_3_l q.1 q.2) = true := by decide +kernel
set_option maxRecDepth 100000 in
theorem cp_3_ok : mm_MOk ww_tbl ww_nm cp_K cp_3 := ⟨ww_c2 7 rfl rfl, ww_c1 3 rfl rfl, rfl, by decide, ⟨by decide, by decide⟩, by decide, ⟨_, rfl⟩, by decide, List.all_eq_true.mp cp_3_c⟩
set_option maxRecDepth 100000 in
theorem cp_4_c : (cp_4_l.all fun q => mm_chk cp_K 0 prog_2_method_6_code cp_4_l q.1 q.2) = true := by decide +kernel
set_option maxRecDepth 100000 in
theorem cp_4_ok : mm_MOk ww_tbl ww_nm cp_K cp_4 := ⟨ww_c2 12 rfl rfl, ww_c1 3 rfl rfl, rfl, by decide, ⟨by decide, by decide⟩, by decide, ⟨_, rfl⟩, by decide, List.all_eq_true.mp cp_4_c⟩
set_option maxRecDepth 100000 in
theorem cp_5_c : (cp_5_l.all fun q => mm_chk cp_K 0 prog_2_method_7_code cp_5_l q.1 q.2) = true := by decide +kernel
set_option maxRecDepth 100000 in
theorem cp_5_ok : mm_MOk ww_tbl ww_nm cp_K cp_5 := ⟨ww_c2 32 rfl rfl, ww_c1 3 rfl rfl, rfl, by decide, ⟨by decide, by decide⟩, by decide, ⟨_, rfl⟩, by decide, List.all_eq_true.mp cp_5_c⟩
set_option maxRecDepth 100000 in
theorem cp_6_c : (cp_6_l.all fun q => mm_chk cp_K 0 prog_2_method_8_code cp_6_l q.1 q.2) = true := by decide +kernel
set_option maxRecDepth 100000 in
theorem cp_6_ok : mm_MOk ww_tbl ww_nm cp_K cp_6 := ⟨ww_c2 54 rfl rfl, ww_c1 3 rfl rfl, rfl, by decide, ⟨by decide, by decide⟩, by decide, ⟨_, rfl⟩, by decide, List.all_eq_true.mp cp_6_c⟩
set_option maxRecDepth 100000 in
theorem cp_7_c : (cp_7_l.all fun q => mm_chk cp_K 0 prog_2_method_9_code cp_7_l q.1 q.2) = true := by decide +kernel
set_option maxRecDepth 100000 in
theorem cp_7_ok : mm_MOk ww_tbl ww_nm cp_K cp_7 := ⟨ww_c2 62 rfl rfl, ww_c1 3 rfl rfl, rfl, by decide, ⟨by decide, by decide⟩, by decide, ⟨_, rfl⟩, by decide, List.all_eq_true.mp cp_7_c⟩
set_option maxRecDepth 100000 in
theorem cp_8_c : (cp_8_l.all fun q => mm_chk cp_K 0 prog_2_method_10_code cp_8_l q.1 q.2) = true := by decide +kernel
set_option maxRecDepth 100000 in
theorem cp_8_ok : mm_MOk ww_tbl ww_nm cp_K cp_8 := ⟨ww_c2 202 rfl rfl, ww_c1 3 rfl rfl, rfl, by decide, ⟨by decide, by decide⟩, by decide, ⟨_, rfl⟩, by decide, List.all_eq_true.mp cp_8_c⟩
set_option maxRecDepth 100000 in
theorem cp_9_c : (cp_9_l.all fun q => mm_chk cp_K 0 prog_2_method_11_code cp_9_l q.1 q.2) = true := by decide +kernel
set_option maxRecDepth 100000 in
theorem cp_9_ok : mm_MOk ww_tbl ww_nm cp_K cp_9 := ⟨ww_c3 72 rfl rfl, ww_c1 3 rfl rfl, rfl, by decide, ⟨by decide, by decide⟩, by decide, ⟨_, rfl⟩, by decide, List.all_eq_true.mp cp_9_c⟩
set_option maxRecDepth 100000 in
theorem cp_10_c : (cp_10_l.all fun q => mm_chk cp_K 0 prog_2_method_12_code cp_10_l q.1 q.2) = true := by decide +kernel
set_option maxRecDepth 100000 in
theorem cp_10_ok : mm_MOk ww_tbl ww_nm cp_K cp_10 := ⟨ww_c2 185 rfl rfl, ww_c1 3 rfl rfl, rfl, by decide, ⟨by decide, by decide⟩, by decide, ⟨_, rfl⟩, by decide, List.all_eq_true.mp cp_10_c⟩
set_option maxRecDepth 100000 in
theorem cp_11_c : (cp_11_l.all fun q => mm_chk cp_K 0 prog_2_method_13_code cp_11_l q.1 q.2) = true := by decide +kernel
set_option maxRecDepth 100000 in
theorem cp_11_ok : mm_MOk ww_tbl ww_nm cp_K cp_11 := ⟨ww_c2 50 rfl rfl, ww_c1 3 rfl rfl, rfl, by decide, ⟨by decide, by decide⟩, by decide, ⟨_, rfl⟩, by decide, List.all_eq_true.mp cp_11_c⟩
set_option maxRecDepth 100000 in
theorem cp_12_c : (cp_12_l.all fun q => mm_chk cp_K 0 prog_2_method_14_code cp_12_l q.1 q.2) = true := by decide +kernel
set_option maxRecDepth 100000 in
theorem cp_12_ok : mm_MOk ww_tbl ww_nm cp_K cp_12 := ⟨ww_c2 159 rfl rfl, ww_c1 3 rfl rfl, rfl, by decide, ⟨by decide, by decide⟩, by decide, ⟨_, rfl⟩, by decide, List.all_eq_true.mp cp_12_c⟩
set_option maxRecDepth 100000 in
theorem cp_13_c : (cp_13_l.all fun q => mm_chk cp_K 0 prog_2_method_15_code cp_13_l q.1 q.2) = true := by decide +kernel
set_option maxRecDepth 100000 in
theorem cp_13_ok : mm_MOk ww_tbl ww_nm cp_K cp_13 := ⟨ww_c2 155 rfl rfl, ww_c1 3 rfl rfl, rfl, by decide, ⟨by decide, by decide⟩, by decide, ⟨_, rfl⟩, by decide, List.all_eq_true.mp cp_13_c⟩
set_option maxRecDepth 100000 in
theorem cp_14_c : (cp_14_l.all fun q => mm_chk cp_K 0 prog_2_method_16_code cp_14_l q.1 q.2) = true := by decide +kernel
set_option maxRecDepth 100000 in
theorem cp_14_ok : mm_MOk ww_tbl ww_nm cp_K cp_14 := ⟨ww_c2 164 rfl rfl, ww_c1 3 rfl rfl, rfl, by decide, ⟨by decide, by decide⟩, by decide, ⟨_, rfl⟩, by decide, List.all_eq_true.mp cp_14_c⟩
set_option maxRecDepth 100000 in
theorem cp_15_c : (cp_15_l.all fun q => mm_chk cp_K 0 prog_2_method_17_code cp_15_l q.1 q.2) = true := by decide +kernel
set_option maxRecDepth 100000 in
theorem cp_15_ok : mm_MOk ww_tbl ww_nm cp_K cp_15 := ⟨ww_c2 24 rfl rfl, ww_c1 3 rfl rfl, rfl, by decide, ⟨by decide, by decide⟩, by decide, ⟨_, rfl⟩, by decide, List.all_eq_true.mp cp_15_c⟩
set_option maxRecDepth 100000 in
theorem cp_16_c : (cp_16_l.all fun q => mm_chk cp_K 0 prog_2_method_18_code cp_16_l q.1 q.2) = true := by decide +kernel
set_option maxRecDepth 100000 in
theorem cp_16_ok : mm_MOk ww_tbl ww_nm cp_K cp_16 := ⟨ww_c2 190 rfl rfl, ww_c1 3 rfl rfl, rfl, by decide, ⟨by decide, by decide⟩, by decide, ⟨_, rfl⟩, by decide, List.all_eq_true.mp cp_16_c⟩
set_option maxRecDepth 100000 in
theorem cp_17_c : (cp_17_l.all fun q => mm_chk cp_K 0 prog_2_method_19_code cp_17_l q.1 q.2) = true := by decide +kernel
set_option maxRecDepth 100000 in
theorem cp_17_ok : mm_MOk ww_tbl ww_nm cp_K cp_17 := ⟨ww_c2 169 rfl rfl, ww_c1 3 rfl rfl, rfl, by decide, ⟨by decide, by decide⟩, by decide, ⟨_, rfl⟩, by decide, List.all_eq_true.mp cp_17_c⟩
set_option maxRecDepth 100000 in
theorem cp_18_c : (cp_18_l.all fun q => mm_chk cp_K 0 prog_2_method_20_code cp_18_l q.1 q.2) = true := by decide +kernel
set_option maxRecDepth 100000 in
theorem cp_18_ok : mm_MOk ww_tbl ww_nm cp_K cp_18 := ⟨ww_c2 102 rfl rfl, ww_c1 3 rfl rfl, rfl, by decide, ⟨by decide, by decide⟩, by decide, ⟨_, rfl⟩, by decide, List.all_eq_true.mp cp_18_c⟩
set_option maxRecDepth 100000 in
theorem cp_19_c : (cp_19_l.all fun q => mm_chk cp_K 0 prog_2_method_21_code cp_19_l q.1 q.2) = true := by decide +kernel
set_option maxRecDepth 100000 in
theorem cp_19_ok : mm_MOk ww_tbl ww_nm cp_K cp_19 := ⟨ww_c2 122 rfl rfl, ww_c1 3 rfl rfl, rfl, by decide, ⟨by decide, by decide⟩, by decide, ⟨_, rfl⟩, by decide, List.all_eq_true.mp cp_19_c⟩
set_option maxRecDepth 100000 in
theorem cp_20_c : (cp_20_l.all fun q => mm_chk cp_K 0 prog_2_method_22_code cp_20_l q.1 q.2) = true := by decide +kernel
set_option maxRecDepth 100000 in
theorem cp_20_ok : mm_MOk ww_tbl ww_nm cp_K cp_20 := ⟨ww_c2 98 rfl rfl, ww_c1 3 rfl rfl, rfl, by decide, ⟨by decide, by decide⟩, by decide, ⟨_, rfl⟩, by decide, List.all_eq_true.mp cp_20_c⟩
set_option maxRecDepth 100000 in
theorem cp_21_c : (cp_21_l.all fun q => mm_chk cp_K 0 prog_2_method_23_code cp_21_l q.1 q.2) = true := by decide +kernel
set_option maxRecDepth 100000 in
theorem cp_21_ok : mm_MOk ww_tbl ww_nm cp_K cp_21 := ⟨ww_c2 127 rfl rfl, ww_c1 3 rfl rfl, rfl, by decide, ⟨by decide, by decide⟩, by decide, ⟨_, rfl⟩, by decide, List.all_eq_true.mp cp_21_c⟩
set_option maxRecDepth 100000 in
theorem cp_22_c : (cp_22_l.all fun q => mm_chk cp_K 0 prog_2_method_24_code cp_22_l q.1 q.2) = true := by decide +kernel
set_option maxRecDepth 100000 in
theorem cp_22_ok : mm_MOk ww_tbl ww_nm cp_K cp_22 := ⟨ww_c2 131 rfl rfl, ww_c1 3 rfl rfl, rfl, by decide, ⟨by decide, by decide⟩, by decide, ⟨_, rfl⟩, by decide, List.all_eq_true.mp cp_22_c⟩
set_option maxRecDepth 100000 in
theorem cp_23_c : (cp_23_l.all fun q => mm_chk cp_K 0 prog_2_method_25_code cp_23_l q.1 q.2) = true := by decide +kernel
set_option maxRecDepth 100000 in
theorem cp_23_ok : mm_MOk ww_tbl ww_nm cp_K cp_23 := ⟨ww_c2 106 rfl rfl, ww_c1 3 rfl rfl, rfl, by decide, ⟨by decide, by decide⟩, by decide, ⟨_, rfl⟩, by decide, List.all_eq_true.mp cp_23_c⟩
set_option maxRecDepth 100000 in
theorem cp_24_c : (cp_24_l.all fun q => mm_chk cp_K 1 prog_3_method_2_code cp_24_l q.1 q.2) = true := by decide +kernel
set_option maxRecDepth 100000 in
theorem cp_24_ok : mm_MOk ww_tbl ww_nm cp_K cp_24 := ⟨ww_c1 192 rfl rfl, ww_c1 2 rfl rfl, rfl, by decide, ⟨by decide, by decide⟩, by decide, ⟨_, rfl⟩, by decide, List.all_eq_true.mp cp_24_c⟩
set_option maxRecDepth 100000 in
theorem cp_25_c : (cp_25_l.all fun q => mm_chk cp_K 1 prog_3_method_3_code cp_25_l q.1 q.2) = true := by decide +kernel
set_option maxRecDepth 100000 in
theorem cp_25_ok : mm_MOk ww_tbl ww_nm cp_K cp_25 := ⟨ww_c1 204 rfl rfl, ww_c1 2 rfl rfl, rfl, by decide, ⟨by decide, by decide⟩, by decide, ⟨_, rfl⟩, by decide, List.all_eq_true.mp cp_25_c⟩
set_option maxRecDepth 100000 in
theorem cp_26_c : (cp_26_l.all fun q => mm_chk cp_K 1 prog_3_method_4_code cp_26_l q.1 q.2) = true := by decide +kernel
set_option maxRecDepth 100000 in
theorem cp_26_ok : mm_MOk ww_tbl ww_nm cp_K cp_26 := ⟨ww_c2 173 rfl rfl, ww_c1 2 rfl rfl, rfl, by decide, ⟨by decide, by decide⟩, by decide, ⟨_, rfl⟩, by decide, List.all_eq_true.mp cp_26_c⟩
set_option maxRecDepth 100000 in
theorem cp_27_c : (cp_27_l.all fun q => mm_chk cp_K 1 prog_3_method_5_code cp_27_l q.1 q.2) = true := by decide +kernel
set_option maxRecDepth 100000 in
theorem cp_27_ok : mm_MOk ww_tbl ww_nm cp_K cp_27 := ⟨ww_c1 196 rfl rfl, ww_c1 2 rfl rfl, rfl, by decide, ⟨by decide, by decide⟩, by decide, ⟨_, rfl⟩, by decide, List.all_eq_true.mp cp_27_c⟩
set_option maxRecDepth 100000 in
theorem cp_28_c : (cp_28_l.all fun q => mm_chk cp_K 1 prog_3_method_6_code cp_28_l q.1 q.2) = true := by decide +kernel
set_option maxRecDepth 100000 in
theorem cp_28_ok : mm_MOk ww_tbl ww_nm cp_K cp_28 := ⟨ww_c2 28 rfl rfl, ww_c1 2 rfl rfl, rfl, by decide, ⟨by decide, by decide⟩, by decide, ⟨_, rfl⟩, by decide, List.all_eq_true.mp cp_28_c⟩
set_option maxRecDepth 100000 in
theorem cp_29_c : (cp_29_l.all fun q => mm_chk cp_K 1 prog_3_method_7_code cp_29_l q.1 q.2) = true := by decide +kernel
set_option maxRecDepth 100000 in
theorem cp_29_ok : mm_MOk ww_tbl ww_nm cp_K cp_29 := ⟨ww_c2 46 rfl rfl, ww_c1 2 rfl rfl, rfl, by decide, ⟨by decide, by decide⟩, by decide, ⟨_, rfl⟩, by decide, List.all_eq_true.mp cp_29_c⟩
set_option maxRecDepth 100000 in
theorem cp_30_c : (cp_30_l.all fun q => mm_chk cp_K 1 prog_3_method_8_code cp_30_l q.1 q.2) = true := by decide +kernel
set_option maxRecDepth 100000 in
theorem cp_30_ok : mm_MOk ww_tbl ww_nm cp_K cp_30 := ⟨ww_c1 212 rfl rfl, ww_c1 2 rfl rfl, rfl, by decide, ⟨by decide, by decide⟩, by decide, ⟨_, rfl⟩, by decide, List.all_eq_true.mp cp_30_c⟩
set_option maxRecDepth 100000 in
theorem cp_31_c : (cp_31_l.all fun q => mm_chk cp_K 1 prog_3_method_9_code cp_31_l q.1 q.2) = true := by decide +kernel
set_option maxRecDepth 100000 in
theorem cp_31_ok : mm_MOk ww_tbl ww_nm cp_K cp_31 := ⟨ww_c1 219 rfl rfl, ww_c1 2 rfl rfl, rfl, by decide, ⟨by decide, by decide⟩, by decide, ⟨_, rfl⟩, by decide, List.all_eq_true.mp cp_31_c⟩
set_option maxRecDepth 100000 in
theorem cp_32_c : (cp_32_l.all fun q => mm_chk cp_K 1 prog_3_method_10_code cp_32_l q.1 q.2) = true := by decide +kernel
set_option maxRecDepth 100000 in
theorem cp_32_ok : mm_MOk ww_tbl ww_nm cp_K cp_32 := ⟨ww_c2 3 rfl rfl, ww_c1 2 rfl rfl, rfl, by decide, ⟨by decide, by decide⟩, by decide, ⟨_, rfl⟩, by decide, List.all_eq_true.mp cp_32_c⟩
set_option maxRecDepth 100000 in
theorem cp_33_c : (cp_33_l.all fun q => mm_chk cp_K 1 prog_3_method_11_code cp_33_l q.1 q.2) = true := by decide +kernel
set_option maxRecDepth 100000 in
theorem cp_33_ok : mm_MOk ww_tbl ww_nm cp_K cp_33 := ⟨ww_c2 66 rfl rfl, ww_c1 2 rfl rfl, rfl, by decide, ⟨by decide, by decide⟩, by decide, ⟨_, rfl⟩, by decide, List.all_eq_true.mp cp_33_c⟩
set_option maxRecDepth 100000 in
theorem cp_34_c : (cp_34_l.all fun q => mm_chk cp_K 1 prog_3_method_12_code cp_34_l q.1 q.2) = true := by decide +kernel
set_option maxRecDepth 100000 in
theorem cp_34_ok : mm_MOk ww_tbl ww_nm cp_K cp_34 := ⟨ww_c2 83 rfl rfl, ww_c1 2 rfl rfl, rfl, by decide, ⟨by decide, by decide⟩, by decide, ⟨_, rfl⟩, by decide, List.all_eq_true.mp cp_34_c⟩
set_option maxRecDepth 100000 in
theorem cp_35_c : (cp_35_l.all fun q => mm_chk cp_K 1 prog_3_method_13_code cp_35_l q.1 q.2) = true := by decide +kernel
set_option maxRecDepth 100000 in
theorem cp_35_ok : mm_MOk ww_tbl ww_nm cp_K cp_35 := ⟨ww_c2 87 rfl rfl, ww_c1 2 rfl rfl, rfl, by decide, ⟨by decide, by decide⟩, by decide, ⟨_, rfl⟩, by decide, List.all_eq_true.mp cp_35_c⟩
set_option maxRecDepth 100000 in
theorem cp_36_c : (cp_36_l.all fun q => mm_chk cp_K 1 prog_3_method_14_code cp_36_l q.1 q.2) = true := by decide +kernel
set_option maxRecDepth 100000 in
theorem cp_36_ok : mm_MOk ww_tbl ww_nm cp_K cp_36 := ⟨ww_c2 75 rfl rfl, ww_c1 2 rfl rfl, rfl, by decide, ⟨by decide, by decide⟩, by decide, ⟨_, rfl⟩, by decide, List.all_eq_true.mp cp_36_c⟩
set_option maxRecDepth 100000 in
theorem cp_37_c : (cp_37_l.all fun q => mm_chk cp_K 1 prog_3_method_15_code cp_37_l q.1 q.2) = true := by decide +kernel
set_option maxRecDepth 100000 in
theorem cp_37_ok : mm_MOk ww_tbl ww_nm cp_K cp_37 := ⟨ww_c2 70 rfl rfl, ww_c1 2 rfl rfl, rfl, by decide, ⟨by decide, by decide⟩, by decide, ⟨_, rfl⟩, by decide, List.all_eq_true.mp cp_37_c⟩
set_option maxRecDepth 100000 in
theorem cp_38_c : (cp_38_l.all fun q => mm_chk cp_K 1 prog_3_method_16_code cp_38_l q.1 q.2) = true := by decide +kernel
set_option maxRecDepth 100000 in
theorem cp_38_ok : mm_MOk ww_tbl ww_nm cp_K cp_38 := ⟨ww_c1 200 rfl rfl, ww_c1 2 rfl rfl, rfl, by decide, ⟨by decide, by decide⟩, by decide, ⟨_, rfl⟩, by decide, List.all_eq_true.mp cp_38_c⟩
set_option maxRecDepth 100000 in
theorem cp_39_c : (cp_39_l.all fun q => mm_chk cp_K 1 prog_3_method_17_code cp_39_l q.1 q.2) = true := by decide +kernel
set_option maxRecDepth 100000 in
theorem cp_39_ok : mm_MOk ww_tbl ww_nm cp_K cp_39 := ⟨ww_c1 208 rfl rfl, ww_c1 2 rfl rfl, rfl, by decide, ⟨by decide, by decide⟩, by decide, ⟨_, rfl⟩, by decide, List.all_eq_true.mp cp_39_c⟩
set_option maxRecDepth 100000 in
theorem cp_40_c : (cp_40_l.all fun q => mm_chk cp_K 2 prog_4_method_2_code cp_40_l q.1 q.2) = true := by decide +kernel
set_option maxRecDepth 100000 in
theorem cp_40_ok : mm_MOk ww_tbl ww_nm cp_K cp_40 := ⟨ww_c3 3 rfl rfl, ww_c1 6 rfl rfl, rfl, by decide, ⟨by decide, by decide⟩, by decide, ⟨_, rfl⟩, by decide, List.all_eq_true.mp cp_40_c⟩
set_option maxRecDepth 100000 in
theorem cp_41_c : (cp_41_l.all fun q => mm_chk cp_K 2 prog_4_method_3_code cp_41_l q.1 q.2) = true := by decide +kernel
set_option maxRecDepth 100000 in
theorem cp_41_ok : mm_MOk ww_tbl ww_nm cp_K cp_41 := ⟨ww_c2 223 rfl rfl, ww_c1 6 rfl rfl, rfl, by decide, ⟨by decide, by decide⟩, by decide, ⟨_, rfl⟩, by decide, List.all_eq_true.mp cp_41_c⟩
set_option maxRecDepth 100000 in
theorem cp_42_c : (cp_42_l.all fun q => mm_chk cp_K 2 prog_4_method_4_code cp_42_l q.1 q.2) = true := by decide +kernel
set_option maxRecDepth 100000 in
theorem cp_42_ok : mm_MOk ww_tbl ww_nm cp_K cp_42 := ⟨ww_c3 32 rfl rfl, ww_c1 6 rfl rfl, rfl, by decide, ⟨by decide, by decide⟩, by decide, ⟨_, rfl⟩, by decide, List.all_eq_true.mp cp_42_c⟩
set_option maxRecDepth 100000 in
theorem cp_43_c : (cp_43_l.all fun q => mm_chk cp_K 2 prog_4_method_5_code cp_43_l q.1 q.2) = true := by decide +kernel
set_option maxRecDepth 100000 in
theorem cp_43_ok : mm_MOk ww_tbl ww_nm cp_K cp_43 := ⟨ww_c3 76 rfl rfl, ww_c1 6 rfl rfl, rfl, by decide, ⟨by decide, by decide⟩, by decide, ⟨_, rfl⟩, by decide, List.all_eq_true.mp cp_43_c⟩
set_option maxRecDepth 100000 in
theorem cp_44_c : (cp_44_l.all fun q => mm_chk cp_K 2 prog_4_method_6_code cp_44_l q.1 q.2) = true := by decide +kernel
set_option maxRecDepth 100000 in
theorem cp_44_ok : mm_MOk ww_tbl ww_nm cp_K cp_44 := ⟨ww_c3 83 rfl rfl, ww_c1 6 rfl rfl, rfl, by decide, ⟨by decide, by decide⟩, by decide, ⟨_, rfl⟩, by decide, List.all_eq_true.mp cp_44_c⟩
set_option maxRecDepth 100000 in
theorem cp_45_c : (cp_45_l.all fun q => mm_chk cp_K 2 prog_4_method_7_code cp_45_l q.1 q.2) = true := by decide +kernel
set_option maxRecDepth 100000 in
theorem cp_45_ok : mm_MOk ww_tbl ww_nm cp_K cp_45 := ⟨ww_c3 19 rfl rfl, ww_c1 6 rfl rfl, rfl, by decide, ⟨by decide, by decide⟩, by decide, ⟨_, rfl⟩, by decide, List.all_eq_true.mp cp_45_c⟩
set_option maxRecDepth 100000 in
theorem cp_46_c : (cp_46_l.all fun q => mm_chk cp_K 2 prog_4_method_8_code cp_46_l q.1 q.2) = true := by decide +kernel
set_option maxRecDepth 100000 in
theorem cp_46_ok : mm_MOk ww_tbl ww_nm cp_K cp_46 := ⟨ww_c3 109 rfl rfl, ww_c1 6 rfl rfl, rfl, by decide, ⟨by decide, by decide⟩, by decide, ⟨_, rfl⟩, by decide, List.all_eq_true.mp cp_46_c⟩
set_option maxRecDepth 100000 in
theorem cp_47_c : (cp_47_l.all fun q => mm_chk cp_K 2 prog_4_method_9_code cp_47_l q.1 q.2) = true := by decide +kernel
set_option maxRecDepth 100000 in
theorem cp_47_ok : mm_MOk ww_tbl ww_nm cp_K cp_47 := ⟨ww_c2 226 rfl rfl, ww_c1 6 rfl rfl, rfl, by decide, ⟨by decide, by decide⟩, by decide, ⟨_, rfl⟩, by decide, List.all_eq_true.mp cp_47_c⟩
set_option maxRecDepth 100000 in
theorem cp_48_c : (cp_48_l.all fun q => mm_chk cp_K 2 prog_4_method_10_code cp_48_l q.1 q.2) = true := by decide +kernel
set_option maxRecDepth 100000 in
theorem cp_48_ok : mm_MOk ww_tbl ww_nm cp_K cp_48 := ⟨ww_c3 79 rfl rfl, ww_c1 6 rfl rfl, rfl, by decide, ⟨by decide, by decide⟩, by decide, ⟨_, rfl⟩, by decide, List.all_eq_true.mp cp_48_c⟩
set_option maxRecDepth 100000 in
theorem cp_49_c : (cp_49_l.all fun q => mm_chk cp_K 3 prog_5_method_2_code cp_49_l q.1 q.2) = true := by decide +kernel
set_option maxRecDepth 100000 in
theorem cp_49_ok : mm_MOk ww_tbl ww_nm cp_K cp_49 := ⟨ww_c3 45 rfl rfl, ww_c1 5 rfl rfl, rfl, by decide, ⟨by decide, by decide⟩, by decide, ⟨_, rfl⟩, by decide, List.all_eq_true.mp cp_49_c⟩
set_option maxRecDepth 100000 in
theorem cp_50_c : (cp_50_l.all fun q => mm_chk cp_K 3 prog_5_method_3_code cp_50_l q.1 q.2) = true := by decide +kernel
set_option maxRecDepth 100000 in
theorem cp_50_ok : mm_MOk ww_tbl ww_nm cp_K cp_50 := ⟨ww_c3 141 rfl rfl, ww_c1 5 rfl rfl, rfl, by decide, ⟨by decide, by decide⟩, by decide, ⟨_, rfl⟩, by decide, List.all_eq_true.mp cp_50_c⟩
set_option maxRecDepth 100000 in
theorem cp_51_c : (cp_51_l.all fun q => mm_chk cp_K 3 prog_5_method_4_code cp_51_l q.1 q.2) = true := by decide +kernel
set_option maxRecDepth 100000 in
theorem cp_51_ok : mm_MOk ww_tbl ww_nm cp_K cp_51 := ⟨ww_c3 11 rfl rfl, ww_c1 5 rfl rfl, rfl, by decide, ⟨by decide, by decide⟩, by decide, ⟨_, rfl⟩, by decide, List.all_eq_true.mp cp_51_c⟩
set_option maxRecDepth 100000 in
theorem cp_52_c : (cp_52_l.all fun q => mm_chk cp_K 3 prog_5_method_5_code cp_52_l q.1 q.2) = true := by decide +kernel
set_option maxRecDepth 100000 in
theorem cp_52_ok : mm_MOk ww_tbl ww_nm cp_K cp_52 := ⟨ww_c3 133 rfl rfl, ww_c1 5 rfl rfl, rfl, by decide, ⟨by decide, by decide⟩, by decide, ⟨_, rfl⟩, by decide, List.all_eq_true.mp cp_52_c⟩
set_option maxRecDepth 100000 in
theorem cp_53_c : (cp_53_l.all fun q => mm_chk cp_K 3 prog_5_method_6_code cp_53_l q.1 q.2) = true := by decide +kernel
set_option maxRecDepth 100000 in
theorem cp_53_ok : mm_MOk ww_tbl ww_nm cp_K cp_53 := ⟨ww_c3 27 rfl rfl, ww_c1 5 rfl rfl, rfl, by decide, ⟨by decide, by decide⟩, by decide, ⟨_, rfl⟩, by decide, List.all_eq_true.mp cp_53_c⟩
set_option maxRecDepth 100000 in
theorem cp_54_c : (cp_54_l.all fun q => mm_chk cp_K 3 prog_5_method_7_code cp_54_l q.1 q.2) = true := by decide +kernel
set_option maxRecDepth 100000 in
theorem cp_54_ok : mm_MOk ww_tbl ww_nm cp_K cp_54 := ⟨ww_c3 92 rfl rfl, ww_c1 5 rfl rfl, rfl, by decide, ⟨by decide, by decide⟩, by decide, ⟨_, rfl⟩, by decide, List.all_eq_true.mp cp_54_c⟩
set_option maxRecDepth 100000 in
theorem cp_55_c : (cp_55_l.all fun q => mm_chk cp_K 3 prog_5_method_8_code cp_55_l q.1 q.2) = true := by decide +kernel
set_option maxRecDepth 100000 in
theorem cp_55_ok : mm_MOk ww_tbl ww_nm cp_K cp_55 := ⟨ww_c3 105 rfl rfl, ww_c1 5 rfl rfl, rfl, by decide, ⟨by decide, by decide⟩, by decide, ⟨_, rfl⟩, by decide, List.all_eq_true.mp cp_55_c⟩
set_option maxRecDepth 100000 in
theorem cp_56_c : (cp_56_l.all fun q => mm_chk cp_K 3 prog_5_method_9_code cp_56_l q.1 q.2) = true := by decide +kernel
set_option maxRecDepth 100000 in
theorem cp_56_ok : mm_MOk ww_tbl ww_nm cp_K cp_56 := ⟨ww_c3 97 rfl rfl, ww_c1 5 rfl rfl, rfl, by decide, ⟨by decide, by decide⟩, by decide, ⟨_, rfl⟩, by decide, List.all_eq_true.mp cp_56_c⟩
set_option maxRecDepth 100000 in
theorem cp_57_c : (cp_57_l.all fun q => mm_chk cp_K 3 prog_5_method_10_code cp_57_l q.1 q.2) = true := by decide +kernel
set_option maxRecDepth 100000 in
theorem cp_57_ok : mm_MOk ww_tbl ww_nm cp_K cp_57 := ⟨ww_c3 54 rfl rfl, ww_c1 5 rfl rfl, rfl, by decide, ⟨by decide, by decide⟩, by decide, ⟨_, rfl⟩, by decide, List.all_eq_true.mp cp_57_c⟩
set_option maxRecDepth 100000 in
theorem cp_58_c : (cp_58_l.all fun q => mm_chk cp_K 3 prog_5_method_11_code cp_58_l q.1 q.2) = true := by decide +kernel
set_option maxRecDepth 100000 in
theorem cp_58_ok : mm_MOk ww_tbl ww_nm cp_K cp_58 := ⟨ww_c3 63 rfl rfl, ww_c1 5 rfl rfl, rfl, by decide, ⟨by decide, by decide⟩, by decide, ⟨_, rfl⟩, by decide, List.all_eq_true.mp cp_58_c⟩
set_option maxRecDepth 100000 in
theorem cp_59_c : (cp_59_l.all fun q => mm_chk cp_K 3 prog_5_method_12_code cp_59_l q.1 q.2) = true := by decide +kernel
set_option maxRecDepth 100000 in
theorem cp_59_ok : mm_MOk ww_tbl ww_nm cp_K cp_59 := ⟨ww_c3 23 rfl rfl, ww_c1 5 rfl rfl, rfl, by decide, ⟨by decide, by decide⟩, by decide, ⟨_, rfl⟩, by decide, List.all_eq_true.mp cp_59_c⟩
set_option maxRecDepth 100000 in
theorem cp_60_c : (cp_60_l.all fun q => mm_chk cp_K 4 prog_6_method_2_code cp_60_l q.1 q.2) = true := by decide +kernel
set_option maxRecDepth 100000 in
theorem cp_60_ok : mm_MOk ww_tbl ww_nm cp_K cp_60 := ⟨ww_c3 58 rfl rfl, ww_c1 4 rfl rfl, rfl, by decide, ⟨by decide, by decide⟩, by decide, ⟨_, rfl⟩, by decide, List.all_eq_true.mp cp_60_c⟩
set_option maxRecDepth 100000 in
theorem cp_61_c : (cp_61_l.all fun q => mm_chk cp_K 4 prog_6_method_3_code cp_61_l q.1 q.2) = true := by decide +kernel
set_option maxRecDepth 100000 in
theorem cp_61_ok : mm_MOk ww_tbl ww_nm cp_K cp_61 := ⟨ww_c2 216 rfl rfl, ww_c1 4 rfl rfl, rfl, by decide, ⟨by decide, by decide⟩, by decide, ⟨_, rfl⟩, by decide, List.all_eq_true.mp cp_61_c⟩
set_option maxRecDepth 100000 in
theorem cp_62_c : (cp_62_l.all fun q => mm_chk cp_K 4 prog_6_method_4_code cp_62_l q.1 q.2) = true := by decide +kernel
set_option maxRecDepth 100000 in
theorem cp_62_ok : mm_MOk ww_tbl ww_nm cp_K cp_62 := ⟨ww_c2 141 rfl rfl, ww_c1 4 rfl rfl, rfl, by decide, ⟨by decide, by decide⟩, by decide, ⟨_, rfl⟩, by decide, List.all_eq_true.mp cp_62_c⟩
set_option maxRecDepth 100000 in
theorem cp_63_c : (cp_63_l.all fun q => mm_chk cp_K 4 prog_6_method_5_code cp_63_l q.1 q.2) = true := by decide +kernel
set_option maxRecDepth 100000 in
theorem cp_63_ok : mm_MOk ww_tbl ww_nm cp_K cp_63 := ⟨ww_c2 208 rfl rfl, ww_c1 4 rfl rfl, rfl, by decide, ⟨by decide, by decide⟩, by decide, ⟨_, rfl⟩, by decide, List.all_eq_true.mp cp_63_c⟩
set_option maxRecDepth 100000 in
theorem cp_64_c : (cp_64_l.all fun q => mm_chk cp_K 4 prog_6_method_6_code cp_64_l q.1 q.2) = true := by decide +kernel
set_option maxRecDepth 100000 in
theorem cp_64_ok : mm_MOk ww_tbl ww_nm cp_K cp_64 := ⟨ww_c2 150 rfl rfl, ww_c1 4 rfl rfl, rfl, by decide, ⟨by decide, by decide⟩, by decide, ⟨_, rfl⟩, by decide, List.all_eq_true.mp cp_64_c⟩
set_option maxRecDepth 100000 in
theorem cp_65_c : (cp_65_l.all fun q => mm_chk cp_K 4 prog_6_method_7_code cp_65_l q.1 q.2) = true := by decide +kernel
set_option maxRecDepth 100000 in
theorem cp_65_ok : mm_MOk ww_tbl ww_nm cp_K cp_65 := ⟨ww_c2 177 rfl rfl, ww_c1 4 rfl rfl, rfl, by decide, ⟨by decide, by decide⟩, by decide, ⟨_, rfl⟩, by decide, List.all_eq_true.mp cp_65_c⟩
set_option maxRecDepth 100000 in
theorem cp_66_c : (cp_66_l.all fun q => mm_chk cp_K 4 prog_6_method_8_code cp_66_l q.1 q.2) = true := by decide +kernel
set_option maxRecDepth 100000 in
theorem cp_66_ok : mm_MOk ww_tbl ww_nm cp_K cp_66 := ⟨ww_c2 181 rfl rfl, ww_c1 4 rfl rfl, rfl, by decide, ⟨by decide, by decide⟩, by decide, ⟨_, rfl⟩, by decide, List.all_eq_true.mp cp_66_c⟩
set_option maxRecDepth 100000 in
theorem cp_67_c : (cp_67_l.all fun q => mm_chk cp_K 4 prog_6_method_9_code cp_67_l q.1 q.2) = true := by decide +kernel
set_option maxRecDepth 100000 in
theorem cp_67_ok : mm_MOk ww_tbl ww_nm cp_K cp_67 := ⟨ww_c2 194 rfl rfl, ww_c1 4 rfl rfl, rfl, by decide, ⟨by decide, by decide⟩, by decide, ⟨_, rfl⟩, by decide, List.all_eq_true.mp cp_67_c⟩
set_option maxRecDepth 100000 in
theorem cp_68_c : (cp_68_l.all fun q => mm_chk cp_K 4 prog_6_method_10_code cp_68_l q.1 q.2) = true := by decide +kernel
set_option maxRecDepth 100000 in
theorem cp_68_ok : mm_MOk ww_tbl ww_nm cp_K cp_68 := ⟨ww_c2 198 rfl rfl, ww_c1 4 rfl rfl, rfl, by decide, ⟨by decide, by decide⟩, by decide, ⟨_, rfl⟩, by decide, List.all_eq_true.mp cp_68_c⟩
set_option maxRecDepth 100000 in
theorem cp_69_c : (cp_69_l.all fun q => mm_chk cp_K 4 prog_6_method_11_code cp_69_l q.1 q.2) = true := by decide +kernel
set_option maxRecDepth 100000 in
theorem cp_69_ok : mm_MOk ww_tbl ww_nm cp_K cp_69 := ⟨ww_c2 212 rfl rfl, ww_c1 4 rfl rfl, rfl, by decide, ⟨by decide, by decide⟩, by decide, ⟨_, rfl⟩, by decide, List.all_eq_true.mp cp_69_c⟩
set_option maxRecDepth 100000 in
theorem cp_70_c : (cp_70_l.all fun q => mm_chk cp_K 5 prog_1_method_2_code cp_70_l q.1 q.2) = true := by decide +kernel
set_option maxRecDepth 100000 in
theorem cp_70_ok : mm_MOk ww_tbl ww_nm cp_K cp_70 := ⟨ww_c1 188 rfl rfl, ww_c1 1 rfl rfl, rfl, by decide, ⟨by decide, by decide⟩, by decide, ⟨_, rfl⟩, by decide, List.all_eq_true.mp cp_70_c⟩
set_option maxRecDepth 100000 in
theorem cp_71_c : (cp_71_l.all fun q => mm_chk cp_K 5 prog_1_method_3_code cp_71_l q.1 q.2) = true := by decide +kernel
set_option maxRecDepth 100000 in
theorem cp_71_ok : mm_MOk ww_tbl ww_nm cp_K cp_71 := ⟨ww_c1 225 rfl rfl, ww_c1 1 rfl rfl, rfl, by decide, ⟨by decide, by decide⟩, by decide, ⟨_, rfl⟩, by decide, List.all_eq_true.mp cp_71_c⟩
set_option maxRecDepth 100000 in
theorem cp_72_c : (cp_72_l.all fun q => mm_chk cp_K 5 prog_1_method_4_code cp_72_l q.1 q.2) = true := by decide +kernel
set_option maxRecDepth 100000 in
theorem cp_72_ok : mm_MOk ww_tbl ww_nm cp_K cp_72 := ⟨ww_c2 20 rfl rfl, ww_c1 1 rfl rfl, rfl, by decide, ⟨by decide, by decide⟩, by decide, ⟨_, rfl⟩, by decide, List.all_eq_true.mp cp_72_c⟩
set_option maxRecDepth 100000 in
theorem cp_73_c : (cp_73_l.all fun q => mm_chk cp_K 5 prog_1_method_5_code cp_73_l q.1 q.2) = true := by decide +kernel
set_option maxRecDepth 100000 in
theorem cp_73_ok : mm_MOk ww_tbl ww_nm cp_K cp_73 := ⟨ww_c2 37 rfl rfl, ww_c1 1 rfl rfl, rfl, by decide, ⟨by decide, by decide⟩, by decide, ⟨_, rfl⟩, by decide, List.all_eq_true.mp cp_73_c⟩
set_option maxRecDepth 100000 in
theorem cp_74_c : (cp_74_l.all fun q => mm_chk cp_K 5 prog_1_method_6_code cp_74_l q.1 q.2) = true := by decide +kernel
set_option maxRecDepth 100000 in
theorem cp_74_ok : mm_MOk ww_tbl ww_nm cp_K cp_74 := ⟨ww_c2 58 rfl rfl, ww_c1 1 rfl rfl, rfl, by decide, ⟨by decide, by decide⟩, by decide, ⟨_, rfl⟩, by decide, List.all_eq_true.mp cp_74_c⟩
set_option maxRecDepth 100000 in
theorem cp_75_c : (cp_75_l.all fun q => mm_chk cp_K 5 prog_1_method_7_code cp_75_l q.1 q.2) = true := by decide +kernel
set_option maxRecDepth 100000 in
theorem cp_75_ok : mm_MOk ww_tbl ww_nm cp_K cp_75 := ⟨ww_c2 79 rfl rfl, ww_c1 1 rfl rfl, rfl, by decide, ⟨by decide, by decide⟩, by decide, ⟨_, rfl⟩, by decide, List.all_eq_true.mp cp_75_c⟩
set_option maxRecDepth 100000 in
theorem cp_76_c : (cp_76_l.all fun q => mm_chk cp_K 5 prog_1_method_8_code cp_76_l q.1 q.2) = true := by decide +kernel
set_option maxRecDepth 100000 in
theorem cp_76_ok : mm_MOk ww_tbl ww_nm cp_K cp_76 := ⟨ww_c2 94 rfl rfl, ww_c1 1 rfl rfl, rfl, by decide, ⟨by decide, by decide⟩, by decide, ⟨_, rfl⟩, by decide, List.all_eq_true.mp cp_76_c⟩
set_option maxRecDepth 100000 in
theorem cp_77_c : (cp_77_l.all fun q => mm_chk cp_K 5 prog_1_method_9_code cp_77_l q.1 q.2) = true := by decide +kernel
set_option maxRecDepth 100000 in
theorem cp_77_ok : mm_MOk ww_tbl ww_nm cp_K cp_77 := ⟨ww_c2 118 rfl rfl, ww_c1 1 rfl rfl, rfl, by decide, ⟨by decide, by decide⟩, by decide, ⟨_, rfl⟩, by decide, List.all_eq_true.mp cp_77_c⟩
set_option maxRecDepth 100000 in
theorem cp_78_c : (cp_78_l.all fun q => mm_chk cp_K 5 prog_1_method_10_code cp_78_l q.1 q.2) = true := by decide +kernel
set_option maxRecDepth 100000 in
theorem cp_78_ok : mm_MOk ww_tbl ww_nm cp_K cp_78 := ⟨ww_c2 137 rfl rfl, ww_c1 1 rfl rfl, rfl, by decide, ⟨by decide, by decide⟩, by decide, ⟨_, rfl⟩, by decide, List.all_eq_true.mp cp_78_c⟩
set_option maxRecDepth 100000 in
theorem cp_79_c : (cp_79_l.all fun q => mm_chk cp_K 5 prog_1_method_11_code cp_79_l q.1 q.2) = true := by decide +kernel
set_option maxRecDepth 100000 in
theorem cp_79_ok : mm_MOk ww_tbl ww_nm cp_K cp_79 := ⟨ww_c2 230 rfl rfl, ww_c1 1 rfl rfl, rfl, by decide, ⟨by decide, by decide⟩, by decide, ⟨_, rfl⟩, by decide, List.all_eq_true.mp cp_79_c⟩
set_option maxRecDepth 100000 in
theorem cp_80_c : (cp_80_l.all fun q => mm_chk cp_K 5 prog_1_method_12_code cp_80_l q.1 q.2) = true := by decide +kernel
set_option maxRecDepth 100000 in
theorem cp_80_ok : mm_MOk ww_tbl ww_nm cp_K cp_80 := ⟨ww_c2 236 rfl rfl, ww_c1 1 rfl rfl, rfl, by decide, ⟨by decide, by decide⟩, by decide, ⟨_, rfl⟩, by decide, List.all_eq_true.mp cp_80_c⟩
set_option maxRecDepth 100000 in
theorem cp_81_c : (cp_81_l.all fun q => mm_chk cp_K 5 prog_1_method_13_code cp_81_l q.1 q.2) = true := by decide +kernel
set_option maxRecDepth 100000 in
theorem cp_81_ok : mm_MOk ww_tbl ww_nm cp_K cp_81 := ⟨ww_c3 7 rfl rfl, ww_c1 1 rfl rfl, rfl, by decide, ⟨by decide, by decide⟩, by decide, ⟨_, rfl⟩, by decide, List.all_eq_true.mp cp_81_c⟩
set_option maxRecDepth 100000 in
theorem cp_82_c : (cp_82_l.all fun q => mm_chk cp_K 5 prog_1_method_14_code cp_82_l q.1 q.2) = true := by decide +kernel
set_option maxRecDepth 100000 in
theorem cp_82_ok : mm_MOk ww_tbl ww_nm cp_K cp_82 := ⟨ww_c3 36 rfl rfl, ww_c1 1 rfl rfl, rfl, by decide, ⟨by decide, by decide⟩, by decide, ⟨_, rfl⟩, by decide, List.all_eq_true.mp cp_82_c⟩
set_option maxRecDepth 100000 in
theorem cp_83_c : (cp_83_l.all fun q => mm_chk cp_K 5 prog_1_method_15_code cp_83_l q.1 q.2) = true := by decide +kernel
set_option maxRecDepth 100000 in
theorem cp_83_ok : mm_MOk ww_tbl ww_nm cp_K cp_83 := ⟨ww_c3 87 rfl rfl, ww_c1 1 rfl rfl, rfl, by decide, ⟨by decide, by decide⟩, by decide, ⟨_, rfl⟩, by decide, List.all_eq_true.mp cp_83_c⟩
set_option maxRecDepth 100000 in
theorem cp_84_c : (cp_84_l.all fun q => mm_chk cp_K 5 prog_1_method_16_code cp_84_l q.1 q.2) = true := by decide +kernel
set_option maxRecDepth 100000 in
theorem cp_84_ok : mm_MOk ww_tbl ww_nm cp_K cp_84 := ⟨ww_c3 101 rfl rfl, ww_c1 1 rfl rfl, rfl, by decide, ⟨by decide, by decide⟩, by decide, ⟨_, rfl⟩, by decide, List.all_eq_true.mp cp_84_c⟩
set_option maxRecDepth 100000 in
theorem cp_85_c : (cp_85_l.all fun q => mm_chk cp_K 5 prog_1_method_17_code cp_85_l q.1 q.2) = true := by decide +kernel
set_option maxRecDepth 100000 in
theorem cp_85_ok : mm_MOk ww_tbl ww_nm cp_K cp_85 := ⟨ww_c3 113 rfl rfl, ww_c1 1 rfl rfl, rfl, by decide, ⟨by decide, by decide⟩, by decide, ⟨_, rfl⟩, by decide, List.all_eq_true.mp cp_85_c⟩
set_option maxRecDepth 100000 in
theorem cp_86_c : (cp_86_l.all fun q => mm_chk cp_K 5 prog_1_method_18_code cp_86_l q.1 q.2) = true := by decide +kernel
set_option maxRecDepth 100000 in
theorem cp_86_ok : mm_MOk ww_tbl ww_nm cp_K cp_86 := ⟨ww_c3 121 rfl rfl, ww_c1 1 rfl rfl, rfl, by decide, ⟨by decide, by decide⟩, by decide, ⟨_, rfl⟩, by decide, List.all_eq_true.mp cp_86_c⟩
set_option maxRecDepth 100000 in
theorem cp_87_c : (cp_87_l.all fun q => mm_chk cp_K 5 prog_1_method_19_code cp_87_l q.1 q.2) = true := by decide +kernel
set_option maxRecDepth 100000 in
theorem cp_87_ok : mm_MOk ww_tbl ww_nm cp_K cp_87 := ⟨ww_c3 125 rfl rfl, ww_c1 1 rfl rfl, rfl, by decide, ⟨by decide, by decide⟩, by decide, ⟨_, rfl⟩, by decide, List.all_eq_true.mp cp_87_c⟩
set_option maxRecDepth 100000 in
theorem cp_88_c : (cp_88_l.all fun q => mm_chk cp_K 5 prog_1_method_20_code cp_88_l q.1 q.2) = true := by decide +kernel
set_option maxRecDepth 100000 in
theorem cp_88_ok : mm_MOk ww_tbl ww_nm cp_K cp_88 := ⟨ww_c3 129 rfl rfl, ww_c1 1 rfl rfl, rfl, by decide, ⟨by decide, by decide⟩, by decide, ⟨_, rfl⟩, by decide, List.all_eq_true.mp cp_88_c⟩
set_option maxRecDepth 100000 in
theorem cp_89_c : (cp_89_l.all fun q => mm_chk cp_K 5 prog_1_method_21_code cp_89_l q.1 q.2) = true := by decide +kernel
set_option maxRecDepth 100000 in
theorem cp_89_ok : mm_MOk ww_tbl ww_nm cp_K cp_89 := ⟨ww_c3 137 rfl rfl, ww_c1 1 rfl rfl, rfl, by decide, ⟨by decide, by decide⟩, by decide, ⟨_, rfl⟩, by decide, List.all_eq_true.mp cp_89_c⟩
set_option maxRecDepth 100000 in
theorem cp_90_c : (cp_90_l.all fun q => mm_chk cp_K 5 prog_1_method_22_code cp_90_l q.1 q.2) = true := by decide +kernel
set_option maxRecDepth 100000 in
theorem cp_90_ok : mm_MOk ww_tbl ww_nm cp_K cp_90 := ⟨ww_c2 239 rfl rfl, ww_c1 1 rfl rfl, rfl, by decide, ⟨by decide, by decide⟩, by decide, ⟨_, rfl⟩, by decide, List.all_eq_true.mp cp_90_c⟩
set_option maxRecDepth 100000 in
theorem cp_91_c : (cp_91_l.all fun q => mm_chk cp_K 5 prog_1_method_23_code cp_91_l q.1 q.2) = true := by decide +kernel
set_option maxRecDepth 100000 in
theorem cp_91_ok : mm_MOk ww_tbl ww_nm cp_K cp_91 := ⟨ww_c1 239 rfl rfl, ww_c1 1 rfl rfl, rfl, by decide, ⟨by decide, by decide⟩, by decide, ⟨_, rfl⟩, by decide, List.all_eq_true.mp cp_91_c⟩
set_option maxRecDepth 100000 in
theorem cp_92_c : (cp_92_l.all fun q => mm_chk cp_K 5 prog_1_method_24_code cp_92_l q.1 q.2) = true := by decide +kernel
set_option maxRecDepth 100000 in
theorem cp_92_ok : mm_MOk ww_tbl ww_nm cp_K cp_92 := ⟨ww_c1 236 rfl rfl, ww_c1 1 rfl rfl, rfl, by decide, ⟨by decide, by decide⟩, by decide, ⟨_, rfl⟩, by decide, List.all_eq_true.mp cp_92_c⟩
set_option maxRecDepth 100000 in
theorem cp_93_c : (cp_93_l.all fun q => mm_chk cp_K 5 prog_1_method_25_code cp_93_l q.1 q.2) = true := by decide +kernel
set_option maxRecDepth 100000 in
theorem cp_93_ok : mm_MOk ww_tbl ww_nm cp_K cp_93 := ⟨ww_c1 233 rfl rfl, ww_c1 1 rfl rfl, rfl, by decide, ⟨by decide, by decide⟩, by decide, ⟨_, rfl⟩, by decide, List.all_eq_true.mp cp_93_c⟩
set_option maxRecDepth 100000 in
theorem cp_94_c : (cp_94_l.all fun q => mm_chk cp_K 5 prog_1_method_26_code cp_94_l q.1 q.2) = true := by decide +kernel
set_option maxRecDepth 100000 in
theorem cp_94_ok : mm_MOk ww_tbl ww_nm cp_K cp_94 := ⟨ww_c2 42 rfl rfl, ww_c1 1 rfl rfl, rfl, by decide, ⟨by decide, by decide⟩, by decide, ⟨_, rfl⟩, by decide, List.all_eq_true.mp cp_94_c⟩
set_option maxRecDepth 100000 in
theorem cp_95_c : (cp_95_l.all fun q => mm_chk cp_K 5 prog_1_method_27_code cp_95_l q.1 q.2) = true := by decide +kernel
set_option maxRecDepth 100000 in
theorem cp_95_ok : mm_MOk ww_tbl ww_nm cp_K cp_95 := ⟨ww_c3 68 rfl rfl, ww_c1 1 rfl rfl, rfl, by decide, ⟨by decide, by decide⟩, by decide, ⟨_, rfl⟩, by decide, List.all_eq_true.mp cp_95_c⟩
set_option maxRecDepth 100000 in
theorem cp_96_c : (cp_96_l.all fun q => mm_chk cp_K 5 prog_1_method_28_code cp_96_l q.1 q.2) = true := by decide +kernel
set_option maxRecDepth 100000 in
theorem cp_96_ok : mm_MOk ww_tbl ww_nm cp_K cp_96 := ⟨ww_c3 41 rfl rfl, ww_c1 1 rfl rfl, rfl, by decide, ⟨by decide, by decide⟩, by decide, ⟨_, rfl⟩, by decide, List.all_eq_true.mp cp_96_c⟩
set_option maxRecDepth 100000 in
theorem cp_97_c : (cp_97_l.all fun q => mm_chk cp_K 5 prog_1_method_29_code cp_97_l q.1 q.2) = true := by decide +kernel
set_option maxRecDepth 100000 in
theorem cp_97_ok : mm_MOk ww_tbl ww_nm cp_K cp_97 := ⟨ww_c3 49 rfl rfl, ww_c1 1 rfl rfl, rfl, by decide, ⟨by decide, by decide⟩, by decide, ⟨_, rfl⟩, by decide, List.all_eq_true.mp cp_97_c⟩
set_option maxRecDepth 100000 in
theorem cp_98_c : (cp_98_l.all fun q => mm_chk cp_K 5 prog_1_method_30_code cp_98_l q.1 q.2) = true := by decide +kernel
set_option maxRecDepth 100000 in
theorem cp_98_ok : mm_MOk ww_tbl ww_nm cp_K cp_98 := ⟨ww_c3 15 rfl rfl, ww_c1 1 rfl rfl, rfl, by decide, ⟨by decide, by decide⟩, by decide, ⟨_, rfl⟩, by decide, List.all_eq_true.mp cp_98_c⟩
set_option maxRecDepth 100000 in
theorem cp_99_c : (cp_99_l.all fun q => mm_chk cp_K 5 prog_1_method_31_code cp_99_l q.1 q.2) = true := by decide +kernel
set_option maxRecDepth 100000 in
theorem cp_99_ok : mm_MOk ww_tbl ww_nm cp_K cp_99 := ⟨ww_c3 117 rfl rfl, ww_c1 1 rfl rfl, rfl, by decide, ⟨by decide, by decide⟩, by decide, ⟨_, rfl⟩, by decide, List.all_eq_true.mp cp_99_c⟩
set_option maxRecDepth 100000 in
theorem cp_100_c : (cp_100_l.all fun q => mm_chk cp_K 7 prog_9_method_49_code cp_100_l q.1 q.2) = true := by decide +kernel
set_option maxRecDepth 100000 in
theorem cp_100_ok : mm_MOk ww_tbl ww_nm cp_K cp_100 := ⟨ww_c2 111 rfl rfl, ww_c1 9 rfl rfl, rfl, by decide, ⟨by decide, by decide⟩, by decide, ⟨_, rfl⟩, by decide, List.all_eq_true.mp cp_100_c⟩
set_option maxRecDepth 100000 in
theorem cp_Ms_0 : ∀ q ∈ ([cp_0, cp_1, cp_2, cp_3, cp_4, cp_5, cp_6, cp_7, cp_8, cp_9, cp_10, cp_11] : List _), mm_MOk ww_tbl ww_nm cp_K q := List.forall_mem_cons.mpr ⟨cp_0_ok, List.forall_mem_cons.mpr ⟨cp_1_ok, List.forall_mem_cons.mpr ⟨cp_2_ok, List.forall_mem_cons.mpr ⟨cp_3_ok, List.forall_mem_cons.mpr ⟨cp_4_ok, List.forall_mem_cons.mpr ⟨cp_5_ok, List.forall_mem_cons.mpr ⟨cp_6_ok, List.forall_mem_cons.mpr ⟨cp_7_ok, List.forall_mem_cons.mpr ⟨cp_8_ok, List.forall_mem_cons.mpr ⟨cp_9_ok, List.forall_mem_cons.mpr ⟨cp_10_ok, List.forall_mem_cons.mpr ⟨cp_11_ok, fun _ h => absurd h List.not_mem_nil⟩⟩⟩⟩⟩⟩⟩⟩⟩⟩⟩⟩
set_option maxRecDepth 100000 in
theorem cp_Ms_1 : ∀ q ∈ ([cp_12, cp_13, cp_14, cp_15, cp_16, cp_17, cp_18, cp_19, cp_20, cp_21, cp_22, cp_23] : List _), mm_MOk ww_tbl ww_nm cp_K q := List.forall_mem_cons.mpr ⟨cp_12_ok, List.forall_mem_cons.mpr ⟨cp_13_ok, List.forall_mem_cons.mpr ⟨cp_14_ok, List.forall_mem_cons.mpr ⟨cp_15_ok, List.forall_mem_cons.mpr ⟨cp_16_ok, List.forall_mem_cons.mpr ⟨cp_17_ok, List.forall_mem_cons.mpr ⟨cp_18_ok, List.forall_mem_cons.mpr ⟨cp_19_ok, List.forall_mem_cons.mpr ⟨cp_20_ok, List.forall_mem_cons.mpr ⟨cp_21_ok, List.forall_mem_cons.mpr ⟨cp_22_ok, List.forall_mem_cons.mpr ⟨cp_23_ok, fun _ h => absurd h List.not_mem_nil⟩⟩⟩⟩⟩⟩⟩⟩⟩⟩⟩⟩
set_option maxRecDepth 100000 in
theorem cp_Ms_2 : ∀ q ∈ ([cp_24, cp_25, cp_26, cp_27, cp_28, cp_29, cp_30, cp_31, cp_32, cp_33, cp_34, cp_35] : List _), mm_MOk ww_tbl ww_nm cp_K q := List.forall_mem_cons.mpr ⟨cp_24_ok, List.forall_mem_cons.mpr ⟨cp_25_ok, List.forall_mem_cons.mpr ⟨cp_26_ok, List.forall_mem_cons.mpr ⟨cp_27_ok, List.forall_mem_cons.mpr ⟨cp_28_ok, List.forall_mem_cons.mpr ⟨cp_29_ok, List.forall_mem_cons.mpr ⟨cp_30_ok, List.forall_mem_cons.mpr ⟨cp_31_ok, List.forall_mem_cons.mpr ⟨cp_32_ok, List.forall_mem_cons.mpr ⟨cp_33_ok, List.forall_mem_cons.mpr ⟨cp_34_ok, List.forall_mem_cons.mpr ⟨cp_35_ok, fun _ h => absurd h List.not_mem_nil⟩⟩⟩⟩⟩⟩⟩⟩⟩⟩⟩⟩
set_option maxRecDepth 100000 in
theorem cp_Ms_3 : ∀ q ∈ ([cp_36, cp_37, cp_38, cp_39, cp_40, cp_41, cp_42, cp_43, cp_44, cp_45, cp_46, cp_47] : List _), mm_MOk ww_tbl ww_nm cp_K q := List.forall_mem_cons.mpr ⟨cp_36_ok, List.forall_mem_cons.mpr ⟨cp_37_ok, List.forall_mem_cons.mpr ⟨cp_38_ok, List.forall_mem_cons.mpr ⟨cp_39_ok, List.forall_mem_cons.mpr ⟨cp_40_ok, List.forall_mem_cons.mpr ⟨cp_41_ok, List.forall_mem_cons.mpr ⟨cp_42_ok, List.forall_mem_cons.mpr ⟨cp_43_ok, List.forall_mem_cons.mpr ⟨cp_44_ok, List.forall_mem_cons.mpr ⟨cp_45_ok, List.forall_mem_cons.mpr ⟨cp_46_ok, List.forall_mem_cons.mpr ⟨cp_47_ok, fun _ h => absurd h List.not_mem_nil⟩⟩⟩⟩⟩⟩⟩⟩⟩⟩⟩⟩
set_option maxRecDepth 100000 in
theorem cp_Ms_4 : ∀ q ∈ ([cp_48, cp_49, cp_50, cp_51, cp_52, cp_53, cp_54, cp_55, cp_56, cp_57, cp_58, cp_59] : List _), mm_MOk ww_tbl ww_nm cp_K q := List.forall_mem_cons.mpr ⟨cp_48_ok, List.forall_mem_cons.mpr ⟨cp_49_ok, List.forall_mem_cons.mpr ⟨cp_50_ok, List.forall_mem_cons.mpr ⟨cp_51_ok, List.forall_mem_cons.mpr ⟨cp_52_ok, List.forall_mem_cons.mpr ⟨cp_53_ok, List.forall_mem_cons.mpr ⟨cp_54_ok, List.forall_mem_cons.mpr ⟨cp_55_ok, List.forall_mem_cons.mpr ⟨cp_56_ok, List.forall_mem_cons.mpr ⟨cp_57_ok, List.forall_mem_cons.mpr ⟨cp_58_ok, List.forall_mem_cons.mpr ⟨cp_59_ok, fun _ h => absurd h List.not_mem_nil⟩⟩⟩⟩⟩⟩⟩⟩⟩⟩⟩⟩
set_option maxRecDepth 100000 in
theorem cp_Ms_5 : ∀ q ∈ ([cp_60, cp_61, cp_62, cp_63, cp_64, cp_65, cp_66, cp_67, cp_68, cp_69, cp_70, cp_71] : List _), mm_MOk ww_tbl ww_nm cp_K q := List.forall_mem_cons.mpr ⟨cp_60_ok, List.forall_mem_cons.mpr ⟨cp_61_ok, List.forall_mem_cons.mpr ⟨cp_62_ok, List.forall_mem_cons.mpr ⟨cp_63_ok, List.forall_mem_cons.mpr ⟨cp_64_ok, List.forall_mem_cons.mpr ⟨cp_65_ok, List.forall_mem_cons.mpr ⟨cp_66_ok, List.forall_mem_cons.mpr ⟨cp_67_ok, List.forall_mem_cons.mpr ⟨cp_68_ok, List.forall_mem_cons.mpr ⟨cp_69_ok, List.forall_mem_cons.mpr ⟨cp_70_ok, List.forall_mem_cons.mpr ⟨cp_71_ok, fun _ h => absurd h List.not_mem_nil⟩⟩⟩⟩⟩⟩⟩⟩⟩⟩⟩⟩
set_option maxRecDepth 100000 in
theorem cp_Ms_6 : ∀ q ∈ ([cp_72, cp_73, cp_74, cp_75, cp_76, cp_77, cp_78, cp_79, cp_80, cp_81, cp_82, cp_83] : List _), mm_MOk ww_tbl ww_nm cp_K q := List.forall_mem_cons.mpr ⟨cp_72_ok, List.forall_mem_cons.mpr ⟨cp_73_ok, List.forall_mem_cons.mpr ⟨cp_74_ok, List.forall_mem_cons.mpr ⟨cp_75_ok, List.forall_mem_cons.mpr ⟨cp_76_ok, List.forall_mem_cons.mpr ⟨cp_77_ok, List.forall_mem_cons.mpr ⟨cp_78_ok, List.forall_mem_cons.mpr ⟨cp_79_ok, List.forall_mem_cons.mpr ⟨cp_80_ok, List.forall_mem_cons.mpr ⟨cp_81_ok, List.forall_mem_cons.mpr ⟨cp_82_ok, List.forall_mem_cons.mpr ⟨cp_83_ok, fun _ h => absurd h List.not_mem_nil⟩⟩⟩⟩⟩⟩⟩⟩⟩⟩⟩⟩
set_option maxRecDepth 100000 in
theorem cp_Ms_7 : ∀ q ∈ ([cp_84, cp_85, cp_86, cp_87, cp_88, cp_89, cp_90, cp_91, cp_92, cp_93, cp_94, cp_95] : List _), mm_MOk ww_tbl ww_nm cp_K q := List.forall_mem_cons.mpr ⟨cp_84_ok, List.forall_mem_cons.mpr ⟨cp_85_ok, List.forall_mem_cons.mpr ⟨cp_86_ok, List.forall_mem_cons.mpr ⟨cp_87_ok, List.forall_mem_cons.mpr ⟨cp_88_ok, List.forall_mem_cons.mpr ⟨cp_89_ok, List.forall_mem_cons.mpr ⟨cp_90_ok, List.forall_mem_cons.mpr ⟨cp_91_ok, List.forall_mem_cons.mpr ⟨cp_92_ok, List.forall_mem_cons.mpr ⟨cp_93_ok, List.forall_mem_cons.mpr ⟨cp_94_ok, List.forall_mem_cons.mpr ⟨cp_95_ok, fun _ h => absurd h List.not_mem_nil⟩⟩⟩⟩⟩⟩⟩⟩⟩⟩⟩⟩
set_option maxRecDepth 100000 in
theorem cp_Ms_8 : ∀ q ∈ ([cp_96, cp_97, cp_98, cp_99, cp_100] : List _), mm_MOk ww_tbl ww_nm cp_K q := List.forall_mem_cons.mpr ⟨cp_96_ok, List.forall_mem_cons.mpr ⟨cp_97_ok, List.forall_mem_cons.mpr ⟨cp_98_ok, List.forall_mem_cons.mpr ⟨cp_99_ok, List.forall_mem_cons.mpr ⟨cp_100_ok, fun _ h => absurd h List.not_mem_nil⟩⟩⟩⟩⟩
set_option maxRecDepth 100000 in
theorem cp_Ms : ∀ q ∈ (([cp_0, cp_1, cp_2, cp_3, cp_4, cp_5, cp_6, cp_7, cp_8, cp_9, cp_10, cp_11] : List _) ++ (([cp_12, cp_13, cp_14, cp_15, cp_16, cp_17, cp_18, cp_19, cp_20, cp_21, cp_22, cp_23] : List _) ++ (([cp_24, cp_25, cp_26, cp_27, cp_28, cp_29, cp_30, cp_31, cp_32, cp_33, cp_34, cp_35] : List _) ++ (([cp_36, cp_37, cp_38, cp_39, cp_40, cp_41, cp_42, cp_43, cp_44, cp_45, cp_46, cp_47] : List _) ++ (([cp_48, cp_49, cp_50, cp_51, cp_52, cp_53, cp_54, cp_55, cp_56, cp_57, cp_58, cp_59] : List _) ++ (([cp_60, cp_61, cp_62, cp_63, cp_64, cp_65, cp_66, cp_67, cp_68, cp_69, cp_70, cp_71] : List _) ++ (([cp_72, cp_73, cp_74, cp_75, cp_76, cp_77, cp_78, cp_79, cp_80, cp_81, cp_82, cp_83] : List _) ++ (([cp_84, cp_85, cp_86, cp_87, cp_88, cp_89, cp_90, cp_91, cp_92, cp_93, cp_94, cp_95] : List _) ++ (([cp_96, cp_97, cp_98, cp_99, cp_100] : List _)))))))))), mm_MOk ww_tbl ww_nm cp_K q := List.forall_mem_append.mpr ⟨cp_Ms_0, List.forall_mem_append.mpr ⟨cp_Ms_1, List.forall_mem_append.mpr ⟨cp_Ms_2, List.forall_mem_append.mpr ⟨cp_Ms_3, List.forall_mem_append.mpr ⟨cp_Ms_4, List.forall_mem_append.mpr ⟨cp_Ms_5, List.forall_mem_append.mpr ⟨cp_Ms_6, List.forall_mem_append.mpr ⟨cp_Ms_7, cp_Ms_8⟩⟩⟩⟩⟩⟩⟩⟩
set_option maxRecDepth 100000 in
theorem cp_Fs_0 : ∀ q ∈ ([(0, 9, 0, 2), (0, 15, 0, 3), (0, 18, 0, 4), (0, 21, 0, 5), (0, 24, 0, 6), (0, 27, 0, 7), (0, 31, 0, 8), (0, 36, 0, 9), (0, 39, 0, 10), (0, 42, 0, 0), (0, 46, 0, 1), (1, 9, 1, 1)] : List _), mm_FOk ww_tbl ww_cl ww_nm q := List.forall_mem_cons.mpr ⟨⟨_, _, _, rfl, by decide, ww_c1 65 rfl rfl⟩, List.forall_mem_cons.mpr ⟨⟨_, _, _, rfl, by decide, ww_c1 66 rfl rfl⟩, List.forall_mem_cons.mpr ⟨⟨_, _, _, rfl, by decide, ww_c1 67 rfl rfl⟩, List.forall_mem_cons.mpr ⟨⟨_, _, _, rfl, by decide, ww_c1 68 rfl rfl⟩, List.forall_mem_cons.mpr ⟨⟨_, _, _, rfl, by decide, ww_c1 69 rfl rfl⟩, List.forall_mem_cons.mpr ⟨⟨_, _, _, rfl, by decide, ww_c1 70 rfl rfl⟩, List.forall_mem_cons.mpr ⟨⟨_, _, _, rfl, by decide, ww_c1 71 rfl rfl⟩, List.forall_mem_cons.mpr ⟨⟨_, _, _, rfl, by decide, ww_c1 72 rfl rfl⟩, List.forall_mem_cons.mpr ⟨⟨_, _, _, rfl, by decide, ww_c1 73 rfl rfl⟩, List.forall_mem_cons.mpr ⟨⟨_, _, _, rfl, by decide, ww_c1 63 rfl rfl⟩, List.forall_mem_cons.mpr ⟨⟨_, _, _, rfl, by decide, ww_c1 64 rfl rfl⟩, List.forall_mem_cons.mpr ⟨⟨_, _, _, rfl, by decide, ww_c1 25 rfl rfl⟩, fun _ h => absurd h List.not_mem_nil⟩⟩⟩⟩⟩⟩⟩⟩⟩⟩⟩⟩
set_option maxRecDepth 100000 in
theorem cp_Fs_1 : ∀ q ∈ ([(1, 15, 1, 2), (1, 18, 1, 3), (1, 22, 1, 4), (1, 25, 1, 5), (1, 28, 1, 6), (1, 31, 1, 7), (1, 35, 1, 0), (1, 56, 1, 8), (2, 9, 2, 0), (2, 17, 2, 1), (3, 9, 3, 3), (3, 15, 3, 4)] : List _), mm_FOk ww_tbl ww_cl ww_nm q := List.forall_mem_cons.mpr ⟨⟨_, _, _, rfl, by decide, ww_c1 26 rfl rfl⟩, List.forall_mem_cons.mpr ⟨⟨_, _, _, rfl, by decide, ww_c1 27 rfl rfl⟩, List.forall_mem_cons.mpr ⟨⟨_, _, _, rfl, by decide, ww_c1 28 rfl rfl⟩, List.forall_mem_cons.mpr ⟨⟨_, _, _, rfl, by decide, ww_c1 29 rfl rfl⟩, List.forall_mem_cons.mpr ⟨⟨_, _, _, rfl, by decide, ww_c1 30 rfl rfl⟩, List.forall_mem_cons.mpr ⟨⟨_, _, _, rfl, by decide, ww_c1 31 rfl rfl⟩, List.forall_mem_cons.mpr ⟨⟨_, _, _, rfl, by decide, ww_c1 24 rfl rfl⟩, List.forall_mem_cons.mpr ⟨⟨_, _, _, rfl, by decide, ww_c1 32 rfl rfl⟩, List.forall_mem_cons.mpr ⟨⟨_, _, _, rfl, by decide, ww_c1 159 rfl rfl⟩, List.forall_mem_cons.mpr ⟨⟨_, _, _, rfl, by decide, ww_c1 160 rfl rfl⟩, List.forall_mem_cons.mpr ⟨⟨_, _, _, rfl, by decide, ww_c1 130 rfl rfl⟩, List.forall_mem_cons.mpr ⟨⟨_, _, _, rfl, by decide, ww_c1 131 rfl rfl⟩, fun _ h => absurd h List.not_mem_nil⟩⟩⟩⟩⟩⟩⟩⟩⟩⟩⟩⟩
set_option maxRecDepth 100000 in
theorem cp_Fs_2 : ∀ q ∈ ([(3, 18, 3, 5), (3, 24, 3, 6), (3, 27, 3, 7), (3, 30, 3, 0), (3, 34, 3, 1), (3, 37, 3, 2), (4, 11, 4, 2), (4, 16, 4, 3), (4, 20, 4, 4), (4, 23, 4, 0), (4, 27, 4, 1), (5, 10, 5, 0)] : List _), mm_FOk ww_tbl ww_cl ww_nm q := List.forall_mem_cons.mpr ⟨⟨_, _, _, rfl, by decide, ww_c1 132 rfl rfl⟩, List.forall_mem_cons.mpr ⟨⟨_, _, _, rfl, by decide, ww_c1 133 rfl rfl⟩, List.forall_mem_cons.mpr ⟨⟨_, _, _, rfl, by decide, ww_c1 134 rfl rfl⟩, List.forall_mem_cons.mpr ⟨⟨_, _, _, rfl, by decide, ww_c1 127 rfl rfl⟩, List.forall_mem_cons.mpr ⟨⟨_, _, _, rfl, by decide, ww_c1 128 rfl rfl⟩, List.forall_mem_cons.mpr ⟨⟨_, _, _, rfl, by decide, ww_c1 129 rfl rfl⟩, List.forall_mem_cons.mpr ⟨⟨_, _, _, rfl, by decide, ww_c1 106 rfl rfl⟩, List.forall_mem_cons.mpr ⟨⟨_, _, _, rfl, by decide, ww_c1 107 rfl rfl⟩, List.forall_mem_cons.mpr ⟨⟨_, _, _, rfl, by decide, ww_c1 108 rfl rfl⟩, List.forall_mem_cons.mpr ⟨⟨_, _, _, rfl, by decide, ww_c1 104 rfl rfl⟩, List.forall_mem_cons.mpr ⟨⟨_, _, _, rfl, by decide, ww_c1 105 rfl rfl⟩, List.forall_mem_cons.mpr ⟨⟨_, _, _, rfl, by decide, ww_c1 166 rfl rfl⟩, fun _ h => absurd h List.not_mem_nil⟩⟩⟩⟩⟩⟩⟩⟩⟩⟩⟩⟩
set_option maxRecDepth 100000 in
theorem cp_Fs_3 : ∀ q ∈ ([(5, 21, 5, 1), (5, 30, 5, 2), (5, 37, 5, 3), (5, 44, 5, 4), (5, 48, 5, 5)] : List _), mm_FOk ww_tbl ww_cl ww_nm q := List.forall_mem_cons.mpr ⟨⟨_, _, _, rfl, by decide, ww_c1 167 rfl rfl⟩, List.forall_mem_cons.mpr ⟨⟨_, _, _, rfl, by decide, ww_c1 168 rfl rfl⟩, List.forall_mem_cons.mpr ⟨⟨_, _, _, rfl, by decide, ww_c1 169 rfl rfl⟩, List.forall_mem_cons.mpr ⟨⟨_, _, _, rfl, by decide, ww_c1 170 rfl rfl⟩, List.forall_mem_cons.mpr ⟨⟨_, _, _, rfl, by decide, ww_c1 171 rfl rfl⟩, fun _ h => absurd h List.not_mem_nil⟩⟩⟩⟩⟩
set_option maxRecDepth 100000 in
theorem cp_Fs : ∀ q ∈ (([(0, 9, 0, 2), (0, 15, 0, 3), (0, 18, 0, 4), (0, 21, 0, 5), (0, 24, 0, 6), (0, 27, 0, 7), (0, 31, 0, 8), (0, 36, 0, 9), (0, 39, 0, 10), (0, 42, 0, 0), (0, 46, 0, 1), (1, 9, 1, 1)] : List _) ++ (([(1, 15, 1, 2), (1, 18, 1, 3), (1, 22, 1, 4), (1, 25, 1, 5), (1, 28, 1, 6), (1, 31, 1, 7), (1, 35, 1, 0), (1, 56, 1, 8), (2, 9, 2, 0), (2, 17, 2, 1), (3, 9, 3, 3), (3, 15, 3, 4)] : List _) ++ (([(3, 18, 3, 5), (3, 24, 3, 6), (3, 27, 3, 7), (3, 30, 3, 0), (3, 34, 3, 1), (3, 37, 3, 2), (4, 11, 4, 2), (4, 16, 4, 3), (4, 20, 4, 4), (4, 23, 4, 0), (4, 27, 4, 1), (5, 10, 5, 0)] : List _) ++ (([(5, 21, 5, 1), (5, 30, 5, 2), (5, 37, 5, 3), (5, 44, 5, 4), (5, 48, 5, 5)] : List _))))), mm_FOk ww_tbl ww_cl ww_nm q := List.forall_mem_append.mpr ⟨cp_Fs_0, List.forall_mem_append.mpr ⟨cp_Fs_1, List.forall_mem_append.mpr ⟨cp_Fs_2, cp_Fs_3⟩⟩⟩
set_option maxRecDepth 100000 in
theorem cp_Vs_0 : ∀ q ∈ ([(0, 50, 0, 49), (0, 54, 1, 50), (0, 58, 15, 50), (0, 61, 11, 18), (0, 65, 12, 51), (0, 69, 20, 19), (0, 73, 21, 18), (0, 81, 18, 50), (0, 84, 23, 51), (0, 87, 34, 116), (0, 93, 22, 18), (1, 39, 38, 117)] : List _), mm_VOk ww_tbl ww_cl ww_nm cp_P q := List.forall_mem_cons.mpr ⟨⟨_, _, _, 0, rfl, ww_c2 8 rfl rfl, ww_c1 227 rfl rfl, ww_c1 228 rfl rfl, rfl, by decide +kernel, rfl, rfl⟩, List.forall_mem_cons.mpr ⟨⟨_, _, _, 1, rfl, ww_c2 13 rfl rfl, ww_c2 14 rfl rfl, ww_c2 15 rfl rfl, rfl, by decide +kernel, rfl, rfl⟩, List.forall_mem_cons.mpr ⟨⟨_, _, _, 1, rfl, ww_c2 33 rfl rfl, ww_c2 22 rfl rfl, ww_c2 23 rfl rfl, rfl, by decide +kernel, rfl, rfl⟩, List.forall_mem_cons.mpr ⟨⟨_, _, _, 1, rfl, ww_c2 160 rfl rfl, ww_c2 48 rfl rfl, ww_c2 49 rfl rfl, rfl, by decide +kernel, rfl, rfl⟩, List.forall_mem_cons.mpr ⟨⟨_, _, _, 2, rfl, ww_c2 156 rfl rfl, ww_c2 157 rfl rfl, ww_c2 158 rfl rfl, rfl, by decide +kernel, rfl, rfl⟩, List.forall_mem_cons.mpr ⟨⟨_, _, _, 2, rfl, ww_c2 123 rfl rfl, ww_c2 96 rfl rfl, ww_c2 97 rfl rfl, rfl, by decide +kernel, rfl, rfl⟩, List.forall_mem_cons.mpr ⟨⟨_, _, _, 1, rfl, ww_c2 124 rfl rfl, ww_c2 125 rfl rfl, ww_c2 126 rfl rfl, rfl, by decide +kernel, rfl, rfl⟩, List.forall_mem_cons.mpr ⟨⟨_, _, _, 1, rfl, ww_c2 99 rfl rfl, ww_c2 100 rfl rfl, ww_c2 101 rfl rfl, rfl, by decide +kernel, rfl, rfl⟩, List.forall_mem_cons.mpr ⟨⟨_, _, _, 2, rfl, ww_c2 103 rfl rfl, ww_c2 105 rfl rfl, ww_inS 6 rfl rfl, rfl, by decide +kernel, rfl, rfl⟩, List.forall_mem_cons.mpr ⟨⟨_, _, _, 3, rfl, ww_c2 108 rfl rfl, ww_c2 81 rfl rfl, ww_c2 82 rfl rfl, rfl, by decide +kernel, rfl, rfl⟩, List.forall_mem_cons.mpr ⟨⟨_, _, _, 1, rfl, ww_c2 128 rfl rfl, ww_c2 130 rfl rfl, ww_inS 7 rfl rfl, rfl, by decide +kernel, rfl, rfl⟩, List.forall_mem_cons.mpr ⟨⟨_, _, _, 4, rfl, ww_c1 197 rfl rfl, ww_c1 199 rfl rfl, ww_inS 0 rfl rfl, rfl, by decide +kernel, rfl, rfl⟩, fun _ h => absurd h List.not_mem_nil⟩⟩⟩⟩⟩⟩⟩⟩⟩⟩⟩⟩
set_option maxRecDepth 100000 in
theorem cp_Vs_1 : ∀ q ∈ ([(1, 49, 24, 113), (1, 53, 30, 83), (1, 59, 37, 66), (1, 65, 36, 99), (1, 69, 35, 116), (1, 73, 34, 116), (1, 80, 25, 114), (1, 84, 39, 117), (3, 40, 53, 242), (3, 44, 59, 195), (4, 31, 12, 51), (4, 37, 1, 50)] : List _), mm_VOk ww_tbl ww_cl ww_nm cp_P q := List.forall_mem_cons.mpr ⟨⟨_, _, _, 0, rfl, ww_c1 220 rfl rfl, ww_c1 190 rfl rfl, ww_c1 191 rfl rfl, rfl, by decide +kernel, rfl, rfl⟩, List.forall_mem_cons.mpr ⟨⟨_, _, _, 2, rfl, ww_c1 221 rfl rfl, ww_c1 210 rfl rfl, ww_c1 211 rfl rfl, rfl, by decide +kernel, rfl, rfl⟩, List.forall_mem_cons.mpr ⟨⟨_, _, _, 1, rfl, ww_c2 67 rfl rfl, ww_c2 69 rfl rfl, ww_inS 3 rfl rfl, rfl, by decide +kernel, rfl, rfl⟩, List.forall_mem_cons.mpr ⟨⟨_, _, _, 2, rfl, ww_c2 72 rfl rfl, ww_c2 74 rfl rfl, ww_inS 4 rfl rfl, rfl, by decide +kernel, rfl, rfl⟩, List.forall_mem_cons.mpr ⟨⟨_, _, _, 3, rfl, ww_c2 84 rfl rfl, ww_c2 86 rfl rfl, ww_inS 5 rfl rfl, rfl, by decide +kernel, rfl, rfl⟩, List.forall_mem_cons.mpr ⟨⟨_, _, _, 3, rfl, ww_c2 90 rfl rfl, ww_c2 81 rfl rfl, ww_c2 82 rfl rfl, rfl, by decide +kernel, rfl, rfl⟩, List.forall_mem_cons.mpr ⟨⟨_, _, _, 1, rfl, ww_c1 201 rfl rfl, ww_c1 202 rfl rfl, ww_c1 203 rfl rfl, rfl, by decide +kernel, rfl, rfl⟩, List.forall_mem_cons.mpr ⟨⟨_, _, _, 4, rfl, ww_c1 205 rfl rfl, ww_c1 207 rfl rfl, ww_inS 1 rfl rfl, rfl, by decide +kernel, rfl, rfl⟩, List.forall_mem_cons.mpr ⟨⟨_, _, _, 1, rfl, ww_c3 24 rfl rfl, ww_c3 25 rfl rfl, ww_c3 26 rfl rfl, rfl, by decide +kernel, rfl, rfl⟩, List.forall_mem_cons.mpr ⟨⟨_, _, _, 2, rfl, ww_c3 28 rfl rfl, ww_c3 21 rfl rfl, ww_c3 22 rfl rfl, rfl, by decide +kernel, rfl, rfl⟩, List.forall_mem_cons.mpr ⟨⟨_, _, _, 2, rfl, ww_c3 59 rfl rfl, ww_c2 157 rfl rfl, ww_c2 158 rfl rfl, rfl, by decide +kernel, rfl, rfl⟩, List.forall_mem_cons.mpr ⟨⟨_, _, _, 1, rfl, ww_c2 186 rfl rfl, ww_c2 14 rfl rfl, ww_c2 15 rfl rfl, rfl, by decide +kernel, rfl, rfl⟩, fun _ h => absurd h List.not_mem_nil⟩⟩⟩⟩⟩⟩⟩⟩⟩⟩⟩⟩
set_option maxRecDepth 100000 in
theorem cp_Vs_2 : ∀ q ∈ ([(4, 41, 2, 17), (4, 45, 18, 50), (4, 48, 64, 274), (4, 52, 17, 50), (4, 55, 7, 18), (4, 61, 66, 258), (4, 65, 67, 305), (4, 69, 68, 305), (4, 72, 69, 274), (4, 75, 11, 18), (4, 78, 13, 19), (4, 82, 14, 19)] : List _), mm_VOk ww_tbl ww_cl ww_nm cp_P q := List.forall_mem_cons.mpr ⟨⟨_, _, _, 0, rfl, ww_c2 142 rfl rfl, ww_c2 143 rfl rfl, ww_c2 144 rfl rfl, rfl, by decide +kernel, rfl, rfl⟩, List.forall_mem_cons.mpr ⟨⟨_, _, _, 1, rfl, ww_c2 146 rfl rfl, ww_c2 100 rfl rfl, ww_c2 101 rfl rfl, rfl, by decide +kernel, rfl, rfl⟩, List.forall_mem_cons.mpr ⟨⟨_, _, _, 1, rfl, ww_c2 147 rfl rfl, ww_c2 149 rfl rfl, ww_inS 8 rfl rfl, rfl, by decide +kernel, rfl, rfl⟩, List.forall_mem_cons.mpr ⟨⟨_, _, _, 1, rfl, ww_c2 166 rfl rfl, ww_c2 167 rfl rfl, ww_c2 168 rfl rfl, rfl, by decide +kernel, rfl, rfl⟩, List.forall_mem_cons.mpr ⟨⟨_, _, _, 1, rfl, ww_c2 174 rfl rfl, ww_c2 60 rfl rfl, ww_c2 61 rfl rfl, rfl, by decide +kernel, rfl, rfl⟩, List.forall_mem_cons.mpr ⟨⟨_, _, _, 1, rfl, ww_c2 178 rfl rfl, ww_c2 180 rfl rfl, ww_inS 9 rfl rfl, rfl, by decide +kernel, rfl, rfl⟩, List.forall_mem_cons.mpr ⟨⟨_, _, _, 0, rfl, ww_c2 191 rfl rfl, ww_c2 193 rfl rfl, ww_inS 10 rfl rfl, rfl, by decide +kernel, rfl, rfl⟩, List.forall_mem_cons.mpr ⟨⟨_, _, _, 0, rfl, ww_c2 195 rfl rfl, ww_c2 197 rfl rfl, ww_inS 11 rfl rfl, rfl, by decide +kernel, rfl, rfl⟩, List.forall_mem_cons.mpr ⟨⟨_, _, _, 1, rfl, ww_c2 209 rfl rfl, ww_c2 211 rfl rfl, ww_inS 12 rfl rfl, rfl, by decide +kernel, rfl, rfl⟩, List.forall_mem_cons.mpr ⟨⟨_, _, _, 1, rfl, ww_c2 151 rfl rfl, ww_c2 48 rfl rfl, ww_c2 49 rfl rfl, rfl, by decide +kernel, rfl, rfl⟩, List.forall_mem_cons.mpr ⟨⟨_, _, _, 2, rfl, ww_c2 152 rfl rfl, ww_c2 153 rfl rfl, ww_c2 154 rfl rfl, rfl, by decide +kernel, rfl, rfl⟩, List.forall_mem_cons.mpr ⟨⟨_, _, _, 2, rfl, ww_c2 161 rfl rfl, ww_c2 162 rfl rfl, ww_c2 163 rfl rfl, rfl, by decide +kernel, rfl, rfl⟩, fun _ h => absurd h List.not_mem_nil⟩⟩⟩⟩⟩⟩⟩⟩⟩⟩⟩⟩
set_option maxRecDepth 100000 in
theorem cp_Vs_3 : ∀ q ∈ ([(4, 85, 19, 19), (4, 88, 26, 114), (4, 93, 10, 18), (4, 96, 16, 50), (4, 99, 8, 18), (4, 102, 21, 18), (4, 110, 61, 274), (5, 52, 24, 113), (5, 56, 27, 115), (5, 60, 30, 83), (5, 64, 31, 85), (5, 68, 0, 49)] : List _), mm_VOk ww_tbl ww_cl ww_nm cp_P q := List.forall_mem_cons.mpr ⟨⟨_, _, _, 2, rfl, ww_c2 165 rfl rfl, ww_c2 120 rfl rfl, ww_c2 121 rfl rfl, rfl, by decide +kernel, rfl, rfl⟩, List.forall_mem_cons.mpr ⟨⟨_, _, _, 1, rfl, ww_c2 170 rfl rfl, ww_c2 171 rfl rfl, ww_c2 172 rfl rfl, rfl, by decide +kernel, rfl, rfl⟩, List.forall_mem_cons.mpr ⟨⟨_, _, _, 1, rfl, ww_c2 182 rfl rfl, ww_c2 183 rfl rfl, ww_c2 184 rfl rfl, rfl, by decide +kernel, rfl, rfl⟩, List.forall_mem_cons.mpr ⟨⟨_, _, _, 1, rfl, ww_c2 187 rfl rfl, ww_c2 188 rfl rfl, ww_c2 189 rfl rfl, rfl, by decide +kernel, rfl, rfl⟩, List.forall_mem_cons.mpr ⟨⟨_, _, _, 1, rfl, ww_c2 199 rfl rfl, ww_c2 200 rfl rfl, ww_c2 201 rfl rfl, rfl, by decide +kernel, rfl, rfl⟩, List.forall_mem_cons.mpr ⟨⟨_, _, _, 1, rfl, ww_c2 203 rfl rfl, ww_c2 125 rfl rfl, ww_c2 126 rfl rfl, rfl, by decide +kernel, rfl, rfl⟩, List.forall_mem_cons.mpr ⟨⟨_, _, _, 1, rfl, ww_c2 213 rfl rfl, ww_c2 214 rfl rfl, ww_c2 215 rfl rfl, rfl, by decide +kernel, rfl, rfl⟩, List.forall_mem_cons.mpr ⟨⟨_, _, _, 0, rfl, ww_c1 189 rfl rfl, ww_c1 190 rfl rfl, ww_c1 191 rfl rfl, rfl, by decide +kernel, rfl, rfl⟩, List.forall_mem_cons.mpr ⟨⟨_, _, _, 2, rfl, ww_c1 193 rfl rfl, ww_c1 194 rfl rfl, ww_c1 195 rfl rfl, rfl, by decide +kernel, rfl, rfl⟩, List.forall_mem_cons.mpr ⟨⟨_, _, _, 2, rfl, ww_c1 209 rfl rfl, ww_c1 210 rfl rfl, ww_c1 211 rfl rfl, rfl, by decide +kernel, rfl, rfl⟩, List.forall_mem_cons.mpr ⟨⟨_, _, _, 4, rfl, ww_c1 216 rfl rfl, ww_c1 217 rfl rfl, ww_c1 218 rfl rfl, rfl, by decide +kernel, rfl, rfl⟩, List.forall_mem_cons.mpr ⟨⟨_, _, _, 0, rfl, ww_c1 226 rfl rfl, ww_c1 227 rfl rfl, ww_c1 228 rfl rfl, rfl, by decide +kernel, rfl, rfl⟩, fun _ h => absurd h List.not_mem_nil⟩⟩⟩⟩⟩⟩⟩⟩⟩⟩⟩⟩
set_option maxRecDepth 100000 in
theorem cp_Vs_4 : ∀ q ∈ ([(5, 69, 25, 114), (5, 77, 32, 82), (5, 81, 3, 21), (5, 84, 4, 2), (5, 88, 15, 50), (5, 91, 28, 114), (5, 94, 5, 3), (5, 98, 1, 50), (5, 101, 94, 371), (5, 105, 11, 18), (5, 108, 6, 20), (5, 112, 7, 18)] : List _), mm_VOk ww_tbl ww_cl ww_nm cp_P q := List.forall_mem_cons.mpr ⟨⟨_, _, _, 1, rfl, ww_c1 230 rfl rfl, ww_c1 202 rfl rfl, ww_c1 203 rfl rfl, rfl, by decide +kernel, rfl, rfl⟩, List.forall_mem_cons.mpr ⟨⟨_, _, _, 1, rfl, ww_c2 0 rfl rfl, ww_c2 1 rfl rfl, ww_c2 2 rfl rfl, rfl, by decide +kernel, rfl, rfl⟩, List.forall_mem_cons.mpr ⟨⟨_, _, _, 4, rfl, ww_c2 4 rfl rfl, ww_c2 5 rfl rfl, ww_c2 6 rfl rfl, rfl, by decide +kernel, rfl, rfl⟩, List.forall_mem_cons.mpr ⟨⟨_, _, _, 1, rfl, ww_c2 9 rfl rfl, ww_c2 10 rfl rfl, ww_c2 11 rfl rfl, rfl, by decide +kernel, rfl, rfl⟩, List.forall_mem_cons.mpr ⟨⟨_, _, _, 1, rfl, ww_c2 21 rfl rfl, ww_c2 22 rfl rfl, ww_c2 23 rfl rfl, rfl, by decide +kernel, rfl, rfl⟩, List.forall_mem_cons.mpr ⟨⟨_, _, _, 1, rfl, ww_c2 25 rfl rfl, ww_c2 26 rfl rfl, ww_c2 27 rfl rfl, rfl, by decide +kernel, rfl, rfl⟩, List.forall_mem_cons.mpr ⟨⟨_, _, _, 2, rfl, ww_c2 29 rfl rfl, ww_c2 30 rfl rfl, ww_c2 31 rfl rfl, rfl, by decide +kernel, rfl, rfl⟩, List.forall_mem_cons.mpr ⟨⟨_, _, _, 1, rfl, ww_c2 38 rfl rfl, ww_c2 14 rfl rfl, ww_c2 15 rfl rfl, rfl, by decide +kernel, rfl, rfl⟩, List.forall_mem_cons.mpr ⟨⟨_, _, _, 2, rfl, ww_c2 39 rfl rfl, ww_c2 41 rfl rfl, ww_inS 2 rfl rfl, rfl, by decide +kernel, rfl, rfl⟩, List.forall_mem_cons.mpr ⟨⟨_, _, _, 1, rfl, ww_c2 47 rfl rfl, ww_c2 48 rfl rfl, ww_c2 49 rfl rfl, rfl, by decide +kernel, rfl, rfl⟩, List.forall_mem_cons.mpr ⟨⟨_, _, _, 3, rfl, ww_c2 51 rfl rfl, ww_c2 52 rfl rfl, ww_c2 53 rfl rfl, rfl, by decide +kernel, rfl, rfl⟩, List.forall_mem_cons.mpr ⟨⟨_, _, _, 1, rfl, ww_c2 59 rfl rfl, ww_c2 60 rfl rfl, ww_c2 61 rfl rfl, rfl, by decide +kernel, rfl, rfl⟩, fun _ h => absurd h List.not_mem_nil⟩⟩⟩⟩⟩⟩⟩⟩⟩⟩⟩⟩
set_option maxRecDepth 100000 in
theorem cp_Vs_5 : ∀ q ∈ ([(5, 115, 33, 82), (5, 119, 29, 114), (5, 122, 34, 116), (5, 126, 20, 19), (5, 134, 19, 19), (5, 137, 62, 273), (5, 141, 63, 257), (5, 144, 41, 130), (5, 147, 18, 50), (5, 150, 61, 274), (5, 156, 40, 178), (5, 159, 51, 209)] : List _), mm_VOk ww_tbl ww_cl ww_nm cp_P q := List.forall_mem_cons.mpr ⟨⟨_, _, _, 1, rfl, ww_c2 63 rfl rfl, ww_c2 64 rfl rfl, ww_c2 65 rfl rfl, rfl, by decide +kernel, rfl, rfl⟩, List.forall_mem_cons.mpr ⟨⟨_, _, _, 1, rfl, ww_c2 43 rfl rfl, ww_c2 44 rfl rfl, ww_c2 45 rfl rfl, rfl, by decide +kernel, rfl, rfl⟩, List.forall_mem_cons.mpr ⟨⟨_, _, _, 3, rfl, ww_c2 80 rfl rfl, ww_c2 81 rfl rfl, ww_c2 82 rfl rfl, rfl, by decide +kernel, rfl, rfl⟩, List.forall_mem_cons.mpr ⟨⟨_, _, _, 2, rfl, ww_c2 95 rfl rfl, ww_c2 96 rfl rfl, ww_c2 97 rfl rfl, rfl, by decide +kernel, rfl, rfl⟩, List.forall_mem_cons.mpr ⟨⟨_, _, _, 2, rfl, ww_c2 119 rfl rfl, ww_c2 120 rfl rfl, ww_c2 121 rfl rfl, rfl, by decide +kernel, rfl, rfl⟩, List.forall_mem_cons.mpr ⟨⟨_, _, _, 0, rfl, ww_c2 138 rfl rfl, ww_c2 139 rfl rfl, ww_c2 140 rfl rfl, rfl, by decide +kernel, rfl, rfl⟩, List.forall_mem_cons.mpr ⟨⟨_, _, _, 0, rfl, ww_c2 205 rfl rfl, ww_c2 206 rfl rfl, ww_c2 207 rfl rfl, rfl, by decide +kernel, rfl, rfl⟩, List.forall_mem_cons.mpr ⟨⟨_, _, _, 1, rfl, ww_c2 220 rfl rfl, ww_c2 221 rfl rfl, ww_c2 222 rfl rfl, rfl, by decide +kernel, rfl, rfl⟩, List.forall_mem_cons.mpr ⟨⟨_, _, _, 1, rfl, ww_c2 231 rfl rfl, ww_c2 100 rfl rfl, ww_c2 101 rfl rfl, rfl, by decide +kernel, rfl, rfl⟩, List.forall_mem_cons.mpr ⟨⟨_, _, _, 1, rfl, ww_c2 232 rfl rfl, ww_c2 214 rfl rfl, ww_c2 215 rfl rfl, rfl, by decide +kernel, rfl, rfl⟩, List.forall_mem_cons.mpr ⟨⟨_, _, _, 1, rfl, ww_c3 0 rfl rfl, ww_c3 1 rfl rfl, ww_c3 2 rfl rfl, rfl, by decide +kernel, rfl, rfl⟩, List.forall_mem_cons.mpr ⟨⟨_, _, _, 0, rfl, ww_c3 8 rfl rfl, ww_c3 9 rfl rfl, ww_c3 10 rfl rfl, rfl, by decide +kernel, rfl, rfl⟩, fun _ h => absurd h List.not_mem_nil⟩⟩⟩⟩⟩⟩⟩⟩⟩⟩⟩⟩
set_option maxRecDepth 100000 in
theorem cp_Vs_6 : ∀ q ∈ ([(5, 162, 98, 322), (5, 165, 16, 50), (5, 168, 96, 338), (5, 171, 26, 114), (5, 174, 95, 339), (5, 177, 53, 242), (5, 180, 54, 210), (5, 183, 12, 51), (5, 186, 60, 275), (5, 189, 56, 211), (5, 192, 55, 210), (5, 195, 46, 131)] : List _), mm_VOk ww_tbl ww_cl ww_nm cp_P q := List.forall_mem_cons.mpr ⟨⟨_, _, _, 1, rfl, ww_c3 12 rfl rfl, ww_c3 14 rfl rfl, ww_inS 13 rfl rfl, rfl, by decide +kernel, rfl, rfl⟩, List.forall_mem_cons.mpr ⟨⟨_, _, _, 1, rfl, ww_c3 37 rfl rfl, ww_c2 188 rfl rfl, ww_c2 189 rfl rfl, rfl, by decide +kernel, rfl, rfl⟩, List.forall_mem_cons.mpr ⟨⟨_, _, _, 1, rfl, ww_c3 38 rfl rfl, ww_c3 40 rfl rfl, ww_inS 14 rfl rfl, rfl, by decide +kernel, rfl, rfl⟩, List.forall_mem_cons.mpr ⟨⟨_, _, _, 1, rfl, ww_c3 64 rfl rfl, ww_c2 171 rfl rfl, ww_c2 172 rfl rfl, rfl, by decide +kernel, rfl, rfl⟩, List.forall_mem_cons.mpr ⟨⟨_, _, _, 2, rfl, ww_c3 65 rfl rfl, ww_c3 67 rfl rfl, ww_inS 16 rfl rfl, rfl, by decide +kernel, rfl, rfl⟩, List.forall_mem_cons.mpr ⟨⟨_, _, _, 1, rfl, ww_c3 88 rfl rfl, ww_c3 25 rfl rfl, ww_c3 26 rfl rfl, rfl, by decide +kernel, rfl, rfl⟩, List.forall_mem_cons.mpr ⟨⟨_, _, _, 1, rfl, ww_c3 89 rfl rfl, ww_c3 90 rfl rfl, ww_c3 91 rfl rfl, rfl, by decide +kernel, rfl, rfl⟩, List.forall_mem_cons.mpr ⟨⟨_, _, _, 2, rfl, ww_c3 93 rfl rfl, ww_c2 157 rfl rfl, ww_c2 158 rfl rfl, rfl, by decide +kernel, rfl, rfl⟩, List.forall_mem_cons.mpr ⟨⟨_, _, _, 2, rfl, ww_c3 55 rfl rfl, ww_c3 56 rfl rfl, ww_c3 57 rfl rfl, rfl, by decide +kernel, rfl, rfl⟩, List.forall_mem_cons.mpr ⟨⟨_, _, _, 2, rfl, ww_c3 94 rfl rfl, ww_c3 95 rfl rfl, ww_c3 96 rfl rfl, rfl, by decide +kernel, rfl, rfl⟩, List.forall_mem_cons.mpr ⟨⟨_, _, _, 1, rfl, ww_c3 102 rfl rfl, ww_c3 103 rfl rfl, ww_c3 104 rfl rfl, rfl, by decide +kernel, rfl, rfl⟩, List.forall_mem_cons.mpr ⟨⟨_, _, _, 2, rfl, ww_c3 106 rfl rfl, ww_c3 107 rfl rfl, ww_c3 108 rfl rfl, rfl, by decide +kernel, rfl, rfl⟩, fun _ h => absurd h List.not_mem_nil⟩⟩⟩⟩⟩⟩⟩⟩⟩⟩⟩⟩
set_option maxRecDepth 100000 in
theorem cp_Vs_7 : ∀ q ∈ ([(5, 198, 59, 195), (5, 201, 99, 321), (5, 204, 52, 210), (5, 207, 50, 209), (5, 216, 9, 18), (5, 219, 43, 147), (5, 222, 44, 132), (5, 226, 49, 209), (5, 229, 97, 340), (5, 232, 10, 18), (5, 235, 57, 211), (5, 237, 58, 196)] : List _), mm_VOk ww_tbl ww_cl ww_nm cp_P q := List.forall_mem_cons.mpr ⟨⟨_, _, _, 2, rfl, ww_c3 20 rfl rfl, ww_c3 21 rfl rfl, ww_c3 22 rfl rfl, rfl, by decide +kernel, rfl, rfl⟩, List.forall_mem_cons.mpr ⟨⟨_, _, _, 0, rfl, ww_c3 114 rfl rfl, ww_c3 116 rfl rfl, ww_inS 17 rfl rfl, rfl, by decide +kernel, rfl, rfl⟩, List.forall_mem_cons.mpr ⟨⟨_, _, _, 1, rfl, ww_c3 130 rfl rfl, ww_c3 131 rfl rfl, ww_c3 132 rfl rfl, rfl, by decide +kernel, rfl, rfl⟩, List.forall_mem_cons.mpr ⟨⟨_, _, _, 0, rfl, ww_c3 138 rfl rfl, ww_c3 139 rfl rfl, ww_c3 140 rfl rfl, rfl, by decide +kernel, rfl, rfl⟩, List.forall_mem_cons.mpr ⟨⟨_, _, _, 1, rfl, ww_c3 69 rfl rfl, ww_c3 70 rfl rfl, ww_c3 71 rfl rfl, rfl, by decide +kernel, rfl, rfl⟩, List.forall_mem_cons.mpr ⟨⟨_, _, _, 2, rfl, ww_c3 73 rfl rfl, ww_c3 74 rfl rfl, ww_c3 75 rfl rfl, rfl, by decide +kernel, rfl, rfl⟩, List.forall_mem_cons.mpr ⟨⟨_, _, _, 3, rfl, ww_c3 80 rfl rfl, ww_c3 81 rfl rfl, ww_c3 82 rfl rfl, rfl, by decide +kernel, rfl, rfl⟩, List.forall_mem_cons.mpr ⟨⟨_, _, _, 0, rfl, ww_c3 42 rfl rfl, ww_c3 43 rfl rfl, ww_c3 44 rfl rfl, rfl, by decide +kernel, rfl, rfl⟩, List.forall_mem_cons.mpr ⟨⟨_, _, _, 3, rfl, ww_c3 46 rfl rfl, ww_c3 48 rfl rfl, ww_inS 15 rfl rfl, rfl, by decide +kernel, rfl, rfl⟩, List.forall_mem_cons.mpr ⟨⟨_, _, _, 1, rfl, ww_c3 50 rfl rfl, ww_c2 183 rfl rfl, ww_c2 184 rfl rfl, rfl, by decide +kernel, rfl, rfl⟩, List.forall_mem_cons.mpr ⟨⟨_, _, _, 2, rfl, ww_c3 51 rfl rfl, ww_c3 52 rfl rfl, ww_c3 53 rfl rfl, rfl, by decide +kernel, rfl, rfl⟩, List.forall_mem_cons.mpr ⟨⟨_, _, _, 3, rfl, ww_c3 60 rfl rfl, ww_c3 61 rfl rfl, ww_c3 62 rfl rfl, rfl, by decide +kernel, rfl, rfl⟩, fun _ h => absurd h List.not_mem_nil⟩⟩⟩⟩⟩⟩⟩⟩⟩⟩⟩⟩
set_option maxRecDepth 100000 in
theorem cp_Vs_8 : ∀ q ∈ ([(5, 240, 45, 146), (5, 243, 42, 130)] : List _), mm_VOk ww_tbl ww_cl ww_nm cp_P q := List.forall_mem_cons.mpr ⟨⟨_, _, _, 1, rfl, ww_c3 16 rfl rfl, ww_c3 17 rfl rfl, ww_c3 18 rfl rfl, rfl, by decide +kernel, rfl, rfl⟩, List.forall_mem_cons.mpr ⟨⟨_, _, _, 1, rfl, ww_c3 29 rfl rfl, ww_c3 30 rfl rfl, ww_c3 31 rfl rfl, rfl, by decide +kernel, rfl, rfl⟩, fun _ h => absurd h List.not_mem_nil⟩⟩
set_option maxRecDepth 100000 in
theorem cp_Vs : ∀ q ∈ (([(0, 50, 0, 49), (0, 54, 1, 50), (0, 58, 15, 50), (0, 61, 11, 18), (0, 65, 12, 51), (0, 69, 20, 19), (0, 73, 21, 18), (0, 81, 18, 50), (0, 84, 23, 51), (0, 87, 34, 116), (0, 93, 22, 18), (1, 39, 38, 117)] : List _) ++ (([(1, 49, 24, 113), (1, 53, 30, 83), (1, 59, 37, 66), (1, 65, 36, 99), (1, 69, 35, 116), (1, 73, 34, 116), (1, 80, 25, 114), (1, 84, 39, 117), (3, 40, 53, 242), (3, 44, 59, 195), (4, 31, 12, 51), (4, 37, 1, 50)] : List _) ++ (([(4, 41, 2, 17), (4, 45, 18, 50), (4, 48, 64, 274), (4, 52, 17, 50), (4, 55, 7, 18), (4, 61, 66, 258), (4, 65, 67, 305), (4, 69, 68, 305), (4, 72, 69, 274), (4, 75, 11, 18), (4, 78, 13, 19), (4, 82, 14, 19)] : List _) ++ (([(4, 85, 19, 19), (4, 88, 26, 114), (4, 93, 10, 18), (4, 96, 16, 50), (4, 99, 8, 18), (4, 102, 21, 18), (4, 110, 61, 274), (5, 52, 24, 113), (5, 56, 27, 115), (5, 60, 30, 83), (5, 64, 31, 85), (5, 68, 0, 49)] : List _) ++ (([(5, 69, 25, 114), (5, 77, 32, 82), (5, 81, 3, 21), (5, 84, 4, 2), (5, 88, 15, 50), (5, 91, 28, 114), (5, 94, 5, 3), (5, 98, 1, 50), (5, 101, 94, 371), (5, 105, 11, 18), (5, 108, 6, 20), (5, 112, 7, 18)] : List _) ++ (([(5, 115, 33, 82), (5, 119, 29, 114), (5, 122, 34, 116), (5, 126, 20, 19), (5, 134, 19, 19), (5, 137, 62, 273), (5, 141, 63, 257), (5, 144, 41, 130), (5, 147, 18, 50), (5, 150, 61, 274), (5, 156, 40, 178), (5, 159, 51, 209)] : List _) ++ (([(5, 162, 98, 322), (5, 165, 16, 50), (5, 168, 96, 338), (5, 171, 26, 114), (5, 174, 95, 339), (5, 177, 53, 242), (5, 180, 54, 210), (5, 183, 12, 51), (5, 186, 60, 275), (5, 189, 56, 211), (5, 192, 55, 210), (5, 195, 46, 131)] : List _) ++ (([(5, 198, 59, 195), (5, 201, 99, 321), (5, 204, 52, 210), (5, 207, 50, 209), (5, 216, 9, 18), (5, 219, 43, 147), (5, 222, 44, 132), (5, 226, 49, 209), (5, 229, 97, 340), (5, 232, 10, 18), (5, 235, 57, 211), (5, 237, 58, 196)] : List _) ++ (([(5, 240, 45, 146), (5, 243, 42, 130)] : List _)))))))))), mm_VOk ww_tbl ww_cl ww_nm cp_P q := List.forall_mem_append.mpr ⟨cp_Vs_0, List.forall_mem_append.mpr ⟨cp_Vs_1, List.forall_mem_append.mpr ⟨cp_Vs_2, List.forall_mem_append.mpr ⟨cp_Vs_3, List.forall_mem_append.mpr ⟨cp_Vs_4, List.forall_mem_append.mpr ⟨cp_Vs_5, List.forall_mem_append.mpr ⟨cp_Vs_6, List.forall_mem_append.mpr ⟨cp_Vs_7, cp_Vs_8⟩⟩⟩⟩⟩⟩⟩⟩
set_option maxRecDepth 100000 in
theorem cp_Ts_0 : ∀ q ∈ ([(0, 76, 100, 17), (0, 96, 1000, 18), (0, 101, 91, 18), (1, 43, 1000, 18), (2, 20, 47, 49), (2, 24, 48, 49), (4, 58, 65, 49), (4, 105, 100, 17), (4, 113, 1001, 18), (5, 73, 93, 51), (5, 129, 100, 17), (5, 153, 90, 49)] : List _), mm_TOk ww_tbl ww_nst ww_nm cp_P q := List.forall_mem_cons.mpr ⟨Or.inr (Or.inr ⟨by decide, by decide, _, 1, rfl, Or.inl (ww_c2 133 rfl rfl), ww_c2 110 rfl rfl, by decide +kernel, rfl, rfl⟩), List.forall_mem_cons.mpr ⟨Or.inl ⟨rfl, ww_c2 132 rfl rfl, ww_c1 214 rfl rfl, ww_c1 8 rfl rfl, ww_c1 215 rfl rfl⟩, List.forall_mem_cons.mpr ⟨Or.inr (Or.inr ⟨by decide, by decide, _, 2, rfl, Or.inr ⟨_, List.mem_cons_self⟩, ww_c1 238 rfl rfl, by decide +kernel, rfl, rfl⟩), List.forall_mem_cons.mpr ⟨Or.inl ⟨rfl, ww_c1 213 rfl rfl, ww_c1 214 rfl rfl, ww_c1 8 rfl rfl, ww_c1 215 rfl rfl⟩, List.forall_mem_cons.mpr ⟨Or.inr (Or.inr ⟨by decide, by decide, _, 1, rfl, Or.inl (ww_c2 224 rfl rfl), ww_c2 225 rfl rfl, by decide +kernel, rfl, rfl⟩), List.forall_mem_cons.mpr ⟨Or.inr (Or.inr ⟨by decide, by decide, _, 1, rfl, Or.inl (ww_c3 77 rfl rfl), ww_c3 78 rfl rfl, by decide +kernel, rfl, rfl⟩), List.forall_mem_cons.mpr ⟨Or.inr (Or.inr ⟨by decide, by decide, _, 1, rfl, Or.inl (ww_c2 175 rfl rfl), ww_c2 176 rfl rfl, by decide +kernel, rfl, rfl⟩), List.forall_mem_cons.mpr ⟨Or.inr (Or.inr ⟨by decide, by decide, _, 1, rfl, Or.inl (ww_c2 204 rfl rfl), ww_c2 110 rfl rfl, by decide +kernel, rfl, rfl⟩), List.forall_mem_cons.mpr ⟨Or.inr (Or.inl ⟨rfl, ww_c2 217 rfl rfl, ww_c2 218 rfl rfl, ww_c1 8 rfl rfl, ww_c2 219 rfl rfl⟩), List.forall_mem_cons.mpr ⟨Or.inr (Or.inr ⟨by decide, by decide, _, 3, rfl, Or.inl (ww_c1 231 rfl rfl), ww_c1 232 rfl rfl, by decide +kernel, rfl, rfl⟩), List.forall_mem_cons.mpr ⟨Or.inr (Or.inr ⟨by decide, by decide, _, 1, rfl, Or.inl (ww_c2 109 rfl rfl), ww_c2 110 rfl rfl, by decide +kernel, rfl, rfl⟩), List.forall_mem_cons.mpr ⟨Or.inr (Or.inr ⟨by decide, by decide, _, 1, rfl, Or.inl (ww_c2 237 rfl rfl), ww_c2 238 rfl rfl, by decide +kernel, rfl, rfl⟩), fun _ h => absurd h List.not_mem_nil⟩⟩⟩⟩⟩⟩⟩⟩⟩⟩⟩⟩
set_option maxRecDepth 100000 in
theorem cp_Ts_1 : ∀ q ∈ ([(5, 210, 91, 18), (5, 213, 92, 49)] : List _), mm_TOk ww_tbl ww_nst ww_nm cp_P q := List.forall_mem_cons.mpr ⟨Or.inr (Or.inr ⟨by decide, by decide, _, 2, rfl, Or.inl (ww_c1 237 rfl rfl), ww_c1 238 rfl rfl, by decide +kernel, rfl, rfl⟩), List.forall_mem_cons.mpr ⟨Or.inr (Or.inr ⟨by decide, by decide, _, 1, rfl, Or.inl (ww_c1 234 rfl rfl), ww_c1 235 rfl rfl, by decide +kernel, rfl, rfl⟩), fun _ h => absurd h List.not_mem_nil⟩⟩
set_option maxRecDepth 100000 in
theorem cp_Ts : ∀ q ∈ (([(0, 76, 100, 17), (0, 96, 1000, 18), (0, 101, 91, 18), (1, 43, 1000, 18), (2, 20, 47, 49), (2, 24, 48, 49), (4, 58, 65, 49), (4, 105, 100, 17), (4, 113, 1001, 18), (5, 73, 93, 51), (5, 129, 100, 17), (5, 153, 90, 49)] : List _) ++ (([(5, 210, 91, 18), (5, 213, 92, 49)] : List _))), mm_TOk ww_tbl ww_nst ww_nm cp_P q := List.forall_mem_append.mpr ⟨cp_Ts_0, cp_Ts_1⟩
set_option maxRecDepth 100000 in
theorem cp_Is_0 : ∀ q ∈ ([(7, 265, 1431655765), (7, 266, 858993459), (7, 267, 252645135)] : List _), (fun q : Nat × Nat × Int32 => Jvm.Cond.constant (ww_nm q.1) q.2.1 q.2.2 ∈ ww_tbl) q := List.forall_mem_cons.mpr ⟨ww_c2 112 rfl rfl, List.forall_mem_cons.mpr ⟨ww_c2 113 rfl rfl, List.forall_mem_cons.mpr ⟨ww_c2 114 rfl rfl, fun _ h => absurd h List.not_mem_nil⟩⟩⟩
set_option maxRecDepth 100000 in
theorem cp_Is : ∀ q ∈ (([(7, 265, 1431655765), (7, 266, 858993459), (7, 267, 252645135)] : List _)), (fun q : Nat × Nat × Int32 => Jvm.Cond.constant (ww_nm q.1) q.2.1 q.2.2 ∈ ww_tbl) q := cp_Is_0
set_option maxRecDepth 100000 in
theorem cp_Ls_0 : ∀ q ∈ ([(1, 63, 31), (1, 76, 30), (1, 78, 29)] : List _), (fun q : Nat × Nat × Int64 => Jvm.Cond.constantLong (ww_nm q.1) q.2.1 q.2.2 ∈ ww_tbl) q := List.forall_mem_cons.mpr ⟨ww_c2 71 rfl rfl, List.forall_mem_cons.mpr ⟨ww_c2 88 rfl rfl, List.forall_mem_cons.mpr ⟨ww_c2 89 rfl rfl, fun _ h => absurd h List.not_mem_nil⟩⟩⟩
set_option maxRecDepth 100000 in
theorem cp_Ls : ∀ q ∈ (([(1, 63, 31), (1, 76, 30), (1, 78, 29)] : List _)), (fun q : Nat × Nat × Int64 => Jvm.Cond.constantLong (ww_nm q.1) q.2.1 q.2.2 ∈ ww_tbl) q := cp_Ls_0
set_option maxRecDepth 100000 in
theorem cp_OK : mm_OK ww_tbl ww_nst ww_cl ww_nm sc cp_P cp_K := ⟨ww_good, ww_Cs, sc_ok, cp_Ms, cp_Fs, cp_Vs, cp_Ts, cp_Is, cp_Ls⟩
