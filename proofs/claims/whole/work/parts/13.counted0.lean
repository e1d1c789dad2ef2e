/-! each printed body is its method's bytecode, by counting -/
set_option maxRecDepth 100000 in
theorem ck_0 : (ab_qm 7 mr_0.2.1 mr_0.2.2.2.1 mr_0.2.2.1 pc_0 bk_0 && ab_moq 0) = true := by decide +kernel
set_option maxRecDepth 100000 in
theorem ck_1 : (ab_qm 8 mr_1.2.1 mr_1.2.2.2.1 mr_1.2.2.1 pc_1 bk_1 && ab_moq 1) = true := by decide +kernel
set_option maxRecDepth 100000 in
theorem ck_2 : (ab_qm 10 mr_2.2.1 mr_2.2.2.2.1 mr_2.2.2.1 pc_2 bk_2 && ab_moq 2) = true := by decide +kernel
set_option maxRecDepth 100000 in
theorem ck_3 : (ab_qm 10 mr_3.2.1 mr_3.2.2.2.1 mr_3.2.2.1 pc_3 bk_3 && ab_moq 3) = true := by decide +kernel
set_option maxRecDepth 100000 in
theorem ck_4 : (ab_qm 10 mr_4.2.1 mr_4.2.2.2.1 mr_4.2.2.1 pc_4 bk_4 && ab_moq 4) = true := by decide +kernel
set_option maxRecDepth 100000 in
theorem ck_5 : (ab_qm 10 mr_5.2.1 mr_5.2.2.2.1 mr_5.2.2.1 pc_5 bk_5 && ab_moq 5) = true := by decide +kernel
set_option maxRecDepth 100000 in
theorem ck_6 : (ab_qm 0 mr_6.2.1 mr_6.2.2.2.1 mr_6.2.2.1 pc_6 bk_6 && ab_moq 6) = true := by decide +kernel
set_option maxRecDepth 100000 in
theorem ck_7 : (ab_qm 0 mr_7.2.1 mr_7.2.2.2.1 mr_7.2.2.1 pc_7 bk_7 && ab_moq 7) = true := by decide +kernel
set_option maxRecDepth 100000 in
theorem ck_8 : (ab_qm 0 mr_8.2.1 mr_8.2.2.2.1 mr_8.2.2.1 pc_8 bk_8 && ab_moq 8) = true := by decide +kernel
set_option maxRecDepth 100000 in
theorem ck_9 : (ab_qm 0 mr_9.2.1 mr_9.2.2.2.1 mr_9.2.2.1 pc_9 bk_9 && ab_moq 9) = true := by decide +kernel
set_option maxRecDepth 100000 in
theorem ck_10 : (ab_qm 0 mr_10.2.1 mr_10.2.2.2.1 mr_10.2.2.1 pc_10 bk_10 && ab_moq 10) = true := by decide +kernel
set_option maxRecDepth 100000 in
theorem ck_11 : (ab_qm 0 mr_11.2.1 mr_11.2.2.2.1 mr_11.2.2.1 pc_11 bk_11 && ab_moq 11) = true := by decide +kernel
set_option maxRecDepth 100000 in
theorem ck_12 : (ab_qm 0 mr_12.2.1 mr_12.2.2.2.1 mr_12.2.2.1 pc_12 bk_12 && ab_moq 12) = true := by decide +kernel
set_option maxRecDepth 100000 in
theorem ck_13 : (ab_qm 0 mr_13.2.1 mr_13.2.2.2.1 mr_13.2.2.1 pc_13 bk_13 && ab_moq 13) = true := by decide +kernel
set_option maxRecDepth 100000 in
theorem ck_14 : (ab_qm 0 mr_14.2.1 mr_14.2.2.2.1 mr_14.2.2.1 pc_14 bk_14 && ab_moq 14) = true := by decide +kernel
set_option maxRecDepth 100000 in
theorem ck_15 : (ab_qm 0 mr_15.2.1 mr_15.2.2.2.1 mr_15.2.2.1 pc_15 bk_15 && ab_moq 15) = true := by decide +kernel
set_option maxRecDepth 100000 in
theorem ck_16 : (ab_qm 0 mr_16.2.1 mr_16.2.2.2.1 mr_16.2.2.1 pc_16 bk_16 && ab_moq 16) = true := by decide +kernel
set_option maxRecDepth 100000 in
theorem ck_17 : (ab_qm 0 mr_17.2.1 mr_17.2.2.2.1 mr_17.2.2.1 pc_17 bk_17 && ab_moq 17) = true := by decide +kernel
set_option maxRecDepth 100000 in
theorem ck_18 : (ab_qm 0 mr_18.2.1 mr_18.2.2.2.1 mr_18.2.2.1 pc_18 bk_18 && ab_moq 18) = true := by decide +kernel
set_option maxRecDepth 100000 in
theorem ck_19 : (ab_qm 0 mr_19.2.1 mr_19.2.2.2.1 mr_19.2.2.1 pc_19 bk_19 && ab_moq 19) = true := by decide +kernel
set_option maxRecDepth 100000 in
theorem ck_20 : (ab_qm 0 mr_20.2.1 mr_20.2.2.2.1 mr_20.2.2.1 pc_20 bk_20 && ab_moq 20) = true := by decide +kernel
set_option maxRecDepth 100000 in
theorem ck_21 : (ab_qm 0 mr_21.2.1 mr_21.2.2.2.1 mr_21.2.2.1 pc_21 bk_21 && ab_moq 21) = true := by decide +kernel
set_option maxRecDepth 100000 in
theorem ck_22 : (ab_qm 0 mr_22.2.1 mr_22.2.2.2.1 mr_22.2.2.1 pc_22 bk_22 && ab_moq 22) = true := by decide +kernel
set_option maxRecDepth 100000 in
theorem ck_23 : (ab_qm 1 mr_23.2.1 mr_23.2.2.2.1 mr_23.2.2.1 pc_23 bk_23 && ab_moq 23) = true := by decide +kernel
set_option maxRecDepth 100000 in
theorem ck_24 : (ab_qm 1 mr_24.2.1 mr_24.2.2.2.1 mr_24.2.2.1 pc_24 bk_24 && ab_moq 24) = true := by decide +kernel
set_option maxRecDepth 100000 in
theorem ck_25 : (ab_qm 1 mr_25.2.1 mr_25.2.2.2.1 mr_25.2.2.1 pc_25 bk_25 && ab_moq 25) = true := by decide +kernel
set_option maxRecDepth 100000 in
theorem ck_26 : (ab_qm 2 mr_26.2.1 mr_26.2.2.2.1 mr_26.2.2.1 pc_26 bk_26 && ab_moq 26) = true := by decide +kernel
set_option maxRecDepth 100000 in
theorem ck_27 : (ab_qm 2 mr_27.2.1 mr_27.2.2.2.1 mr_27.2.2.1 pc_27 bk_27 && ab_moq 27) = true := by decide +kernel
set_option maxRecDepth 100000 in
theorem ck_28 : (ab_qm 2 mr_28.2.1 mr_28.2.2.2.1 mr_28.2.2.1 pc_28 bk_28 && ab_moq 28) = true := by decide +kernel
set_option maxRecDepth 100000 in
theorem ck_29 : (ab_qm 2 mr_29.2.1 mr_29.2.2.2.1 mr_29.2.2.1 pc_29 bk_29 && ab_moq 29) = true := by decide +kernel
set_option maxRecDepth 100000 in
theorem ck_30 : (ab_qm 3 mr_30.2.1 mr_30.2.2.2.1 mr_30.2.2.1 pc_30 bk_30 && ab_moq 30) = true := by decide +kernel
set_option maxRecDepth 100000 in
theorem ck_31 : (ab_qm 4 mr_31.2.1 mr_31.2.2.2.1 mr_31.2.2.1 pc_31 bk_31 && ab_moq 31) = true := by decide +kernel
set_option maxRecDepth 100000 in
theorem ck_32 : (ab_qm 4 mr_32.2.1 mr_32.2.2.2.1 mr_32.2.2.1 pc_32 bk_32 && ab_moq 32) = true := by decide +kernel
set_option maxRecDepth 100000 in
theorem ck_33 : (ab_qm 4 mr_33.2.1 mr_33.2.2.2.1 mr_33.2.2.1 pc_33 bk_33 && ab_moq 33) = true := by decide +kernel
set_option maxRecDepth 100000 in
theorem ck_34 : (ab_qm 4 mr_34.2.1 mr_34.2.2.2.1 mr_34.2.2.1 pc_34 bk_34 && ab_moq 34) = true := by decide +kernel
set_option maxRecDepth 100000 in
theorem ck_35 : (ab_qm 4 mr_35.2.1 mr_35.2.2.2.1 mr_35.2.2.1 pc_35 bk_35 && ab_moq 35) = true := by decide +kernel
set_option maxRecDepth 100000 in
theorem ck_36 : (ab_qm 4 mr_36.2.1 mr_36.2.2.2.1 mr_36.2.2.1 pc_36 bk_36 && ab_moq 36) = true := by decide +kernel
set_option maxRecDepth 100000 in
theorem ck_37 : (ab_qm 4 mr_37.2.1 mr_37.2.2.2.1 mr_37.2.2.1 pc_37 bk_37 && ab_moq 37) = true := by decide +kernel
set_option maxRecDepth 100000 in
theorem ck_38 : (ab_qm 4 mr_38.2.1 mr_38.2.2.2.1 mr_38.2.2.1 pc_38 bk_38 && ab_moq 38) = true := by decide +kernel
set_option maxRecDepth 100000 in
theorem ck_39 : (ab_qm 4 mr_39.2.1 mr_39.2.2.2.1 mr_39.2.2.1 pc_39 bk_39 && ab_moq 39) = true := by decide +kernel
set_option maxRecDepth 100000 in
theorem ck_40 : (ab_qm 4 mr_40.2.1 mr_40.2.2.2.1 mr_40.2.2.1 pc_40 bk_40 && ab_moq 40) = true := by decide +kernel
set_option maxRecDepth 100000 in
theorem ck_41 : (ab_qm 4 mr_41.2.1 mr_41.2.2.2.1 mr_41.2.2.1 pc_41 bk_41 && ab_moq 41) = true := by decide +kernel
set_option maxRecDepth 100000 in
theorem ck_42 : (ab_qm 4 mr_42.2.1 mr_42.2.2.2.1 mr_42.2.2.1 pc_42 bk_42 && ab_moq 42) = true := by decide +kernel
set_option maxRecDepth 100000 in
theorem ck_43 : (ab_qm 4 mr_43.2.1 mr_43.2.2.2.1 mr_43.2.2.1 pc_43 bk_43 && ab_moq 43) = true := by decide +kernel
set_option maxRecDepth 100000 in
theorem ck_44 : (ab_qm 4 mr_44.2.1 mr_44.2.2.2.1 mr_44.2.2.1 pc_44 bk_44 && ab_moq 44) = true := by decide +kernel
set_option maxRecDepth 100000 in
theorem ck_45 : (ab_qm 4 mr_45.2.1 mr_45.2.2.2.1 mr_45.2.2.1 pc_45 bk_45 && ab_moq 45) = true := by decide +kernel
set_option maxRecDepth 100000 in
theorem ck_46 : (ab_qm 4 mr_46.2.1 mr_46.2.2.2.1 mr_46.2.2.1 pc_46 bk_46 && ab_moq 46) = true := by decide +kernel
set_option maxRecDepth 100000 in
theorem ck_47 : (ab_qm 4 mr_47.2.1 mr_47.2.2.2.1 mr_47.2.2.1 pc_47 bk_47 && ab_moq 47) = true := by decide +kernel
set_option maxRecDepth 100000 in
theorem ck_48 : (ab_qm 4 mr_48.2.1 mr_48.2.2.2.1 mr_48.2.2.1 pc_48 bk_48 && ab_moq 48) = true := by decide +kernel
set_option maxRecDepth 100000 in
theorem ck_49 : (ab_qm 4 mr_49.2.1 mr_49.2.2.2.1 mr_49.2.2.1 pc_49 bk_49 && ab_moq 49) = true := by decide +kernel
