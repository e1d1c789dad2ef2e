/-! each printed body is its method's bytecode, by counting -/
set_option maxRecDepth 100000 in
theorem ck_50 : (ab_qm 4 mr_50.2.1 mr_50.2.2.2.1 mr_50.2.2.1 pc_50 bk_50 && ab_moq 50) = true := by decide +kernel
set_option maxRecDepth 100000 in
theorem ck_51 : (ab_qm 4 mr_51.2.1 mr_51.2.2.2.1 mr_51.2.2.1 pc_51 bk_51 && ab_moq 51) = true := by decide +kernel
set_option maxRecDepth 100000 in
theorem ck_52 : (ab_qm 4 mr_52.2.1 mr_52.2.2.2.1 mr_52.2.2.1 pc_52 bk_52 && ab_moq 52) = true := by decide +kernel
set_option maxRecDepth 100000 in
theorem ck_53 : (ab_qm 4 mr_53.2.1 mr_53.2.2.2.1 mr_53.2.2.1 pc_53 bk_53 && ab_moq 53) = true := by decide +kernel
set_option maxRecDepth 100000 in
theorem ck_54 : (ab_qm 4 mr_54.2.1 mr_54.2.2.2.1 mr_54.2.2.1 pc_54 bk_54 && ab_moq 54) = true := by decide +kernel
set_option maxRecDepth 100000 in
theorem ck_55 : (ab_qm 4 mr_55.2.1 mr_55.2.2.2.1 mr_55.2.2.1 pc_55 bk_55 && ab_moq 55) = true := by decide +kernel
set_option maxRecDepth 100000 in
theorem ck_56 : (ab_qm 4 mr_56.2.1 mr_56.2.2.2.1 mr_56.2.2.1 pc_56 bk_56 && ab_moq 56) = true := by decide +kernel
set_option maxRecDepth 100000 in
theorem ck_57 : (ab_qm 4 mr_57.2.1 mr_57.2.2.2.1 mr_57.2.2.1 pc_57 bk_57 && ab_moq 57) = true := by decide +kernel
set_option maxRecDepth 100000 in
theorem ck_58 : (ab_qm 4 mr_58.2.1 mr_58.2.2.2.1 mr_58.2.2.1 pc_58 bk_58 && ab_moq 58) = true := by decide +kernel
set_option maxRecDepth 100000 in
theorem ck_59 : (ab_qm 4 mr_59.2.1 mr_59.2.2.2.1 mr_59.2.2.1 pc_59 bk_59 && ab_moq 59) = true := by decide +kernel
set_option maxRecDepth 100000 in
theorem ck_60 : (ab_qm 4 mr_60.2.1 mr_60.2.2.2.1 mr_60.2.2.1 pc_60 bk_60 && ab_moq 60) = true := by decide +kernel
set_option maxRecDepth 100000 in
theorem ck_61 : (ab_qm 4 mr_61.2.1 mr_61.2.2.2.1 mr_61.2.2.1 pc_61 bk_61 && ab_moq 61) = true := by decide +kernel
set_option maxRecDepth 100000 in
theorem ck_62 : (ab_qm 4 mr_62.2.1 mr_62.2.2.2.1 mr_62.2.2.1 pc_62 bk_62 && ab_moq 62) = true := by decide +kernel
set_option maxRecDepth 100000 in
theorem ck_63 : (ab_qm 4 mr_63.2.1 mr_63.2.2.2.1 mr_63.2.2.1 pc_63 bk_63 && ab_moq 63) = true := by decide +kernel
set_option maxRecDepth 100000 in
theorem ck_64 : (ab_qm 4 mr_64.2.1 mr_64.2.2.2.1 mr_64.2.2.1 pc_64 bk_64 && ab_moq 64) = true := by decide +kernel
set_option maxRecDepth 100000 in
theorem ck_65 : (ab_qm 4 mr_65.2.1 mr_65.2.2.2.1 mr_65.2.2.1 pc_65 bk_65 && ab_moq 65) = true := by decide +kernel
set_option maxRecDepth 100000 in
theorem ck_66 : (ab_qm 4 mr_66.2.1 mr_66.2.2.2.1 mr_66.2.2.1 pc_66 bk_66 && ab_moq 66) = true := by decide +kernel
set_option maxRecDepth 100000 in
theorem ck_67 : (ab_qm 4 mr_67.2.1 mr_67.2.2.2.1 mr_67.2.2.1 pc_67 bk_67 && ab_moq 67) = true := by decide +kernel
set_option maxRecDepth 100000 in
theorem ck_68 : (ab_qm 4 mr_68.2.1 mr_68.2.2.2.1 mr_68.2.2.1 pc_68 bk_68 && ab_moq 68) = true := by decide +kernel
set_option maxRecDepth 100000 in
theorem ck_69 : (ab_qm 4 mr_69.2.1 mr_69.2.2.2.1 mr_69.2.2.1 pc_69 bk_69 && ab_moq 69) = true := by decide +kernel
set_option maxRecDepth 100000 in
theorem ck_70 : (ab_qm 4 mr_70.2.1 mr_70.2.2.2.1 mr_70.2.2.1 pc_70 bk_70 && ab_moq 70) = true := by decide +kernel
set_option maxRecDepth 100000 in
theorem ck_71 : (ab_qm 4 mr_71.2.1 mr_71.2.2.2.1 mr_71.2.2.1 pc_71 bk_71 && ab_moq 71) = true := by decide +kernel
set_option maxRecDepth 100000 in
theorem ck_72 : (ab_qm 4 mr_72.2.1 mr_72.2.2.2.1 mr_72.2.2.1 pc_72 bk_72 && ab_moq 72) = true := by decide +kernel
set_option maxRecDepth 100000 in
theorem ck_73 : (ab_qm 4 mr_73.2.1 mr_73.2.2.2.1 mr_73.2.2.1 pc_73 bk_73 && ab_moq 73) = true := by decide +kernel
set_option maxRecDepth 100000 in
theorem ck_74 : (ab_qm 4 mr_74.2.1 mr_74.2.2.2.1 mr_74.2.2.1 pc_74 bk_74 && ab_moq 74) = true := by decide +kernel
set_option maxRecDepth 100000 in
theorem ck_75 : (ab_qm 4 mr_75.2.1 mr_75.2.2.2.1 mr_75.2.2.1 pc_75 bk_75 && ab_moq 75) = true := by decide +kernel
set_option maxRecDepth 100000 in
theorem ck_76 : (ab_qm 4 mr_76.2.1 mr_76.2.2.2.1 mr_76.2.2.1 pc_76 bk_76 && ab_moq 76) = true := by decide +kernel
set_option maxRecDepth 100000 in
theorem ck_77 : (ab_qm 4 mr_77.2.1 mr_77.2.2.2.1 mr_77.2.2.1 pc_77 bk_77 && ab_moq 77) = true := by decide +kernel
set_option maxRecDepth 100000 in
theorem ck_78 : (ab_qm 4 mr_78.2.1 mr_78.2.2.2.1 mr_78.2.2.1 pc_78 bk_78 && ab_moq 78) = true := by decide +kernel
set_option maxRecDepth 100000 in
theorem ck_79 : (ab_qm 4 mr_79.2.1 mr_79.2.2.2.1 mr_79.2.2.1 pc_79 bk_79 && ab_moq 79) = true := by decide +kernel
set_option maxRecDepth 100000 in
theorem ck_80 : (ab_qm 4 mr_80.2.1 mr_80.2.2.2.1 mr_80.2.2.1 pc_80 bk_80 && ab_moq 80) = true := by decide +kernel
set_option maxRecDepth 100000 in
theorem ck_81 : (ab_qm 4 mr_81.2.1 mr_81.2.2.2.1 mr_81.2.2.1 pc_81 bk_81 && ab_moq 81) = true := by decide +kernel
set_option maxRecDepth 100000 in
theorem ck_82 : (ab_qm 4 mr_82.2.1 mr_82.2.2.2.1 mr_82.2.2.1 pc_82 bk_82 && ab_moq 82) = true := by decide +kernel
set_option maxRecDepth 100000 in
theorem ck_83 : (ab_qm 4 mr_83.2.1 mr_83.2.2.2.1 mr_83.2.2.1 pc_83 bk_83 && ab_moq 83) = true := by decide +kernel
set_option maxRecDepth 100000 in
theorem ck_84 : (ab_qm 4 mr_84.2.1 mr_84.2.2.2.1 mr_84.2.2.1 pc_84 bk_84 && ab_moq 84) = true := by decide +kernel
set_option maxRecDepth 100000 in
theorem ck_85 : (ab_qm 4 mr_85.2.1 mr_85.2.2.2.1 mr_85.2.2.1 pc_85 bk_85 && ab_moq 85) = true := by decide +kernel
set_option maxRecDepth 100000 in
theorem ck_86 : (ab_qm 4 mr_86.2.1 mr_86.2.2.2.1 mr_86.2.2.1 pc_86 bk_86 && ab_moq 86) = true := by decide +kernel
set_option maxRecDepth 100000 in
theorem ck_87 : (ab_qm 4 mr_87.2.1 mr_87.2.2.2.1 mr_87.2.2.1 pc_87 bk_87 && ab_moq 87) = true := by decide +kernel
set_option maxRecDepth 100000 in
theorem ck_88 : (ab_qm 4 mr_88.2.1 mr_88.2.2.2.1 mr_88.2.2.1 pc_88 bk_88 && ab_moq 88) = true := by decide +kernel
set_option maxRecDepth 100000 in
theorem ck_89 : (ab_qm 4 mr_89.2.1 mr_89.2.2.2.1 mr_89.2.2.1 pc_89 bk_89 && ab_moq 89) = true := by decide +kernel
set_option maxRecDepth 100000 in
theorem ck_90 : (ab_qm 4 mr_90.2.1 mr_90.2.2.2.1 mr_90.2.2.1 pc_90 bk_90 && ab_moq 90) = true := by decide +kernel
set_option maxRecDepth 100000 in
theorem ck_91 : (ab_qm 4 mr_91.2.1 mr_91.2.2.2.1 mr_91.2.2.1 pc_91 bk_91 && ab_moq 91) = true := by decide +kernel
set_option maxRecDepth 100000 in
theorem ck_92 : (ab_qm 4 mr_92.2.1 mr_92.2.2.2.1 mr_92.2.2.1 pc_92 bk_92 && ab_moq 92) = true := by decide +kernel
set_option maxRecDepth 100000 in
theorem ck_93 : (ab_qm 4 mr_93.2.1 mr_93.2.2.2.1 mr_93.2.2.1 pc_93 bk_93 && ab_moq 93) = true := by decide +kernel
set_option maxRecDepth 100000 in
theorem ck_94 : (ab_qm 4 mr_94.2.1 mr_94.2.2.2.1 mr_94.2.2.1 pc_94 bk_94 && ab_moq 94) = true := by decide +kernel
set_option maxRecDepth 100000 in
theorem ck_95 : (ab_qm 4 mr_95.2.1 mr_95.2.2.2.1 mr_95.2.2.1 pc_95 bk_95 && ab_moq 95) = true := by decide +kernel
set_option maxRecDepth 100000 in
theorem ck_96 : (ab_qm 4 mr_96.2.1 mr_96.2.2.2.1 mr_96.2.2.1 pc_96 bk_96 && ab_moq 96) = true := by decide +kernel
set_option maxRecDepth 100000 in
theorem ck_97 : (ab_qm 4 mr_97.2.1 mr_97.2.2.2.1 mr_97.2.2.1 pc_97 bk_97 && ab_moq 97) = true := by decide +kernel
set_option maxRecDepth 100000 in
theorem ck_98 : (ab_qm 4 mr_98.2.1 mr_98.2.2.2.1 mr_98.2.2.1 pc_98 bk_98 && ab_moq 98) = true := by decide +kernel
set_option maxRecDepth 100000 in
theorem ck_99 : (ab_qm 4 mr_99.2.1 mr_99.2.2.2.1 mr_99.2.2.1 pc_99 bk_99 && ab_moq 99) = true := by decide +kernel
