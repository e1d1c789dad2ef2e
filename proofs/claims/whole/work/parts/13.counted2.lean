/-! each printed body is its method's bytecode, by counting -/
set_option maxRecDepth 100000 in
theorem ck_100 : (ab_qm 4 mr_100.2.1 mr_100.2.2.2.1 mr_100.2.2.1 pc_100 bk_100 && ab_moq 100) = true := by decide +kernel
set_option maxRecDepth 100000 in
theorem ck_101 : (ab_qm 5 mr_101.2.1 mr_101.2.2.2.1 mr_101.2.2.1 pc_101 bk_101 && ab_moq 101) = true := by decide +kernel
set_option maxRecDepth 100000 in
theorem ck_102 : (ab_qm 5 mr_102.2.1 mr_102.2.2.2.1 mr_102.2.2.1 pc_102 bk_102 && ab_moq 102) = true := by decide +kernel
set_option maxRecDepth 100000 in
theorem ck_103 : (ab_qm 5 mr_103.2.1 mr_103.2.2.2.1 mr_103.2.2.1 pc_103 bk_103 && ab_moq 103) = true := by decide +kernel
set_option maxRecDepth 100000 in
theorem ck_104 : (ab_qm 5 mr_104.2.1 mr_104.2.2.2.1 mr_104.2.2.1 pc_104 bk_104 && ab_moq 104) = true := by decide +kernel
set_option maxRecDepth 100000 in
theorem ck_105 : (ab_qm 5 mr_105.2.1 mr_105.2.2.2.1 mr_105.2.2.1 pc_105 bk_105 && ab_moq 105) = true := by decide +kernel
set_option maxRecDepth 100000 in
theorem ck_106 : (ab_qm 5 mr_106.2.1 mr_106.2.2.2.1 mr_106.2.2.1 pc_106 bk_106 && ab_moq 106) = true := by decide +kernel
set_option maxRecDepth 100000 in
theorem ck_107 : (ab_qm 5 mr_107.2.1 mr_107.2.2.2.1 mr_107.2.2.1 pc_107 bk_107 && ab_moq 107) = true := by decide +kernel
set_option maxRecDepth 100000 in
theorem ck_108 : (ab_qm 5 mr_108.2.1 mr_108.2.2.2.1 mr_108.2.2.1 pc_108 bk_108 && ab_moq 108) = true := by decide +kernel
set_option maxRecDepth 100000 in
theorem ck_109 : (ab_qm 5 mr_109.2.1 mr_109.2.2.2.1 mr_109.2.2.1 pc_109 bk_109 && ab_moq 109) = true := by decide +kernel
set_option maxRecDepth 100000 in
theorem ck_110 : (ab_qm 5 mr_110.2.1 mr_110.2.2.2.1 mr_110.2.2.1 pc_110 bk_110 && ab_moq 110) = true := by decide +kernel
set_option maxRecDepth 100000 in
theorem ck_111 : (ab_qm 5 mr_111.2.1 mr_111.2.2.2.1 mr_111.2.2.1 pc_111 bk_111 && ab_moq 111) = true := by decide +kernel
set_option maxRecDepth 100000 in
theorem ck_112 : (ab_qm 5 mr_112.2.1 mr_112.2.2.2.1 mr_112.2.2.1 pc_112 bk_112 && ab_moq 112) = true := by decide +kernel
set_option maxRecDepth 100000 in
theorem ck_113 : (ab_qm 5 mr_113.2.1 mr_113.2.2.2.1 mr_113.2.2.1 pc_113 bk_113 && ab_moq 113) = true := by decide +kernel
set_option maxRecDepth 100000 in
theorem ck_114 : (ab_qm 5 mr_114.2.1 mr_114.2.2.2.1 mr_114.2.2.1 pc_114 bk_114 && ab_moq 114) = true := by decide +kernel
set_option maxRecDepth 100000 in
theorem ck_115 : (ab_qm 5 mr_115.2.1 mr_115.2.2.2.1 mr_115.2.2.1 pc_115 bk_115 && ab_moq 115) = true := by decide +kernel
set_option maxRecDepth 100000 in
theorem ck_116 : (ab_qm 5 mr_116.2.1 mr_116.2.2.2.1 mr_116.2.2.1 pc_116 bk_116 && ab_moq 116) = true := by decide +kernel
set_option maxRecDepth 100000 in
theorem ck_117 : (ab_qm 5 mr_117.2.1 mr_117.2.2.2.1 mr_117.2.2.1 pc_117 bk_117 && ab_moq 117) = true := by decide +kernel
set_option maxRecDepth 100000 in
theorem ck_118 : (ab_qm 5 mr_118.2.1 mr_118.2.2.2.1 mr_118.2.2.1 pc_118 bk_118 && ab_moq 118) = true := by decide +kernel
set_option maxRecDepth 100000 in
theorem ck_119 : (ab_qm 5 mr_119.2.1 mr_119.2.2.2.1 mr_119.2.2.1 pc_119 bk_119 && ab_moq 119) = true := by decide +kernel
set_option maxRecDepth 100000 in
theorem ck_120 : (ab_qm 5 mr_120.2.1 mr_120.2.2.2.1 mr_120.2.2.1 pc_120 bk_120 && ab_moq 120) = true := by decide +kernel
set_option maxRecDepth 100000 in
theorem ck_121 : (ab_qm 5 mr_121.2.1 mr_121.2.2.2.1 mr_121.2.2.1 pc_121 bk_121 && ab_moq 121) = true := by decide +kernel
set_option maxRecDepth 100000 in
theorem ck_122 : (ab_qm 5 mr_122.2.1 mr_122.2.2.2.1 mr_122.2.2.1 pc_122 bk_122 && ab_moq 122) = true := by decide +kernel
set_option maxRecDepth 100000 in
theorem ck_123 : (ab_qm 5 mr_123.2.1 mr_123.2.2.2.1 mr_123.2.2.1 pc_123 bk_123 && ab_moq 123) = true := by decide +kernel
set_option maxRecDepth 100000 in
theorem ck_124 : (ab_qm 5 mr_124.2.1 mr_124.2.2.2.1 mr_124.2.2.1 pc_124 bk_124 && ab_moq 124) = true := by decide +kernel
set_option maxRecDepth 100000 in
theorem ck_125 : (ab_qm 5 mr_125.2.1 mr_125.2.2.2.1 mr_125.2.2.1 pc_125 bk_125 && ab_moq 125) = true := by decide +kernel
set_option maxRecDepth 100000 in
theorem ck_126 : (ab_qm 5 mr_126.2.1 mr_126.2.2.2.1 mr_126.2.2.1 pc_126 bk_126 && ab_moq 126) = true := by decide +kernel
set_option maxRecDepth 100000 in
theorem ck_127 : (ab_qm 5 mr_127.2.1 mr_127.2.2.2.1 mr_127.2.2.1 pc_127 bk_127 && ab_moq 127) = true := by decide +kernel
set_option maxRecDepth 100000 in
theorem ck_128 : (ab_qm 5 mr_128.2.1 mr_128.2.2.2.1 mr_128.2.2.1 pc_128 bk_128 && ab_moq 128) = true := by decide +kernel
set_option maxRecDepth 100000 in
theorem ck_129 : (ab_qm 5 mr_129.2.1 mr_129.2.2.2.1 mr_129.2.2.1 pc_129 bk_129 && ab_moq 129) = true := by decide +kernel
set_option maxRecDepth 100000 in
theorem ck_130 : (ab_qm 5 mr_130.2.1 mr_130.2.2.2.1 mr_130.2.2.1 pc_130 bk_130 && ab_moq 130) = true := by decide +kernel
set_option maxRecDepth 100000 in
theorem ck_131 : (ab_qm 5 mr_131.2.1 mr_131.2.2.2.1 mr_131.2.2.1 pc_131 bk_131 && ab_moq 131) = true := by decide +kernel
set_option maxRecDepth 100000 in
theorem ck_132 : (ab_qm 5 mr_132.2.1 mr_132.2.2.2.1 mr_132.2.2.1 pc_132 bk_132 && ab_moq 132) = true := by decide +kernel
set_option maxRecDepth 100000 in
theorem ck_133 : (ab_qm 5 mr_133.2.1 mr_133.2.2.2.1 mr_133.2.2.1 pc_133 bk_133 && ab_moq 133) = true := by decide +kernel
set_option maxRecDepth 100000 in
theorem ck_134 : (ab_qm 5 mr_134.2.1 mr_134.2.2.2.1 mr_134.2.2.1 pc_134 bk_134 && ab_moq 134) = true := by decide +kernel
set_option maxRecDepth 100000 in
theorem ck_135 : (ab_qm 5 mr_135.2.1 mr_135.2.2.2.1 mr_135.2.2.1 pc_135 bk_135 && ab_moq 135) = true := by decide +kernel
set_option maxRecDepth 100000 in
theorem ck_136 : (ab_qm 5 mr_136.2.1 mr_136.2.2.2.1 mr_136.2.2.1 pc_136 bk_136 && ab_moq 136) = true := by decide +kernel
set_option maxRecDepth 100000 in
theorem ck_137 : (ab_qm 5 mr_137.2.1 mr_137.2.2.2.1 mr_137.2.2.1 pc_137 bk_137 && ab_moq 137) = true := by decide +kernel
set_option maxRecDepth 100000 in
theorem ck_138 : (ab_qm 5 mr_138.2.1 mr_138.2.2.2.1 mr_138.2.2.1 pc_138 bk_138 && ab_moq 138) = true := by decide +kernel
set_option maxRecDepth 100000 in
theorem ck_139 : (ab_qm 5 mr_139.2.1 mr_139.2.2.2.1 mr_139.2.2.1 pc_139 bk_139 && ab_moq 139) = true := by decide +kernel
set_option maxRecDepth 100000 in
theorem ck_140 : (ab_qm 5 mr_140.2.1 mr_140.2.2.2.1 mr_140.2.2.1 pc_140 bk_140 && ab_moq 140) = true := by decide +kernel
set_option maxRecDepth 100000 in
theorem ck_141 : (ab_qm 5 mr_141.2.1 mr_141.2.2.2.1 mr_141.2.2.1 pc_141 bk_141 && ab_moq 141) = true := by decide +kernel
set_option maxRecDepth 100000 in
theorem ck_142 : (ab_qm 5 mr_142.2.1 mr_142.2.2.2.1 mr_142.2.2.1 pc_142 bk_142 && ab_moq 142) = true := by decide +kernel
set_option maxRecDepth 100000 in
theorem ck_143 : (ab_qm 5 mr_143.2.1 mr_143.2.2.2.1 mr_143.2.2.1 pc_143 bk_143 && ab_moq 143) = true := by decide +kernel
set_option maxRecDepth 100000 in
theorem ck_144 : (ab_qm 5 mr_144.2.1 mr_144.2.2.2.1 mr_144.2.2.1 pc_144 bk_144 && ab_moq 144) = true := by decide +kernel
set_option maxRecDepth 100000 in
theorem ck_145 : (ab_qm 5 mr_145.2.1 mr_145.2.2.2.1 mr_145.2.2.1 pc_145 bk_145 && ab_moq 145) = true := by decide +kernel
set_option maxRecDepth 100000 in
theorem ck_146 : (ab_qm 5 mr_146.2.1 mr_146.2.2.2.1 mr_146.2.2.1 pc_146 bk_146 && ab_moq 146) = true := by decide +kernel
set_option maxRecDepth 100000 in
theorem ck_147 : (ab_qm 5 mr_147.2.1 mr_147.2.2.2.1 mr_147.2.2.1 pc_147 bk_147 && ab_moq 147) = true := by decide +kernel
set_option maxRecDepth 100000 in
theorem ck_148 : (ab_qm 5 mr_148.2.1 mr_148.2.2.2.1 mr_148.2.2.1 pc_148 bk_148 && ab_moq 148) = true := by decide +kernel
set_option maxRecDepth 100000 in
theorem ck_149 : (ab_qm 5 mr_149.2.1 mr_149.2.2.2.1 mr_149.2.2.1 pc_149 bk_149 && ab_moq 149) = true := by decide +kernel
