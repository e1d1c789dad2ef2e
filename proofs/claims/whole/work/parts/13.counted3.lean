/-! each printed body is its method's bytecode, by counting -/
set_option maxRecDepth 100000 in
theorem ck_150 : (ab_qm 5 mr_150.2.1 mr_150.2.2.2.1 mr_150.2.2.1 pc_150 bk_150 && ab_moq 150) = true := by decide +kernel
set_option maxRecDepth 100000 in
theorem ck_151 : (ab_qm 5 mr_151.2.1 mr_151.2.2.2.1 mr_151.2.2.1 pc_151 bk_151 && ab_moq 151) = true := by decide +kernel
set_option maxRecDepth 100000 in
theorem ck_152 : (ab_qm 5 mr_152.2.1 mr_152.2.2.2.1 mr_152.2.2.1 pc_152 bk_152 && ab_moq 152) = true := by decide +kernel
set_option maxRecDepth 100000 in
theorem ck_153 : (ab_qm 5 mr_153.2.1 mr_153.2.2.2.1 mr_153.2.2.1 pc_153 bk_153 && ab_moq 153) = true := by decide +kernel
set_option maxRecDepth 100000 in
theorem ck_154 : (ab_qm 5 mr_154.2.1 mr_154.2.2.2.1 mr_154.2.2.1 pc_154 bk_154 && ab_moq 154) = true := by decide +kernel
set_option maxRecDepth 100000 in
theorem ck_155 : (ab_qm 5 mr_155.2.1 mr_155.2.2.2.1 mr_155.2.2.1 pc_155 bk_155 && ab_moq 155) = true := by decide +kernel
set_option maxRecDepth 100000 in
theorem ck_156 : (ab_qm 5 mr_156.2.1 mr_156.2.2.2.1 mr_156.2.2.1 pc_156 bk_156 && ab_moq 156) = true := by decide +kernel
set_option maxRecDepth 100000 in
theorem ck_157 : (ab_qm 5 mr_157.2.1 mr_157.2.2.2.1 mr_157.2.2.1 pc_157 bk_157 && ab_moq 157) = true := by decide +kernel
set_option maxRecDepth 100000 in
theorem ck_158 : (ab_qm 5 mr_158.2.1 mr_158.2.2.2.1 mr_158.2.2.1 pc_158 bk_158 && ab_moq 158) = true := by decide +kernel
set_option maxRecDepth 100000 in
theorem ck_159 : (ab_qm 5 mr_159.2.1 mr_159.2.2.2.1 mr_159.2.2.1 pc_159 bk_159 && ab_moq 159) = true := by decide +kernel
set_option maxRecDepth 100000 in
theorem ck_160 : (ab_qm 5 mr_160.2.1 mr_160.2.2.2.1 mr_160.2.2.1 pc_160 bk_160 && ab_moq 160) = true := by decide +kernel
set_option maxRecDepth 100000 in
theorem ck_161 : (ab_qm 5 mr_161.2.1 mr_161.2.2.2.1 mr_161.2.2.1 pc_161 bk_161 && ab_moq 161) = true := by decide +kernel
set_option maxRecDepth 100000 in
theorem ck_162 : (ab_qm 5 mr_162.2.1 mr_162.2.2.2.1 mr_162.2.2.1 pc_162 bk_162 && ab_moq 162) = true := by decide +kernel
set_option maxRecDepth 100000 in
theorem ck_163 : (ab_qm 5 mr_163.2.1 mr_163.2.2.2.1 mr_163.2.2.1 pc_163 bk_163 && ab_moq 163) = true := by decide +kernel
set_option maxRecDepth 100000 in
theorem ck_164 : (ab_qm 5 mr_164.2.1 mr_164.2.2.2.1 mr_164.2.2.1 pc_164 bk_164 && ab_moq 164) = true := by decide +kernel
set_option maxRecDepth 100000 in
theorem ck_165 : (ab_qm 5 mr_165.2.1 mr_165.2.2.2.1 mr_165.2.2.1 pc_165 bk_165 && ab_moq 165) = true := by decide +kernel
set_option maxRecDepth 100000 in
theorem ck_166 : (ab_qm 5 mr_166.2.1 mr_166.2.2.2.1 mr_166.2.2.1 pc_166 bk_166 && ab_moq 166) = true := by decide +kernel
set_option maxRecDepth 100000 in
theorem ck_167 : (ab_qm 5 mr_167.2.1 mr_167.2.2.2.1 mr_167.2.2.1 pc_167 bk_167 && ab_moq 167) = true := by decide +kernel
set_option maxRecDepth 100000 in
theorem ck_168 : (ab_qm 5 mr_168.2.1 mr_168.2.2.2.1 mr_168.2.2.1 pc_168 bk_168 && ab_moq 168) = true := by decide +kernel
set_option maxRecDepth 100000 in
theorem ck_169 : (ab_qm 5 mr_169.2.1 mr_169.2.2.2.1 mr_169.2.2.1 pc_169 bk_169 && ab_moq 169) = true := by decide +kernel
set_option maxRecDepth 100000 in
theorem ck_170 : (ab_qm 5 mr_170.2.1 mr_170.2.2.2.1 mr_170.2.2.1 pc_170 bk_170 && ab_moq 170) = true := by decide +kernel
set_option maxRecDepth 100000 in
theorem ck_171 : (ab_qm 5 mr_171.2.1 mr_171.2.2.2.1 mr_171.2.2.1 pc_171 bk_171 && ab_moq 171) = true := by decide +kernel
set_option maxRecDepth 100000 in
theorem ck_172 : (ab_qm 5 mr_172.2.1 mr_172.2.2.2.1 mr_172.2.2.1 pc_172 bk_172 && ab_moq 172) = true := by decide +kernel
set_option maxRecDepth 100000 in
theorem ck_173 : (ab_qm 5 mr_173.2.1 mr_173.2.2.2.1 mr_173.2.2.1 pc_173 bk_173 && ab_moq 173) = true := by decide +kernel
set_option maxRecDepth 100000 in
theorem ck_174 : (ab_qm 5 mr_174.2.1 mr_174.2.2.2.1 mr_174.2.2.1 pc_174 bk_174 && ab_moq 174) = true := by decide +kernel
set_option maxRecDepth 100000 in
theorem ck_175 : (ab_qm 5 mr_175.2.1 mr_175.2.2.2.1 mr_175.2.2.1 pc_175 bk_175 && ab_moq 175) = true := by decide +kernel
set_option maxRecDepth 100000 in
theorem ck_176 : (ab_qm 5 mr_176.2.1 mr_176.2.2.2.1 mr_176.2.2.1 pc_176 bk_176 && ab_moq 176) = true := by decide +kernel
set_option maxRecDepth 100000 in
theorem ck_177 : (ab_qm 5 mr_177.2.1 mr_177.2.2.2.1 mr_177.2.2.1 pc_177 bk_177 && ab_moq 177) = true := by decide +kernel
set_option maxRecDepth 100000 in
theorem ck_178 : (ab_qm 5 mr_178.2.1 mr_178.2.2.2.1 mr_178.2.2.1 pc_178 bk_178 && ab_moq 178) = true := by decide +kernel
set_option maxRecDepth 100000 in
theorem ck_179 : (ab_qm 5 mr_179.2.1 mr_179.2.2.2.1 mr_179.2.2.1 pc_179 bk_179 && ab_moq 179) = true := by decide +kernel
set_option maxRecDepth 100000 in
theorem ck_180 : (ab_qm 5 mr_180.2.1 mr_180.2.2.2.1 mr_180.2.2.1 pc_180 bk_180 && ab_moq 180) = true := by decide +kernel
set_option maxRecDepth 100000 in
theorem ck_181 : (ab_qm 5 mr_181.2.1 mr_181.2.2.2.1 mr_181.2.2.1 pc_181 bk_181 && ab_moq 181) = true := by decide +kernel
set_option maxRecDepth 100000 in
theorem ck_182 : (ab_qm 5 mr_182.2.1 mr_182.2.2.2.1 mr_182.2.2.1 pc_182 bk_182 && ab_moq 182) = true := by decide +kernel
set_option maxRecDepth 100000 in
theorem ck_183 : (ab_qm 5 mr_183.2.1 mr_183.2.2.2.1 mr_183.2.2.1 pc_183 bk_183 && ab_moq 183) = true := by decide +kernel
set_option maxRecDepth 100000 in
theorem ck_184 : (ab_qm 5 mr_184.2.1 mr_184.2.2.2.1 mr_184.2.2.1 pc_184 bk_184 && ab_moq 184) = true := by decide +kernel
set_option maxRecDepth 100000 in
theorem ck_185 : (ab_qm 5 mr_185.2.1 mr_185.2.2.2.1 mr_185.2.2.1 pc_185 bk_185 && ab_moq 185) = true := by decide +kernel
set_option maxRecDepth 100000 in
theorem ck_186 : (ab_qm 5 mr_186.2.1 mr_186.2.2.2.1 mr_186.2.2.1 pc_186 bk_186 && ab_moq 186) = true := by decide +kernel
set_option maxRecDepth 100000 in
theorem ck_187 : (ab_qm 5 mr_187.2.1 mr_187.2.2.2.1 mr_187.2.2.1 pc_187 bk_187 && ab_moq 187) = true := by decide +kernel
set_option maxRecDepth 100000 in
theorem ck_188 : (ab_qm 5 mr_188.2.1 mr_188.2.2.2.1 mr_188.2.2.1 pc_188 bk_188 && ab_moq 188) = true := by decide +kernel
set_option maxRecDepth 100000 in
theorem ck_189 : (ab_qm 5 mr_189.2.1 mr_189.2.2.2.1 mr_189.2.2.1 pc_189 bk_189 && ab_moq 189) = true := by decide +kernel
set_option maxRecDepth 100000 in
theorem ck_190 : (ab_qm 5 mr_190.2.1 mr_190.2.2.2.1 mr_190.2.2.1 pc_190 bk_190 && ab_moq 190) = true := by decide +kernel
set_option maxRecDepth 100000 in
theorem ck_191 : (ab_qm 5 mr_191.2.1 mr_191.2.2.2.1 mr_191.2.2.1 pc_191 bk_191 && ab_moq 191) = true := by decide +kernel
set_option maxRecDepth 100000 in
theorem ck_192 : (ab_qm 5 mr_192.2.1 mr_192.2.2.2.1 mr_192.2.2.1 pc_192 bk_192 && ab_moq 192) = true := by decide +kernel
set_option maxRecDepth 100000 in
theorem ck_193 : (ab_qm 5 mr_193.2.1 mr_193.2.2.2.1 mr_193.2.2.1 pc_193 bk_193 && ab_moq 193) = true := by decide +kernel
set_option maxRecDepth 100000 in
theorem ck_194 : (ab_qm 5 mr_194.2.1 mr_194.2.2.2.1 mr_194.2.2.1 pc_194 bk_194 && ab_moq 194) = true := by decide +kernel
