set_option maxRecDepth 100000 in
theorem C_154_1 : T_154_1.all (xchk 154) = true := by decide +kernel
set_option maxRecDepth 100000 in
theorem C_155_0 : T_155_0.all (xchk 155) = true := by decide +kernel
set_option maxRecDepth 100000 in
theorem C_155_1 : T_155_1.all (xchk 155) = true := by decide +kernel
set_option maxRecDepth 100000 in
theorem C_156_0 : T_156_0.all (xchk 156) = true := by decide +kernel
set_option maxRecDepth 100000 in
theorem C_156_1 : T_156_1.all (xchk 156) = true := by decide +kernel
set_option maxRecDepth 100000 in
theorem C_157_0 : T_157_0.all (xchk 157) = true := by decide +kernel
set_option maxRecDepth 100000 in
theorem C_157_1 : T_157_1.all (xchk 157) = true := by decide +kernel
set_option maxRecDepth 100000 in
theorem C_157_2 : T_157_2.all (xchk 157) = true := by decide +kernel
set_option maxRecDepth 100000 in
theorem C_158_0 : T_158_0.all (xchk 158) = true := by decide +kernel
set_option maxRecDepth 100000 in
theorem C_159_0 : T_159_0.all (xchk 159) = true := by decide +kernel
set_option maxRecDepth 100000 in
theorem C_160_0 : T_160_0.all (xchk 160) = true := by decide +kernel
set_option maxRecDepth 100000 in
theorem C_160_1 : T_160_1.all (xchk 160) = true := by decide +kernel
set_option maxRecDepth 100000 in
theorem C_160_2 : T_160_2.all (xchk 160) = true := by decide +kernel
set_option maxRecDepth 100000 in
theorem C_161_0 : T_161_0.all (xchk 161) = true := by decide +kernel
set_option maxRecDepth 100000 in
theorem C_161_1 : T_161_1.all (xchk 161) = true := by decide +kernel
set_option maxRecDepth 100000 in
theorem C_161_2 : T_161_2.all (xchk 161) = true := by decide +kernel
set_option maxRecDepth 100000 in
theorem C_161_3 : T_161_3.all (xchk 161) = true := by decide +kernel
set_option maxRecDepth 100000 in
theorem C_162_0 : T_162_0.all (xchk 162) = true := by decide +kernel
set_option maxRecDepth 100000 in
theorem C_162_1 : T_162_1.all (xchk 162) = true := by decide +kernel
set_option maxRecDepth 100000 in
theorem C_163_0 : T_163_0.all (xchk 163) = true := by decide +kernel
set_option maxRecDepth 100000 in
theorem C_163_1 : T_163_1.all (xchk 163) = true := by decide +kernel
set_option maxRecDepth 100000 in
theorem C_163_2 : T_163_2.all (xchk 163) = true := by decide +kernel
set_option maxRecDepth 100000 in
theorem C_163_3 : T_163_3.all (xchk 163) = true := by decide +kernel
set_option maxRecDepth 100000 in
theorem C_163_4 : T_163_4.all (xchk 163) = true := by decide +kernel
set_option maxRecDepth 100000 in
theorem C_163_5 : T_163_5.all (xchk 163) = true := by decide +kernel
set_option maxRecDepth 100000 in
theorem C_163_6 : T_163_6.all (xchk 163) = true := by decide +kernel
set_option maxRecDepth 100000 in
theorem C_164_0 : T_164_0.all (xchk 164) = true := by decide +kernel
set_option maxRecDepth 100000 in
theorem C_165_0 : T_165_0.all (xchk 165) = true := by decide +kernel
set_option maxRecDepth 100000 in
theorem C_166_0 : T_166_0.all (xchk 166) = true := by decide +kernel
set_option maxRecDepth 100000 in
theorem C_167_0 : T_167_0.all (xchk 167) = true := by decide +kernel
set_option maxRecDepth 100000 in
theorem C_168_0 : T_168_0.all (xchk 168) = true := by decide +kernel
set_option maxRecDepth 100000 in
theorem C_168_1 : T_168_1.all (xchk 168) = true := by decide +kernel
set_option maxRecDepth 100000 in
theorem C_169_0 : T_169_0.all (xchk 169) = true := by decide +kernel
set_option maxRecDepth 100000 in
theorem C_169_1 : T_169_1.all (xchk 169) = true := by decide +kernel
set_option maxRecDepth 100000 in
theorem C_169_2 : T_169_2.all (xchk 169) = true := by decide +kernel
set_option maxRecDepth 100000 in
theorem C_169_3 : T_169_3.all (xchk 169) = true := by decide +kernel
set_option maxRecDepth 100000 in
theorem C_170_0 : T_170_0.all (xchk 170) = true := by decide +kernel
set_option maxRecDepth 100000 in
theorem C_171_0 : T_171_0.all (xchk 171) = true := by decide +kernel
set_option maxRecDepth 100000 in
theorem C_172_0 : T_172_0.all (xchk 172) = true := by decide +kernel
set_option maxRecDepth 100000 in
theorem C_172_1 : T_172_1.all (xchk 172) = true := by decide +kernel
set_option maxRecDepth 100000 in
theorem C_172_2 : T_172_2.all (xchk 172) = true := by decide +kernel
set_option maxRecDepth 100000 in
theorem C_173_0 : T_173_0.all (xchk 173) = true := by decide +kernel
set_option maxRecDepth 100000 in
theorem C_173_1 : T_173_1.all (xchk 173) = true := by decide +kernel
set_option maxRecDepth 100000 in
theorem C_173_2 : T_173_2.all (xchk 173) = true := by decide +kernel
set_option maxRecDepth 100000 in
theorem C_173_3 : T_173_3.all (xchk 173) = true := by decide +kernel
set_option maxRecDepth 100000 in
theorem C_173_4 : T_173_4.all (xchk 173) = true := by decide +kernel
set_option maxRecDepth 100000 in
theorem C_174_0 : T_174_0.all (xchk 174) = true := by decide +kernel
set_option maxRecDepth 100000 in
theorem C_175_0 : T_175_0.all (xchk 175) = true := by decide +kernel
set_option maxRecDepth 100000 in
theorem C_176_0 : T_176_0.all (xchk 176) = true := by decide +kernel
set_option maxRecDepth 100000 in
theorem C_176_1 : T_176_1.all (xchk 176) = true := by decide +kernel
set_option maxRecDepth 100000 in
theorem C_176_2 : T_176_2.all (xchk 176) = true := by decide +kernel
set_option maxRecDepth 100000 in
theorem C_176_3 : T_176_3.all (xchk 176) = true := by decide +kernel
set_option maxRecDepth 100000 in
theorem C_177_0 : T_177_0.all (xchk 177) = true := by decide +kernel
set_option maxRecDepth 100000 in
theorem C_178_0 : T_178_0.all (xchk 178) = true := by decide +kernel
set_option maxRecDepth 100000 in
theorem C_178_1 : T_178_1.all (xchk 178) = true := by decide +kernel
set_option maxRecDepth 100000 in
theorem C_179_0 : T_179_0.all (xchk 179) = true := by decide +kernel
set_option maxRecDepth 100000 in
theorem C_179_1 : T_179_1.all (xchk 179) = true := by decide +kernel
set_option maxRecDepth 100000 in
theorem C_180_0 : T_180_0.all (xchk 180) = true := by decide +kernel
set_option maxRecDepth 100000 in
theorem C_181_0 : T_181_0.all (xchk 181) = true := by decide +kernel
set_option maxRecDepth 100000 in
theorem C_182_0 : T_182_0.all (xchk 182) = true := by decide +kernel
set_option maxRecDepth 100000 in
theorem C_183_0 : T_183_0.all (xchk 183) = true := by decide +kernel
set_option maxRecDepth 100000 in
theorem C_184_0 : T_184_0.all (xchk 184) = true := by decide +kernel
set_option maxRecDepth 100000 in
theorem C_185_0 : T_185_0.all (xchk 185) = true := by decide +kernel
set_option maxRecDepth 100000 in
theorem C_186_0 : T_186_0.all (xchk 186) = true := by decide +kernel
set_option maxRecDepth 100000 in
theorem C_187_0 : T_187_0.all (xchk 187) = true := by decide +kernel
set_option maxRecDepth 100000 in
theorem C_188_0 : T_188_0.all (xchk 188) = true := by decide +kernel
set_option maxRecDepth 100000 in
theorem C_189_0 : T_189_0.all (xchk 189) = true := by decide +kernel
set_option maxRecDepth 100000 in
theorem C_190_0 : T_190_0.all (xchk 190) = true := by decide +kernel
set_option maxRecDepth 100000 in
theorem C_191_0 : T_191_0.all (xchk 191) = true := by decide +kernel
set_option maxRecDepth 100000 in
theorem C_192_0 : T_192_0.all (xchk 192) = true := by decide +kernel
set_option maxRecDepth 100000 in
theorem C_193_0 : T_193_0.all (xchk 193) = true := by decide +kernel
set_option maxRecDepth 100000 in
theorem C_194_0 : T_194_0.all (xchk 194) = true := by decide +kernel
set_option maxRecDepth 100000 in
theorem C_194_1 : T_194_1.all (xchk 194) = true := by decide +kernel
set_option maxRecDepth 100000 in
theorem C_194_2 : T_194_2.all (xchk 194) = true := by decide +kernel
set_option maxRecDepth 100000 in
theorem C_194_3 : T_194_3.all (xchk 194) = true := by decide +kernel
