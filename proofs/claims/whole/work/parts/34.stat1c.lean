set_option maxRecDepth 100000 in
theorem C_120_0 : T_120_0.all (xchk 120) = true := by decide +kernel
set_option maxRecDepth 100000 in
theorem C_120_1 : T_120_1.all (xchk 120) = true := by decide +kernel
set_option maxRecDepth 100000 in
theorem C_120_2 : T_120_2.all (xchk 120) = true := by decide +kernel
set_option maxRecDepth 100000 in
theorem C_120_3 : T_120_3.all (xchk 120) = true := by decide +kernel
set_option maxRecDepth 100000 in
theorem C_120_4 : T_120_4.all (xchk 120) = true := by decide +kernel
set_option maxRecDepth 100000 in
theorem C_120_5 : T_120_5.all (xchk 120) = true := by decide +kernel
set_option maxRecDepth 100000 in
theorem C_121_0 : T_121_0.all (xchk 121) = true := by decide +kernel
set_option maxRecDepth 100000 in
theorem C_122_0 : T_122_0.all (xchk 122) = true := by decide +kernel
set_option maxRecDepth 100000 in
theorem C_123_0 : T_123_0.all (xchk 123) = true := by decide +kernel
set_option maxRecDepth 100000 in
theorem C_124_0 : T_124_0.all (xchk 124) = true := by decide +kernel
set_option maxRecDepth 100000 in
theorem C_125_0 : T_125_0.all (xchk 125) = true := by decide +kernel
set_option maxRecDepth 100000 in
theorem C_126_0 : T_126_0.all (xchk 126) = true := by decide +kernel
set_option maxRecDepth 100000 in
theorem C_127_0 : T_127_0.all (xchk 127) = true := by decide +kernel
set_option maxRecDepth 100000 in
theorem C_128_0 : T_128_0.all (xchk 128) = true := by decide +kernel
set_option maxRecDepth 100000 in
theorem C_129_0 : T_129_0.all (xchk 129) = true := by decide +kernel
set_option maxRecDepth 100000 in
theorem C_129_1 : T_129_1.all (xchk 129) = true := by decide +kernel
set_option maxRecDepth 100000 in
theorem C_130_0 : T_130_0.all (xchk 130) = true := by decide +kernel
set_option maxRecDepth 100000 in
theorem C_131_0 : T_131_0.all (xchk 131) = true := by decide +kernel
set_option maxRecDepth 100000 in
theorem C_132_0 : T_132_0.all (xchk 132) = true := by decide +kernel
set_option maxRecDepth 100000 in
theorem C_133_0 : T_133_0.all (xchk 133) = true := by decide +kernel
set_option maxRecDepth 100000 in
theorem C_133_1 : T_133_1.all (xchk 133) = true := by decide +kernel
set_option maxRecDepth 100000 in
theorem C_133_2 : T_133_2.all (xchk 133) = true := by decide +kernel
set_option maxRecDepth 100000 in
theorem C_133_3 : T_133_3.all (xchk 133) = true := by decide +kernel
set_option maxRecDepth 100000 in
theorem C_133_4 : T_133_4.all (xchk 133) = true := by decide +kernel
set_option maxRecDepth 100000 in
theorem C_133_5 : T_133_5.all (xchk 133) = true := by decide +kernel
set_option maxRecDepth 100000 in
theorem C_133_6 : T_133_6.all (xchk 133) = true := by decide +kernel
set_option maxRecDepth 100000 in
theorem C_134_0 : T_134_0.all (xchk 134) = true := by decide +kernel
set_option maxRecDepth 100000 in
theorem C_135_0 : T_135_0.all (xchk 135) = true := by decide +kernel
set_option maxRecDepth 100000 in
theorem C_135_1 : T_135_1.all (xchk 135) = true := by decide +kernel
set_option maxRecDepth 100000 in
theorem C_136_0 : T_136_0.all (xchk 136) = true := by decide +kernel
set_option maxRecDepth 100000 in
theorem C_136_1 : T_136_1.all (xchk 136) = true := by decide +kernel
set_option maxRecDepth 100000 in
theorem C_136_2 : T_136_2.all (xchk 136) = true := by decide +kernel
set_option maxRecDepth 100000 in
theorem C_136_3 : T_136_3.all (xchk 136) = true := by decide +kernel
set_option maxRecDepth 100000 in
theorem C_137_0 : T_137_0.all (xchk 137) = true := by decide +kernel
set_option maxRecDepth 100000 in
theorem C_138_0 : T_138_0.all (xchk 138) = true := by decide +kernel
set_option maxRecDepth 100000 in
theorem C_138_1 : T_138_1.all (xchk 138) = true := by decide +kernel
set_option maxRecDepth 100000 in
theorem C_138_2 : T_138_2.all (xchk 138) = true := by decide +kernel
set_option maxRecDepth 100000 in
theorem C_139_0 : T_139_0.all (xchk 139) = true := by decide +kernel
set_option maxRecDepth 100000 in
theorem C_139_1 : T_139_1.all (xchk 139) = true := by decide +kernel
set_option maxRecDepth 100000 in
theorem C_140_0 : T_140_0.all (xchk 140) = true := by decide +kernel
set_option maxRecDepth 100000 in
theorem C_140_1 : T_140_1.all (xchk 140) = true := by decide +kernel
set_option maxRecDepth 100000 in
theorem C_141_0 : T_141_0.all (xchk 141) = true := by decide +kernel
set_option maxRecDepth 100000 in
theorem C_141_1 : T_141_1.all (xchk 141) = true := by decide +kernel
set_option maxRecDepth 100000 in
theorem C_142_0 : T_142_0.all (xchk 142) = true := by decide +kernel
set_option maxRecDepth 100000 in
theorem C_142_1 : T_142_1.all (xchk 142) = true := by decide +kernel
set_option maxRecDepth 100000 in
theorem C_142_2 : T_142_2.all (xchk 142) = true := by decide +kernel
set_option maxRecDepth 100000 in
theorem C_143_0 : T_143_0.all (xchk 143) = true := by decide +kernel
set_option maxRecDepth 100000 in
theorem C_143_1 : T_143_1.all (xchk 143) = true := by decide +kernel
set_option maxRecDepth 100000 in
theorem C_143_2 : T_143_2.all (xchk 143) = true := by decide +kernel
set_option maxRecDepth 100000 in
theorem C_144_0 : T_144_0.all (xchk 144) = true := by decide +kernel
set_option maxRecDepth 100000 in
theorem C_144_1 : T_144_1.all (xchk 144) = true := by decide +kernel
set_option maxRecDepth 100000 in
theorem C_145_0 : T_145_0.all (xchk 145) = true := by decide +kernel
set_option maxRecDepth 100000 in
theorem C_145_1 : T_145_1.all (xchk 145) = true := by decide +kernel
set_option maxRecDepth 100000 in
theorem C_146_0 : T_146_0.all (xchk 146) = true := by decide +kernel
set_option maxRecDepth 100000 in
theorem C_146_1 : T_146_1.all (xchk 146) = true := by decide +kernel
set_option maxRecDepth 100000 in
theorem C_147_0 : T_147_0.all (xchk 147) = true := by decide +kernel
set_option maxRecDepth 100000 in
theorem C_147_1 : T_147_1.all (xchk 147) = true := by decide +kernel
set_option maxRecDepth 100000 in
theorem C_148_0 : T_148_0.all (xchk 148) = true := by decide +kernel
set_option maxRecDepth 100000 in
theorem C_148_1 : T_148_1.all (xchk 148) = true := by decide +kernel
set_option maxRecDepth 100000 in
theorem C_148_2 : T_148_2.all (xchk 148) = true := by decide +kernel
set_option maxRecDepth 100000 in
theorem C_148_3 : T_148_3.all (xchk 148) = true := by decide +kernel
set_option maxRecDepth 100000 in
theorem C_148_4 : T_148_4.all (xchk 148) = true := by decide +kernel
set_option maxRecDepth 100000 in
theorem C_149_0 : T_149_0.all (xchk 149) = true := by decide +kernel
set_option maxRecDepth 100000 in
theorem C_149_1 : T_149_1.all (xchk 149) = true := by decide +kernel
set_option maxRecDepth 100000 in
theorem C_149_2 : T_149_2.all (xchk 149) = true := by decide +kernel
set_option maxRecDepth 100000 in
theorem C_150_0 : T_150_0.all (xchk 150) = true := by decide +kernel
set_option maxRecDepth 100000 in
theorem C_151_0 : T_151_0.all (xchk 151) = true := by decide +kernel
set_option maxRecDepth 100000 in
theorem C_151_1 : T_151_1.all (xchk 151) = true := by decide +kernel
set_option maxRecDepth 100000 in
theorem C_151_2 : T_151_2.all (xchk 151) = true := by decide +kernel
set_option maxRecDepth 100000 in
theorem C_152_0 : T_152_0.all (xchk 152) = true := by decide +kernel
set_option maxRecDepth 100000 in
theorem C_152_1 : T_152_1.all (xchk 152) = true := by decide +kernel
set_option maxRecDepth 100000 in
theorem C_153_0 : T_153_0.all (xchk 153) = true := by decide +kernel
set_option maxRecDepth 100000 in
theorem C_153_1 : T_153_1.all (xchk 153) = true := by decide +kernel
set_option maxRecDepth 100000 in
theorem C_153_2 : T_153_2.all (xchk 153) = true := by decide +kernel
set_option maxRecDepth 100000 in
theorem C_154_0 : T_154_0.all (xchk 154) = true := by decide +kernel
