/-! throw sites: all of them, and their row -/
def xsites : List (Nat × Nat × Nat) := [(99, 13, 50), (100, 13, 50), (101, 10, 50), (102, 126, 50), (104, 9, 50), (104, 37, 51), (105, 10, 50), (106, 10, 51), (107, 4, 51), (108, 10, 51), (110, 12, 51), (111, 11, 51), (115, 10, 51), (118, 13, 50), (119, 9, 50)]
def xsite (mi : Nat) (q : Nat × Instr × Nat) : Bool := match q.2.1 with
  | .new x => (match xcd (xow mi) x with
    | some 50 => decide ((mi, q.1, 50) ∈ xsites)
    | some 51 => decide ((mi, q.1, 51) ∈ xsites)
    | _ => true)
  | _ => true
theorem xleafS {i k : Nat} {A : List (Nat × Instr × Nat)} (h : A.all (xsite k) = true) : ∀ q ∈ (bif Nat.beq i k then A else []), xsite i q = true := by
  cases hb : Nat.beq i k with
  | true =>
    have := Nat.eq_of_beq_eq_true hb
    subst this
    exact List.all_eq_true.mp h
  | false => exact fun _ h => absurd h List.not_mem_nil
theorem xleafM {i k : Nat} {A : List (Nat × Instr × Nat)} (h : ∀ q ∈ A, xsite k q = true) : ∀ q ∈ (bif Nat.beq i k then A else []), xsite i q = true := by
  cases hb : Nat.beq i k with
  | true =>
    have := Nat.eq_of_beq_eq_true hb
    subst this
    exact h
  | false => exact fun _ h => absurd h List.not_mem_nil
theorem S_0_0 : T_0_0.all (xsite 0) = true := by decide +kernel
theorem S_1_0 : T_1_0.all (xsite 1) = true := by decide +kernel
theorem S_2_0 : T_2_0.all (xsite 2) = true := by decide +kernel
theorem S_3_0 : T_3_0.all (xsite 3) = true := by decide +kernel
theorem S_4_0 : T_4_0.all (xsite 4) = true := by decide +kernel
theorem S_4_1 : T_4_1.all (xsite 4) = true := by decide +kernel
theorem S_4_2 : T_4_2.all (xsite 4) = true := by decide +kernel
theorem S_5_0 : T_5_0.all (xsite 5) = true := by decide +kernel
theorem S_6_0 : T_6_0.all (xsite 6) = true := by decide +kernel
theorem S_7_0 : T_7_0.all (xsite 7) = true := by decide +kernel
theorem S_8_0 : T_8_0.all (xsite 8) = true := by decide +kernel
theorem S_8_1 : T_8_1.all (xsite 8) = true := by decide +kernel
theorem S_9_0 : T_9_0.all (xsite 9) = true := by decide +kernel
theorem S_10_0 : T_10_0.all (xsite 10) = true := by decide +kernel
theorem S_11_0 : T_11_0.all (xsite 11) = true := by decide +kernel
theorem S_12_0 : T_12_0.all (xsite 12) = true := by decide +kernel
theorem S_13_0 : T_13_0.all (xsite 13) = true := by decide +kernel
theorem S_14_0 : T_14_0.all (xsite 14) = true := by decide +kernel
theorem S_15_0 : T_15_0.all (xsite 15) = true := by decide +kernel
theorem S_16_0 : T_16_0.all (xsite 16) = true := by decide +kernel
theorem S_17_0 : T_17_0.all (xsite 17) = true := by decide +kernel
theorem S_18_0 : T_18_0.all (xsite 18) = true := by decide +kernel
theorem S_19_0 : T_19_0.all (xsite 19) = true := by decide +kernel
theorem S_20_0 : T_20_0.all (xsite 20) = true := by decide +kernel
theorem S_21_0 : T_21_0.all (xsite 21) = true := by decide +kernel
theorem S_22_0 : T_22_0.all (xsite 22) = true := by decide +kernel
theorem S_23_0 : T_23_0.all (xsite 23) = true := by decide +kernel
theorem S_23_1 : T_23_1.all (xsite 23) = true := by decide +kernel
theorem S_24_0 : T_24_0.all (xsite 24) = true := by decide +kernel
theorem S_25_0 : T_25_0.all (xsite 25) = true := by decide +kernel
theorem S_26_0 : T_26_0.all (xsite 26) = true := by decide +kernel
theorem S_27_0 : T_27_0.all (xsite 27) = true := by decide +kernel
theorem S_28_0 : T_28_0.all (xsite 28) = true := by decide +kernel
theorem S_28_1 : T_28_1.all (xsite 28) = true := by decide +kernel
theorem S_29_0 : T_29_0.all (xsite 29) = true := by decide +kernel
theorem S_30_0 : T_30_0.all (xsite 30) = true := by decide +kernel
theorem S_31_0 : T_31_0.all (xsite 31) = true := by decide +kernel
theorem S_32_0 : T_32_0.all (xsite 32) = true := by decide +kernel
theorem S_32_1 : T_32_1.all (xsite 32) = true := by decide +kernel
theorem S_33_0 : T_33_0.all (xsite 33) = true := by decide +kernel
theorem S_34_0 : T_34_0.all (xsite 34) = true := by decide +kernel
theorem S_35_0 : T_35_0.all (xsite 35) = true := by decide +kernel
theorem S_36_0 : T_36_0.all (xsite 36) = true := by decide +kernel
theorem S_37_0 : T_37_0.all (xsite 37) = true := by decide +kernel
theorem S_38_0 : T_38_0.all (xsite 38) = true := by decide +kernel
theorem S_39_0 : T_39_0.all (xsite 39) = true := by decide +kernel
theorem S_40_0 : T_40_0.all (xsite 40) = true := by decide +kernel
theorem S_40_1 : T_40_1.all (xsite 40) = true := by decide +kernel
theorem S_41_0 : T_41_0.all (xsite 41) = true := by decide +kernel
theorem S_42_0 : T_42_0.all (xsite 42) = true := by decide +kernel
theorem S_43_0 : T_43_0.all (xsite 43) = true := by decide +kernel
theorem S_44_0 : T_44_0.all (xsite 44) = true := by decide +kernel
theorem S_45_0 : T_45_0.all (xsite 45) = true := by decide +kernel
theorem S_45_1 : T_45_1.all (xsite 45) = true := by decide +kernel
theorem S_46_0 : T_46_0.all (xsite 46) = true := by decide +kernel
theorem S_47_0 : T_47_0.all (xsite 47) = true := by decide +kernel
theorem S_48_0 : T_48_0.all (xsite 48) = true := by decide +kernel
theorem S_48_1 : T_48_1.all (xsite 48) = true := by decide +kernel
theorem S_49_0 : T_49_0.all (xsite 49) = true := by decide +kernel
theorem S_49_1 : T_49_1.all (xsite 49) = true := by decide +kernel
theorem S_49_2 : T_49_2.all (xsite 49) = true := by decide +kernel
theorem S_50_0 : T_50_0.all (xsite 50) = true := by decide +kernel
theorem S_51_0 : T_51_0.all (xsite 51) = true := by decide +kernel
theorem S_51_1 : T_51_1.all (xsite 51) = true := by decide +kernel
theorem S_52_0 : T_52_0.all (xsite 52) = true := by decide +kernel
theorem S_53_0 : T_53_0.all (xsite 53) = true := by decide +kernel
theorem S_54_0 : T_54_0.all (xsite 54) = true := by decide +kernel
theorem S_55_0 : T_55_0.all (xsite 55) = true := by decide +kernel
theorem S_55_1 : T_55_1.all (xsite 55) = true := by decide +kernel
theorem S_56_0 : T_56_0.all (xsite 56) = true := by decide +kernel
theorem S_57_0 : T_57_0.all (xsite 57) = true := by decide +kernel
theorem S_58_0 : T_58_0.all (xsite 58) = true := by decide +kernel
theorem S_58_1 : T_58_1.all (xsite 58) = true := by decide +kernel
theorem S_59_0 : T_59_0.all (xsite 59) = true := by decide +kernel
theorem S_60_0 : T_60_0.all (xsite 60) = true := by decide +kernel
theorem S_61_0 : T_61_0.all (xsite 61) = true := by decide +kernel
theorem S_62_0 : T_62_0.all (xsite 62) = true := by decide +kernel
theorem S_63_0 : T_63_0.all (xsite 63) = true := by decide +kernel
theorem S_64_0 : T_64_0.all (xsite 64) = true := by decide +kernel
theorem S_65_0 : T_65_0.all (xsite 65) = true := by decide +kernel
theorem S_66_0 : T_66_0.all (xsite 66) = true := by decide +kernel
theorem S_67_0 : T_67_0.all (xsite 67) = true := by decide +kernel
theorem S_68_0 : T_68_0.all (xsite 68) = true := by decide +kernel
theorem S_69_0 : T_69_0.all (xsite 69) = true := by decide +kernel
theorem S_70_0 : T_70_0.all (xsite 70) = true := by decide +kernel
theorem S_71_0 : T_71_0.all (xsite 71) = true := by decide +kernel
theorem S_72_0 : T_72_0.all (xsite 72) = true := by decide +kernel
theorem S_73_0 : T_73_0.all (xsite 73) = true := by decide +kernel
theorem S_74_0 : T_74_0.all (xsite 74) = true := by decide +kernel
theorem S_75_0 : T_75_0.all (xsite 75) = true := by decide +kernel
theorem S_76_0 : T_76_0.all (xsite 76) = true := by decide +kernel
theorem S_77_0 : T_77_0.all (xsite 77) = true := by decide +kernel
theorem S_78_0 : T_78_0.all (xsite 78) = true := by decide +kernel
theorem S_78_1 : T_78_1.all (xsite 78) = true := by decide +kernel
theorem S_79_0 : T_79_0.all (xsite 79) = true := by decide +kernel
theorem S_80_0 : T_80_0.all (xsite 80) = true := by decide +kernel
theorem S_81_0 : T_81_0.all (xsite 81) = true := by decide +kernel
theorem S_82_0 : T_82_0.all (xsite 82) = true := by decide +kernel
theorem S_83_0 : T_83_0.all (xsite 83) = true := by decide +kernel
theorem S_84_0 : T_84_0.all (xsite 84) = true := by decide +kernel
theorem S_84_1 : T_84_1.all (xsite 84) = true := by decide +kernel
theorem S_85_0 : T_85_0.all (xsite 85) = true := by decide +kernel
theorem S_86_0 : T_86_0.all (xsite 86) = true := by decide +kernel
theorem S_86_1 : T_86_1.all (xsite 86) = true := by decide +kernel
theorem S_87_0 : T_87_0.all (xsite 87) = true := by decide +kernel
theorem S_88_0 : T_88_0.all (xsite 88) = true := by decide +kernel
theorem S_88_1 : T_88_1.all (xsite 88) = true := by decide +kernel
theorem S_89_0 : T_89_0.all (xsite 89) = true := by decide +kernel
theorem S_89_1 : T_89_1.all (xsite 89) = true := by decide +kernel
theorem S_90_0 : T_90_0.all (xsite 90) = true := by decide +kernel
theorem S_91_0 : T_91_0.all (xsite 91) = true := by decide +kernel
theorem S_92_0 : T_92_0.all (xsite 92) = true := by decide +kernel
theorem S_92_1 : T_92_1.all (xsite 92) = true := by decide +kernel
theorem S_93_0 : T_93_0.all (xsite 93) = true := by decide +kernel
theorem S_94_0 : T_94_0.all (xsite 94) = true := by decide +kernel
theorem S_94_1 : T_94_1.all (xsite 94) = true := by decide +kernel
theorem S_95_0 : T_95_0.all (xsite 95) = true := by decide +kernel
theorem S_95_1 : T_95_1.all (xsite 95) = true := by decide +kernel
theorem S_95_2 : T_95_2.all (xsite 95) = true := by decide +kernel
theorem S_96_0 : T_96_0.all (xsite 96) = true := by decide +kernel
theorem S_97_0 : T_97_0.all (xsite 97) = true := by decide +kernel
theorem S_98_0 : T_98_0.all (xsite 98) = true := by decide +kernel
theorem S_98_1 : T_98_1.all (xsite 98) = true := by decide +kernel
theorem S_99_0 : T_99_0.all (xsite 99) = true := by decide +kernel
theorem S_100_0 : T_100_0.all (xsite 100) = true := by decide +kernel
theorem S_101_0 : T_101_0.all (xsite 101) = true := by decide +kernel
theorem S_102_0 : T_102_0.all (xsite 102) = true := by decide +kernel
theorem S_102_1 : T_102_1.all (xsite 102) = true := by decide +kernel
theorem S_103_0 : T_103_0.all (xsite 103) = true := by decide +kernel
theorem S_104_0 : T_104_0.all (xsite 104) = true := by decide +kernel
theorem S_104_1 : T_104_1.all (xsite 104) = true := by decide +kernel
theorem S_105_0 : T_105_0.all (xsite 105) = true := by decide +kernel
theorem S_106_0 : T_106_0.all (xsite 106) = true := by decide +kernel
theorem S_106_1 : T_106_1.all (xsite 106) = true := by decide +kernel
theorem S_107_0 : T_107_0.all (xsite 107) = true := by decide +kernel
theorem S_108_0 : T_108_0.all (xsite 108) = true := by decide +kernel
theorem S_108_1 : T_108_1.all (xsite 108) = true := by decide +kernel
theorem S_109_0 : T_109_0.all (xsite 109) = true := by decide +kernel
theorem S_109_1 : T_109_1.all (xsite 109) = true := by decide +kernel
theorem S_110_0 : T_110_0.all (xsite 110) = true := by decide +kernel
theorem S_111_0 : T_111_0.all (xsite 111) = true := by decide +kernel
theorem S_112_0 : T_112_0.all (xsite 112) = true := by decide +kernel
theorem S_113_0 : T_113_0.all (xsite 113) = true := by decide +kernel
theorem S_114_0 : T_114_0.all (xsite 114) = true := by decide +kernel
theorem S_115_0 : T_115_0.all (xsite 115) = true := by decide +kernel
theorem S_115_1 : T_115_1.all (xsite 115) = true := by decide +kernel
theorem S_116_0 : T_116_0.all (xsite 116) = true := by decide +kernel
theorem S_117_0 : T_117_0.all (xsite 117) = true := by decide +kernel
theorem S_118_0 : T_118_0.all (xsite 118) = true := by decide +kernel
theorem S_119_0 : T_119_0.all (xsite 119) = true := by decide +kernel
theorem S_120_0 : T_120_0.all (xsite 120) = true := by decide +kernel
theorem S_120_1 : T_120_1.all (xsite 120) = true := by decide +kernel
theorem S_120_2 : T_120_2.all (xsite 120) = true := by decide +kernel
theorem S_120_3 : T_120_3.all (xsite 120) = true := by decide +kernel
theorem S_120_4 : T_120_4.all (xsite 120) = true := by decide +kernel
theorem S_120_5 : T_120_5.all (xsite 120) = true := by decide +kernel
theorem S_121_0 : T_121_0.all (xsite 121) = true := by decide +kernel
theorem S_122_0 : T_122_0.all (xsite 122) = true := by decide +kernel
theorem S_123_0 : T_123_0.all (xsite 123) = true := by decide +kernel
theorem S_124_0 : T_124_0.all (xsite 124) = true := by decide +kernel
theorem S_125_0 : T_125_0.all (xsite 125) = true := by decide +kernel
theorem S_126_0 : T_126_0.all (xsite 126) = true := by decide +kernel
theorem S_127_0 : T_127_0.all (xsite 127) = true := by decide +kernel
theorem S_128_0 : T_128_0.all (xsite 128) = true := by decide +kernel
theorem S_129_0 : T_129_0.all (xsite 129) = true := by decide +kernel
theorem S_129_1 : T_129_1.all (xsite 129) = true := by decide +kernel
theorem S_130_0 : T_130_0.all (xsite 130) = true := by decide +kernel
theorem S_131_0 : T_131_0.all (xsite 131) = true := by decide +kernel
theorem S_132_0 : T_132_0.all (xsite 132) = true := by decide +kernel
theorem S_133_0 : T_133_0.all (xsite 133) = true := by decide +kernel
theorem S_133_1 : T_133_1.all (xsite 133) = true := by decide +kernel
theorem S_133_2 : T_133_2.all (xsite 133) = true := by decide +kernel
theorem S_133_3 : T_133_3.all (xsite 133) = true := by decide +kernel
theorem S_133_4 : T_133_4.all (xsite 133) = true := by decide +kernel
theorem S_133_5 : T_133_5.all (xsite 133) = true := by decide +kernel
theorem S_133_6 : T_133_6.all (xsite 133) = true := by decide +kernel
theorem S_134_0 : T_134_0.all (xsite 134) = true := by decide +kernel
theorem S_135_0 : T_135_0.all (xsite 135) = true := by decide +kernel
theorem S_135_1 : T_135_1.all (xsite 135) = true := by decide +kernel
theorem S_136_0 : T_136_0.all (xsite 136) = true := by decide +kernel
theorem S_136_1 : T_136_1.all (xsite 136) = true := by decide +kernel
theorem S_136_2 : T_136_2.all (xsite 136) = true := by decide +kernel
theorem S_136_3 : T_136_3.all (xsite 136) = true := by decide +kernel
theorem S_137_0 : T_137_0.all (xsite 137) = true := by decide +kernel
theorem S_138_0 : T_138_0.all (xsite 138) = true := by decide +kernel
theorem S_138_1 : T_138_1.all (xsite 138) = true := by decide +kernel
theorem S_138_2 : T_138_2.all (xsite 138) = true := by decide +kernel
theorem S_139_0 : T_139_0.all (xsite 139) = true := by decide +kernel
theorem S_139_1 : T_139_1.all (xsite 139) = true := by decide +kernel
theorem S_140_0 : T_140_0.all (xsite 140) = true := by decide +kernel
theorem S_140_1 : T_140_1.all (xsite 140) = true := by decide +kernel
theorem S_141_0 : T_141_0.all (xsite 141) = true := by decide +kernel
theorem S_141_1 : T_141_1.all (xsite 141) = true := by decide +kernel
theorem S_142_0 : T_142_0.all (xsite 142) = true := by decide +kernel
theorem S_142_1 : T_142_1.all (xsite 142) = true := by decide +kernel
theorem S_142_2 : T_142_2.all (xsite 142) = true := by decide +kernel
theorem S_143_0 : T_143_0.all (xsite 143) = true := by decide +kernel
theorem S_143_1 : T_143_1.all (xsite 143) = true := by decide +kernel
theorem S_143_2 : T_143_2.all (xsite 143) = true := by decide +kernel
theorem S_144_0 : T_144_0.all (xsite 144) = true := by decide +kernel
theorem S_144_1 : T_144_1.all (xsite 144) = true := by decide +kernel
theorem S_145_0 : T_145_0.all (xsite 145) = true := by decide +kernel
theorem S_145_1 : T_145_1.all (xsite 145) = true := by decide +kernel
theorem S_146_0 : T_146_0.all (xsite 146) = true := by decide +kernel
theorem S_146_1 : T_146_1.all (xsite 146) = true := by decide +kernel
theorem S_147_0 : T_147_0.all (xsite 147) = true := by decide +kernel
theorem S_147_1 : T_147_1.all (xsite 147) = true := by decide +kernel
theorem S_148_0 : T_148_0.all (xsite 148) = true := by decide +kernel
theorem S_148_1 : T_148_1.all (xsite 148) = true := by decide +kernel
theorem S_148_2 : T_148_2.all (xsite 148) = true := by decide +kernel
theorem S_148_3 : T_148_3.all (xsite 148) = true := by decide +kernel
theorem S_148_4 : T_148_4.all (xsite 148) = true := by decide +kernel
theorem S_149_0 : T_149_0.all (xsite 149) = true := by decide +kernel
theorem S_149_1 : T_149_1.all (xsite 149) = true := by decide +kernel
theorem S_149_2 : T_149_2.all (xsite 149) = true := by decide +kernel
theorem S_150_0 : T_150_0.all (xsite 150) = true := by decide +kernel
theorem S_151_0 : T_151_0.all (xsite 151) = true := by decide +kernel
theorem S_151_1 : T_151_1.all (xsite 151) = true := by decide +kernel
theorem S_151_2 : T_151_2.all (xsite 151) = true := by decide +kernel
theorem S_152_0 : T_152_0.all (xsite 152) = true := by decide +kernel
theorem S_152_1 : T_152_1.all (xsite 152) = true := by decide +kernel
theorem S_153_0 : T_153_0.all (xsite 153) = true := by decide +kernel
theorem S_153_1 : T_153_1.all (xsite 153) = true := by decide +kernel
theorem S_153_2 : T_153_2.all (xsite 153) = true := by decide +kernel
theorem S_154_0 : T_154_0.all (xsite 154) = true := by decide +kernel
theorem S_154_1 : T_154_1.all (xsite 154) = true := by decide +kernel
theorem S_155_0 : T_155_0.all (xsite 155) = true := by decide +kernel
theorem S_155_1 : T_155_1.all (xsite 155) = true := by decide +kernel
theorem S_156_0 : T_156_0.all (xsite 156) = true := by decide +kernel
theorem S_156_1 : T_156_1.all (xsite 156) = true := by decide +kernel
theorem S_157_0 : T_157_0.all (xsite 157) = true := by decide +kernel
theorem S_157_1 : T_157_1.all (xsite 157) = true := by decide +kernel
theorem S_157_2 : T_157_2.all (xsite 157) = true := by decide +kernel
theorem S_158_0 : T_158_0.all (xsite 158) = true := by decide +kernel
theorem S_159_0 : T_159_0.all (xsite 159) = true := by decide +kernel
theorem S_160_0 : T_160_0.all (xsite 160) = true := by decide +kernel
theorem S_160_1 : T_160_1.all (xsite 160) = true := by decide +kernel
theorem S_160_2 : T_160_2.all (xsite 160) = true := by decide +kernel
theorem S_161_0 : T_161_0.all (xsite 161) = true := by decide +kernel
theorem S_161_1 : T_161_1.all (xsite 161) = true := by decide +kernel
theorem S_161_2 : T_161_2.all (xsite 161) = true := by decide +kernel
theorem S_161_3 : T_161_3.all (xsite 161) = true := by decide +kernel
theorem S_162_0 : T_162_0.all (xsite 162) = true := by decide +kernel
theorem S_162_1 : T_162_1.all (xsite 162) = true := by decide +kernel
theorem S_163_0 : T_163_0.all (xsite 163) = true := by decide +kernel
theorem S_163_1 : T_163_1.all (xsite 163) = true := by decide +kernel
theorem S_163_2 : T_163_2.all (xsite 163) = true := by decide +kernel
theorem S_163_3 : T_163_3.all (xsite 163) = true := by decide +kernel
theorem S_163_4 : T_163_4.all (xsite 163) = true := by decide +kernel
theorem S_163_5 : T_163_5.all (xsite 163) = true := by decide +kernel
theorem S_163_6 : T_163_6.all (xsite 163) = true := by decide +kernel
theorem S_164_0 : T_164_0.all (xsite 164) = true := by decide +kernel
theorem S_165_0 : T_165_0.all (xsite 165) = true := by decide +kernel
theorem S_166_0 : T_166_0.all (xsite 166) = true := by decide +kernel
theorem S_167_0 : T_167_0.all (xsite 167) = true := by decide +kernel
theorem S_168_0 : T_168_0.all (xsite 168) = true := by decide +kernel
theorem S_168_1 : T_168_1.all (xsite 168) = true := by decide +kernel
theorem S_169_0 : T_169_0.all (xsite 169) = true := by decide +kernel
theorem S_169_1 : T_169_1.all (xsite 169) = true := by decide +kernel
theorem S_169_2 : T_169_2.all (xsite 169) = true := by decide +kernel
theorem S_169_3 : T_169_3.all (xsite 169) = true := by decide +kernel
theorem S_170_0 : T_170_0.all (xsite 170) = true := by decide +kernel
theorem S_171_0 : T_171_0.all (xsite 171) = true := by decide +kernel
theorem S_172_0 : T_172_0.all (xsite 172) = true := by decide +kernel
theorem S_172_1 : T_172_1.all (xsite 172) = true := by decide +kernel
theorem S_172_2 : T_172_2.all (xsite 172) = true := by decide +kernel
theorem S_173_0 : T_173_0.all (xsite 173) = true := by decide +kernel
theorem S_173_1 : T_173_1.all (xsite 173) = true := by decide +kernel
theorem S_173_2 : T_173_2.all (xsite 173) = true := by decide +kernel
theorem S_173_3 : T_173_3.all (xsite 173) = true := by decide +kernel
theorem S_173_4 : T_173_4.all (xsite 173) = true := by decide +kernel
theorem S_174_0 : T_174_0.all (xsite 174) = true := by decide +kernel
theorem S_175_0 : T_175_0.all (xsite 175) = true := by decide +kernel
theorem S_176_0 : T_176_0.all (xsite 176) = true := by decide +kernel
theorem S_176_1 : T_176_1.all (xsite 176) = true := by decide +kernel
theorem S_176_2 : T_176_2.all (xsite 176) = true := by decide +kernel
theorem S_176_3 : T_176_3.all (xsite 176) = true := by decide +kernel
theorem S_177_0 : T_177_0.all (xsite 177) = true := by decide +kernel
theorem S_178_0 : T_178_0.all (xsite 178) = true := by decide +kernel
theorem S_178_1 : T_178_1.all (xsite 178) = true := by decide +kernel
theorem S_179_0 : T_179_0.all (xsite 179) = true := by decide +kernel
theorem S_179_1 : T_179_1.all (xsite 179) = true := by decide +kernel
theorem S_180_0 : T_180_0.all (xsite 180) = true := by decide +kernel
theorem S_181_0 : T_181_0.all (xsite 181) = true := by decide +kernel
theorem S_182_0 : T_182_0.all (xsite 182) = true := by decide +kernel
theorem S_183_0 : T_183_0.all (xsite 183) = true := by decide +kernel
theorem S_184_0 : T_184_0.all (xsite 184) = true := by decide +kernel
theorem S_185_0 : T_185_0.all (xsite 185) = true := by decide +kernel
theorem S_186_0 : T_186_0.all (xsite 186) = true := by decide +kernel
theorem S_187_0 : T_187_0.all (xsite 187) = true := by decide +kernel
theorem S_188_0 : T_188_0.all (xsite 188) = true := by decide +kernel
theorem S_189_0 : T_189_0.all (xsite 189) = true := by decide +kernel
theorem S_190_0 : T_190_0.all (xsite 190) = true := by decide +kernel
theorem S_191_0 : T_191_0.all (xsite 191) = true := by decide +kernel
theorem S_192_0 : T_192_0.all (xsite 192) = true := by decide +kernel
theorem S_193_0 : T_193_0.all (xsite 193) = true := by decide +kernel
theorem S_194_0 : T_194_0.all (xsite 194) = true := by decide +kernel
theorem S_194_1 : T_194_1.all (xsite 194) = true := by decide +kernel
theorem S_194_2 : T_194_2.all (xsite 194) = true := by decide +kernel
theorem S_194_3 : T_194_3.all (xsite 194) = true := by decide +kernel
theorem S_194_4 : T_194_4.all (xsite 194) = true := by decide +kernel
theorem S_194_5 : T_194_5.all (xsite 194) = true := by decide +kernel
theorem S_194_6 : T_194_6.all (xsite 194) = true := by decide +kernel
theorem S_194_7 : T_194_7.all (xsite 194) = true := by decide +kernel
theorem S_194_8 : T_194_8.all (xsite 194) = true := by decide +kernel
theorem S_194_9 : T_194_9.all (xsite 194) = true := by decide +kernel
theorem S_194_10 : T_194_10.all (xsite 194) = true := by decide +kernel
theorem S_194_11 : T_194_11.all (xsite 194) = true := by decide +kernel
theorem S_194_12 : T_194_12.all (xsite 194) = true := by decide +kernel
theorem S_194_13 : T_194_13.all (xsite 194) = true := by decide +kernel
theorem S_194_14 : T_194_14.all (xsite 194) = true := by decide +kernel
theorem S_194_15 : T_194_15.all (xsite 194) = true := by decide +kernel
theorem S_194_16 : T_194_16.all (xsite 194) = true := by decide +kernel
theorem S_194_17 : T_194_17.all (xsite 194) = true := by decide +kernel
theorem S_194_18 : T_194_18.all (xsite 194) = true := by decide +kernel
theorem S_194_19 : T_194_19.all (xsite 194) = true := by decide +kernel
theorem S_194_20 : T_194_20.all (xsite 194) = true := by decide +kernel
theorem S_194_21 : T_194_21.all (xsite 194) = true := by decide +kernel
theorem S_194_22 : T_194_22.all (xsite 194) = true := by decide +kernel
theorem S_194_23 : T_194_23.all (xsite 194) = true := by decide +kernel
theorem S_194_24 : T_194_24.all (xsite 194) = true := by decide +kernel
theorem S_194_25 : T_194_25.all (xsite 194) = true := by decide +kernel
theorem S_194_26 : T_194_26.all (xsite 194) = true := by decide +kernel
theorem S_194_27 : T_194_27.all (xsite 194) = true := by decide +kernel
theorem S_194_28 : T_194_28.all (xsite 194) = true := by decide +kernel
theorem S_194_29 : T_194_29.all (xsite 194) = true := by decide +kernel
theorem S_194_30 : T_194_30.all (xsite 194) = true := by decide +kernel
theorem S_194_31 : T_194_31.all (xsite 194) = true := by decide +kernel
theorem S_194_32 : T_194_32.all (xsite 194) = true := by decide +kernel
set_option maxRecDepth 100000 in
theorem xsite_all (i p : Nat) : ∀ q ∈ xtbL i p, xsite i q = true := xcase (P := fun X => ∀ q ∈ X, xsite i q = true) _ (fun _ => xcase (P := fun X => ∀ q ∈ X, xsite i q = true) _ (fun _ => xcase (P := fun X => ∀ q ∈ X, xsite i q = true) _ (fun _ => xcase (P := fun X => ∀ q ∈ X, xsite i q = true) _ (fun _ => xcase (P := fun X => ∀ q ∈ X, xsite i q = true) _ (fun _ => xcase (P := fun X => ∀ q ∈ X, xsite i q = true) _ (fun _ => xcase (P := fun X => ∀ q ∈ X, xsite i q = true) _ (fun _ => xleafM (List.all_eq_true.mp S_0_0)) (fun _ => xcase (P := fun X => ∀ q ∈ X, xsite i q = true) _ (fun _ => xleafM (List.all_eq_true.mp S_1_0)) (fun _ => xleafM (List.all_eq_true.mp S_2_0)))) (fun _ => xcase (P := fun X => ∀ q ∈ X, xsite i q = true) _ (fun _ => xleafM (List.all_eq_true.mp S_3_0)) (fun _ => xcase (P := fun X => ∀ q ∈ X, xsite i q = true) _ (fun _ => xleafM (xcase (P := fun X => ∀ q ∈ X, xsite 4 q = true) _ (fun _ => List.all_eq_true.mp S_4_0) (fun _ => xcase (P := fun X => ∀ q ∈ X, xsite 4 q = true) _ (fun _ => List.all_eq_true.mp S_4_1) (fun _ => List.all_eq_true.mp S_4_2)))) (fun _ => xleafM (List.all_eq_true.mp S_5_0))))) (fun _ => xcase (P := fun X => ∀ q ∈ X, xsite i q = true) _ (fun _ => xcase (P := fun X => ∀ q ∈ X, xsite i q = true) _ (fun _ => xleafM (List.all_eq_true.mp S_6_0)) (fun _ => xcase (P := fun X => ∀ q ∈ X, xsite i q = true) _ (fun _ => xleafM (List.all_eq_true.mp S_7_0)) (fun _ => xleafM (xcase (P := fun X => ∀ q ∈ X, xsite 8 q = true) _ (fun _ => List.all_eq_true.mp S_8_0) (fun _ => List.all_eq_true.mp S_8_1))))) (fun _ => xcase (P := fun X => ∀ q ∈ X, xsite i q = true) _ (fun _ => xleafM (List.all_eq_true.mp S_9_0)) (fun _ => xcase (P := fun X => ∀ q ∈ X, xsite i q = true) _ (fun _ => xleafM (List.all_eq_true.mp S_10_0)) (fun _ => xleafM (List.all_eq_true.mp S_11_0)))))) (fun _ => xcase (P := fun X => ∀ q ∈ X, xsite i q = true) _ (fun _ => xcase (P := fun X => ∀ q ∈ X, xsite i q = true) _ (fun _ => xcase (P := fun X => ∀ q ∈ X, xsite i q = true) _ (fun _ => xleafM (List.all_eq_true.mp S_12_0)) (fun _ => xcase (P := fun X => ∀ q ∈ X, xsite i q = true) _ (fun _ => xleafM (List.all_eq_true.mp S_13_0)) (fun _ => xleafM (List.all_eq_true.mp S_14_0)))) (fun _ => xcase (P := fun X => ∀ q ∈ X, xsite i q = true) _ (fun _ => xleafM (List.all_eq_true.mp S_15_0)) (fun _ => xcase (P := fun X => ∀ q ∈ X, xsite i q = true) _ (fun _ => xleafM (List.all_eq_true.mp S_16_0)) (fun _ => xleafM (List.all_eq_true.mp S_17_0))))) (fun _ => xcase (P := fun X => ∀ q ∈ X, xsite i q = true) _ (fun _ => xcase (P := fun X => ∀ q ∈ X, xsite i q = true) _ (fun _ => xleafM (List.all_eq_true.mp S_18_0)) (fun _ => xcase (P := fun X => ∀ q ∈ X, xsite i q = true) _ (fun _ => xleafM (List.all_eq_true.mp S_19_0)) (fun _ => xleafM (List.all_eq_true.mp S_20_0)))) (fun _ => xcase (P := fun X => ∀ q ∈ X, xsite i q = true) _ (fun _ => xleafM (List.all_eq_true.mp S_21_0)) (fun _ => xcase (P := fun X => ∀ q ∈ X, xsite i q = true) _ (fun _ => xleafM (List.all_eq_true.mp S_22_0)) (fun _ => xleafM (xcase (P := fun X => ∀ q ∈ X, xsite 23 q = true) _ (fun _ => List.all_eq_true.mp S_23_0) (fun _ => List.all_eq_true.mp S_23_1)))))))) (fun _ => xcase (P := fun X => ∀ q ∈ X, xsite i q = true) _ (fun _ => xcase (P := fun X => ∀ q ∈ X, xsite i q = true) _ (fun _ => xcase (P := fun X => ∀ q ∈ X, xsite i q = true) _ (fun _ => xcase (P := fun X => ∀ q ∈ X, xsite i q = true) _ (fun _ => xleafM (List.all_eq_true.mp S_24_0)) (fun _ => xcase (P := fun X => ∀ q ∈ X, xsite i q = true) _ (fun _ => xleafM (List.all_eq_true.mp S_25_0)) (fun _ => xleafM (List.all_eq_true.mp S_26_0)))) (fun _ => xcase (P := fun X => ∀ q ∈ X, xsite i q = true) _ (fun _ => xleafM (List.all_eq_true.mp S_27_0)) (fun _ => xcase (P := fun X => ∀ q ∈ X, xsite i q = true) _ (fun _ => xleafM (xcase (P := fun X => ∀ q ∈ X, xsite 28 q = true) _ (fun _ => List.all_eq_true.mp S_28_0) (fun _ => List.all_eq_true.mp S_28_1))) (fun _ => xleafM (List.all_eq_true.mp S_29_0))))) (fun _ => xcase (P := fun X => ∀ q ∈ X, xsite i q = true) _ (fun _ => xcase (P := fun X => ∀ q ∈ X, xsite i q = true) _ (fun _ => xleafM (List.all_eq_true.mp S_30_0)) (fun _ => xcase (P := fun X => ∀ q ∈ X, xsite i q = true) _ (fun _ => xleafM (List.all_eq_true.mp S_31_0)) (fun _ => xleafM (xcase (P := fun X => ∀ q ∈ X, xsite 32 q = true) _ (fun _ => List.all_eq_true.mp S_32_0) (fun _ => List.all_eq_true.mp S_32_1))))) (fun _ => xcase (P := fun X => ∀ q ∈ X, xsite i q = true) _ (fun _ => xleafM (List.all_eq_true.mp S_33_0)) (fun _ => xcase (P := fun X => ∀ q ∈ X, xsite i q = true) _ (fun _ => xleafM (List.all_eq_true.mp S_34_0)) (fun _ => xleafM (List.all_eq_true.mp S_35_0)))))) (fun _ => xcase (P := fun X => ∀ q ∈ X, xsite i q = true) _ (fun _ => xcase (P := fun X => ∀ q ∈ X, xsite i q = true) _ (fun _ => xcase (P := fun X => ∀ q ∈ X, xsite i q = true) _ (fun _ => xleafM (List.all_eq_true.mp S_36_0)) (fun _ => xcase (P := fun X => ∀ q ∈ X, xsite i q = true) _ (fun _ => xleafM (List.all_eq_true.mp S_37_0)) (fun _ => xleafM (List.all_eq_true.mp S_38_0)))) (fun _ => xcase (P := fun X => ∀ q ∈ X, xsite i q = true) _ (fun _ => xleafM (List.all_eq_true.mp S_39_0)) (fun _ => xcase (P := fun X => ∀ q ∈ X, xsite i q = true) _ (fun _ => xleafM (xcase (P := fun X => ∀ q ∈ X, xsite 40 q = true) _ (fun _ => List.all_eq_true.mp S_40_0) (fun _ => List.all_eq_true.mp S_40_1))) (fun _ => xleafM (List.all_eq_true.mp S_41_0))))) (fun _ => xcase (P := fun X => ∀ q ∈ X, xsite i q = true) _ (fun _ => xcase (P := fun X => ∀ q ∈ X, xsite i q = true) _ (fun _ => xleafM (List.all_eq_true.mp S_42_0)) (fun _ => xcase (P := fun X => ∀ q ∈ X, xsite i q = true) _ (fun _ => xleafM (List.all_eq_true.mp S_43_0)) (fun _ => xleafM (List.all_eq_true.mp S_44_0)))) (fun _ => xcase (P := fun X => ∀ q ∈ X, xsite i q = true) _ (fun _ => xleafM (xcase (P := fun X => ∀ q ∈ X, xsite 45 q = true) _ (fun _ => List.all_eq_true.mp S_45_0) (fun _ => List.all_eq_true.mp S_45_1))) (fun _ => xcase (P := fun X => ∀ q ∈ X, xsite i q = true) _ (fun _ => xleafM (List.all_eq_true.mp S_46_0)) (fun _ => xleafM (List.all_eq_true.mp S_47_0)))))))) (fun _ => xcase (P := fun X => ∀ q ∈ X, xsite i q = true) _ (fun _ => xcase (P := fun X => ∀ q ∈ X, xsite i q = true) _ (fun _ => xcase (P := fun X => ∀ q ∈ X, xsite i q = true) _ (fun _ => xcase (P := fun X => ∀ q ∈ X, xsite i q = true) _ (fun _ => xcase (P := fun X => ∀ q ∈ X, xsite i q = true) _ (fun _ => xleafM (xcase (P := fun X => ∀ q ∈ X, xsite 48 q = true) _ (fun _ => List.all_eq_true.mp S_48_0) (fun _ => List.all_eq_true.mp S_48_1))) (fun _ => xcase (P := fun X => ∀ q ∈ X, xsite i q = true) _ (fun _ => xleafM (xcase (P := fun X => ∀ q ∈ X, xsite 49 q = true) _ (fun _ => List.all_eq_true.mp S_49_0) (fun _ => xcase (P := fun X => ∀ q ∈ X, xsite 49 q = true) _ (fun _ => List.all_eq_true.mp S_49_1) (fun _ => List.all_eq_true.mp S_49_2)))) (fun _ => xleafM (List.all_eq_true.mp S_50_0)))) (fun _ => xcase (P := fun X => ∀ q ∈ X, xsite i q = true) _ (fun _ => xleafM (xcase (P := fun X => ∀ q ∈ X, xsite 51 q = true) _ (fun _ => List.all_eq_true.mp S_51_0) (fun _ => List.all_eq_true.mp S_51_1))) (fun _ => xcase (P := fun X => ∀ q ∈ X, xsite i q = true) _ (fun _ => xleafM (List.all_eq_true.mp S_52_0)) (fun _ => xleafM (List.all_eq_true.mp S_53_0))))) (fun _ => xcase (P := fun X => ∀ q ∈ X, xsite i q = true) _ (fun _ => xcase (P := fun X => ∀ q ∈ X, xsite i q = true) _ (fun _ => xleafM (List.all_eq_true.mp S_54_0)) (fun _ => xcase (P := fun X => ∀ q ∈ X, xsite i q = true) _ (fun _ => xleafM (xcase (P := fun X => ∀ q ∈ X, xsite 55 q = true) _ (fun _ => List.all_eq_true.mp S_55_0) (fun _ => List.all_eq_true.mp S_55_1))) (fun _ => xleafM (List.all_eq_true.mp S_56_0)))) (fun _ => xcase (P := fun X => ∀ q ∈ X, xsite i q = true) _ (fun _ => xleafM (List.all_eq_true.mp S_57_0)) (fun _ => xcase (P := fun X => ∀ q ∈ X, xsite i q = true) _ (fun _ => xleafM (xcase (P := fun X => ∀ q ∈ X, xsite 58 q = true) _ (fun _ => List.all_eq_true.mp S_58_0) (fun _ => List.all_eq_true.mp S_58_1))) (fun _ => xleafM (List.all_eq_true.mp S_59_0)))))) (fun _ => xcase (P := fun X => ∀ q ∈ X, xsite i q = true) _ (fun _ => xcase (P := fun X => ∀ q ∈ X, xsite i q = true) _ (fun _ => xcase (P := fun X => ∀ q ∈ X, xsite i q = true) _ (fun _ => xleafM (List.all_eq_true.mp S_60_0)) (fun _ => xcase (P := fun X => ∀ q ∈ X, xsite i q = true) _ (fun _ => xleafM (List.all_eq_true.mp S_61_0)) (fun _ => xleafM (List.all_eq_true.mp S_62_0)))) (fun _ => xcase (P := fun X => ∀ q ∈ X, xsite i q = true) _ (fun _ => xleafM (List.all_eq_true.mp S_63_0)) (fun _ => xcase (P := fun X => ∀ q ∈ X, xsite i q = true) _ (fun _ => xleafM (List.all_eq_true.mp S_64_0)) (fun _ => xleafM (List.all_eq_true.mp S_65_0))))) (fun _ => xcase (P := fun X => ∀ q ∈ X, xsite i q = true) _ (fun _ => xcase (P := fun X => ∀ q ∈ X, xsite i q = true) _ (fun _ => xleafM (List.all_eq_true.mp S_66_0)) (fun _ => xcase (P := fun X => ∀ q ∈ X, xsite i q = true) _ (fun _ => xleafM (List.all_eq_true.mp S_67_0)) (fun _ => xleafM (List.all_eq_true.mp S_68_0)))) (fun _ => xcase (P := fun X => ∀ q ∈ X, xsite i q = true) _ (fun _ => xleafM (List.all_eq_true.mp S_69_0)) (fun _ => xcase (P := fun X => ∀ q ∈ X, xsite i q = true) _ (fun _ => xleafM (List.all_eq_true.mp S_70_0)) (fun _ => xleafM (List.all_eq_true.mp S_71_0))))))) (fun _ => xcase (P := fun X => ∀ q ∈ X, xsite i q = true) _ (fun _ => xcase (P := fun X => ∀ q ∈ X, xsite i q = true) _ (fun _ => xcase (P := fun X => ∀ q ∈ X, xsite i q = true) _ (fun _ => xcase (P := fun X => ∀ q ∈ X, xsite i q = true) _ (fun _ => xleafM (List.all_eq_true.mp S_72_0)) (fun _ => xcase (P := fun X => ∀ q ∈ X, xsite i q = true) _ (fun _ => xleafM (List.all_eq_true.mp S_73_0)) (fun _ => xleafM (List.all_eq_true.mp S_74_0)))) (fun _ => xcase (P := fun X => ∀ q ∈ X, xsite i q = true) _ (fun _ => xleafM (List.all_eq_true.mp S_75_0)) (fun _ => xcase (P := fun X => ∀ q ∈ X, xsite i q = true) _ (fun _ => xleafM (List.all_eq_true.mp S_76_0)) (fun _ => xleafM (List.all_eq_true.mp S_77_0))))) (fun _ => xcase (P := fun X => ∀ q ∈ X, xsite i q = true) _ (fun _ => xcase (P := fun X => ∀ q ∈ X, xsite i q = true) _ (fun _ => xleafM (xcase (P := fun X => ∀ q ∈ X, xsite 78 q = true) _ (fun _ => List.all_eq_true.mp S_78_0) (fun _ => List.all_eq_true.mp S_78_1))) (fun _ => xcase (P := fun X => ∀ q ∈ X, xsite i q = true) _ (fun _ => xleafM (List.all_eq_true.mp S_79_0)) (fun _ => xleafM (List.all_eq_true.mp S_80_0)))) (fun _ => xcase (P := fun X => ∀ q ∈ X, xsite i q = true) _ (fun _ => xleafM (List.all_eq_true.mp S_81_0)) (fun _ => xcase (P := fun X => ∀ q ∈ X, xsite i q = true) _ (fun _ => xleafM (List.all_eq_true.mp S_82_0)) (fun _ => xleafM (List.all_eq_true.mp S_83_0)))))) (fun _ => xcase (P := fun X => ∀ q ∈ X, xsite i q = true) _ (fun _ => xcase (P := fun X => ∀ q ∈ X, xsite i q = true) _ (fun _ => xcase (P := fun X => ∀ q ∈ X, xsite i q = true) _ (fun _ => xleafM (xcase (P := fun X => ∀ q ∈ X, xsite 84 q = true) _ (fun _ => List.all_eq_true.mp S_84_0) (fun _ => List.all_eq_true.mp S_84_1))) (fun _ => xcase (P := fun X => ∀ q ∈ X, xsite i q = true) _ (fun _ => xleafM (List.all_eq_true.mp S_85_0)) (fun _ => xleafM (xcase (P := fun X => ∀ q ∈ X, xsite 86 q = true) _ (fun _ => List.all_eq_true.mp S_86_0) (fun _ => List.all_eq_true.mp S_86_1))))) (fun _ => xcase (P := fun X => ∀ q ∈ X, xsite i q = true) _ (fun _ => xleafM (List.all_eq_true.mp S_87_0)) (fun _ => xcase (P := fun X => ∀ q ∈ X, xsite i q = true) _ (fun _ => xleafM (xcase (P := fun X => ∀ q ∈ X, xsite 88 q = true) _ (fun _ => List.all_eq_true.mp S_88_0) (fun _ => List.all_eq_true.mp S_88_1))) (fun _ => xleafM (xcase (P := fun X => ∀ q ∈ X, xsite 89 q = true) _ (fun _ => List.all_eq_true.mp S_89_0) (fun _ => List.all_eq_true.mp S_89_1)))))) (fun _ => xcase (P := fun X => ∀ q ∈ X, xsite i q = true) _ (fun _ => xcase (P := fun X => ∀ q ∈ X, xsite i q = true) _ (fun _ => xleafM (List.all_eq_true.mp S_90_0)) (fun _ => xcase (P := fun X => ∀ q ∈ X, xsite i q = true) _ (fun _ => xleafM (List.all_eq_true.mp S_91_0)) (fun _ => xleafM (xcase (P := fun X => ∀ q ∈ X, xsite 92 q = true) _ (fun _ => List.all_eq_true.mp S_92_0) (fun _ => List.all_eq_true.mp S_92_1))))) (fun _ => xcase (P := fun X => ∀ q ∈ X, xsite i q = true) _ (fun _ => xcase (P := fun X => ∀ q ∈ X, xsite i q = true) _ (fun _ => xleafM (List.all_eq_true.mp S_93_0)) (fun _ => xleafM (xcase (P := fun X => ∀ q ∈ X, xsite 94 q = true) _ (fun _ => List.all_eq_true.mp S_94_0) (fun _ => List.all_eq_true.mp S_94_1)))) (fun _ => xcase (P := fun X => ∀ q ∈ X, xsite i q = true) _ (fun _ => xleafM (xcase (P := fun X => ∀ q ∈ X, xsite 95 q = true) _ (fun _ => List.all_eq_true.mp S_95_0) (fun _ => xcase (P := fun X => ∀ q ∈ X, xsite 95 q = true) _ (fun _ => List.all_eq_true.mp S_95_1) (fun _ => List.all_eq_true.mp S_95_2)))) (fun _ => xleafM (List.all_eq_true.mp S_96_0))))))))) (fun _ => xcase (P := fun X => ∀ q ∈ X, xsite i q = true) _ (fun _ => xcase (P := fun X => ∀ q ∈ X, xsite i q = true) _ (fun _ => xcase (P := fun X => ∀ q ∈ X, xsite i q = true) _ (fun _ => xcase (P := fun X => ∀ q ∈ X, xsite i q = true) _ (fun _ => xcase (P := fun X => ∀ q ∈ X, xsite i q = true) _ (fun _ => xcase (P := fun X => ∀ q ∈ X, xsite i q = true) _ (fun _ => xleafM (List.all_eq_true.mp S_97_0)) (fun _ => xcase (P := fun X => ∀ q ∈ X, xsite i q = true) _ (fun _ => xleafM (xcase (P := fun X => ∀ q ∈ X, xsite 98 q = true) _ (fun _ => List.all_eq_true.mp S_98_0) (fun _ => List.all_eq_true.mp S_98_1))) (fun _ => xleafM (List.all_eq_true.mp S_99_0)))) (fun _ => xcase (P := fun X => ∀ q ∈ X, xsite i q = true) _ (fun _ => xleafM (List.all_eq_true.mp S_100_0)) (fun _ => xcase (P := fun X => ∀ q ∈ X, xsite i q = true) _ (fun _ => xleafM (List.all_eq_true.mp S_101_0)) (fun _ => xleafM (xcase (P := fun X => ∀ q ∈ X, xsite 102 q = true) _ (fun _ => List.all_eq_true.mp S_102_0) (fun _ => List.all_eq_true.mp S_102_1)))))) (fun _ => xcase (P := fun X => ∀ q ∈ X, xsite i q = true) _ (fun _ => xcase (P := fun X => ∀ q ∈ X, xsite i q = true) _ (fun _ => xleafM (List.all_eq_true.mp S_103_0)) (fun _ => xcase (P := fun X => ∀ q ∈ X, xsite i q = true) _ (fun _ => xleafM (xcase (P := fun X => ∀ q ∈ X, xsite 104 q = true) _ (fun _ => List.all_eq_true.mp S_104_0) (fun _ => List.all_eq_true.mp S_104_1))) (fun _ => xleafM (List.all_eq_true.mp S_105_0)))) (fun _ => xcase (P := fun X => ∀ q ∈ X, xsite i q = true) _ (fun _ => xleafM (xcase (P := fun X => ∀ q ∈ X, xsite 106 q = true) _ (fun _ => List.all_eq_true.mp S_106_0) (fun _ => List.all_eq_true.mp S_106_1))) (fun _ => xcase (P := fun X => ∀ q ∈ X, xsite i q = true) _ (fun _ => xleafM (List.all_eq_true.mp S_107_0)) (fun _ => xleafM (xcase (P := fun X => ∀ q ∈ X, xsite 108 q = true) _ (fun _ => List.all_eq_true.mp S_108_0) (fun _ => List.all_eq_true.mp S_108_1))))))) (fun _ => xcase (P := fun X => ∀ q ∈ X, xsite i q = true) _ (fun _ => xcase (P := fun X => ∀ q ∈ X, xsite i q = true) _ (fun _ => xcase (P := fun X => ∀ q ∈ X, xsite i q = true) _ (fun _ => xleafM (xcase (P := fun X => ∀ q ∈ X, xsite 109 q = true) _ (fun _ => List.all_eq_true.mp S_109_0) (fun _ => List.all_eq_true.mp S_109_1))) (fun _ => xcase (P := fun X => ∀ q ∈ X, xsite i q = true) _ (fun _ => xleafM (List.all_eq_true.mp S_110_0)) (fun _ => xleafM (List.all_eq_true.mp S_111_0)))) (fun _ => xcase (P := fun X => ∀ q ∈ X, xsite i q = true) _ (fun _ => xleafM (List.all_eq_true.mp S_112_0)) (fun _ => xcase (P := fun X => ∀ q ∈ X, xsite i q = true) _ (fun _ => xleafM (List.all_eq_true.mp S_113_0)) (fun _ => xleafM (List.all_eq_true.mp S_114_0))))) (fun _ => xcase (P := fun X => ∀ q ∈ X, xsite i q = true) _ (fun _ => xcase (P := fun X => ∀ q ∈ X, xsite i q = true) _ (fun _ => xleafM (xcase (P := fun X => ∀ q ∈ X, xsite 115 q = true) _ (fun _ => List.all_eq_true.mp S_115_0) (fun _ => List.all_eq_true.mp S_115_1))) (fun _ => xcase (P := fun X => ∀ q ∈ X, xsite i q = true) _ (fun _ => xleafM (List.all_eq_true.mp S_116_0)) (fun _ => xleafM (List.all_eq_true.mp S_117_0)))) (fun _ => xcase (P := fun X => ∀ q ∈ X, xsite i q = true) _ (fun _ => xleafM (List.all_eq_true.mp S_118_0)) (fun _ => xcase (P := fun X => ∀ q ∈ X, xsite i q = true) _ (fun _ => xleafM (List.all_eq_true.mp S_119_0)) (fun _ => xleafM (xcase (P := fun X => ∀ q ∈ X, xsite 120 q = true) _ (fun _ => xcase (P := fun X => ∀ q ∈ X, xsite 120 q = true) _ (fun _ => List.all_eq_true.mp S_120_0) (fun _ => xcase (P := fun X => ∀ q ∈ X, xsite 120 q = true) _ (fun _ => List.all_eq_true.mp S_120_1) (fun _ => List.all_eq_true.mp S_120_2))) (fun _ => xcase (P := fun X => ∀ q ∈ X, xsite 120 q = true) _ (fun _ => List.all_eq_true.mp S_120_3) (fun _ => xcase (P := fun X => ∀ q ∈ X, xsite 120 q = true) _ (fun _ => List.all_eq_true.mp S_120_4) (fun _ => List.all_eq_true.mp S_120_5)))))))))) (fun _ => xcase (P := fun X => ∀ q ∈ X, xsite i q = true) _ (fun _ => xcase (P := fun X => ∀ q ∈ X, xsite i q = true) _ (fun _ => xcase (P := fun X => ∀ q ∈ X, xsite i q = true) _ (fun _ => xcase (P := fun X => ∀ q ∈ X, xsite i q = true) _ (fun _ => xleafM (List.all_eq_true.mp S_121_0)) (fun _ => xcase (P := fun X => ∀ q ∈ X, xsite i q = true) _ (fun _ => xleafM (List.all_eq_true.mp S_122_0)) (fun _ => xleafM (List.all_eq_true.mp S_123_0)))) (fun _ => xcase (P := fun X => ∀ q ∈ X, xsite i q = true) _ (fun _ => xleafM (List.all_eq_true.mp S_124_0)) (fun _ => xcase (P := fun X => ∀ q ∈ X, xsite i q = true) _ (fun _ => xleafM (List.all_eq_true.mp S_125_0)) (fun _ => xleafM (List.all_eq_true.mp S_126_0))))) (fun _ => xcase (P := fun X => ∀ q ∈ X, xsite i q = true) _ (fun _ => xcase (P := fun X => ∀ q ∈ X, xsite i q = true) _ (fun _ => xleafM (List.all_eq_true.mp S_127_0)) (fun _ => xcase (P := fun X => ∀ q ∈ X, xsite i q = true) _ (fun _ => xleafM (List.all_eq_true.mp S_128_0)) (fun _ => xleafM (xcase (P := fun X => ∀ q ∈ X, xsite 129 q = true) _ (fun _ => List.all_eq_true.mp S_129_0) (fun _ => List.all_eq_true.mp S_129_1))))) (fun _ => xcase (P := fun X => ∀ q ∈ X, xsite i q = true) _ (fun _ => xleafM (List.all_eq_true.mp S_130_0)) (fun _ => xcase (P := fun X => ∀ q ∈ X, xsite i q = true) _ (fun _ => xleafM (List.all_eq_true.mp S_131_0)) (fun _ => xleafM (List.all_eq_true.mp S_132_0)))))) (fun _ => xcase (P := fun X => ∀ q ∈ X, xsite i q = true) _ (fun _ => xcase (P := fun X => ∀ q ∈ X, xsite i q = true) _ (fun _ => xcase (P := fun X => ∀ q ∈ X, xsite i q = true) _ (fun _ => xleafM (xcase (P := fun X => ∀ q ∈ X, xsite 133 q = true) _ (fun _ => xcase (P := fun X => ∀ q ∈ X, xsite 133 q = true) _ (fun _ => List.all_eq_true.mp S_133_0) (fun _ => xcase (P := fun X => ∀ q ∈ X, xsite 133 q = true) _ (fun _ => List.all_eq_true.mp S_133_1) (fun _ => List.all_eq_true.mp S_133_2))) (fun _ => xcase (P := fun X => ∀ q ∈ X, xsite 133 q = true) _ (fun _ => xcase (P := fun X => ∀ q ∈ X, xsite 133 q = true) _ (fun _ => List.all_eq_true.mp S_133_3) (fun _ => List.all_eq_true.mp S_133_4)) (fun _ => xcase (P := fun X => ∀ q ∈ X, xsite 133 q = true) _ (fun _ => List.all_eq_true.mp S_133_5) (fun _ => List.all_eq_true.mp S_133_6))))) (fun _ => xcase (P := fun X => ∀ q ∈ X, xsite i q = true) _ (fun _ => xleafM (List.all_eq_true.mp S_134_0)) (fun _ => xleafM (xcase (P := fun X => ∀ q ∈ X, xsite 135 q = true) _ (fun _ => List.all_eq_true.mp S_135_0) (fun _ => List.all_eq_true.mp S_135_1))))) (fun _ => xcase (P := fun X => ∀ q ∈ X, xsite i q = true) _ (fun _ => xleafM (xcase (P := fun X => ∀ q ∈ X, xsite 136 q = true) _ (fun _ => xcase (P := fun X => ∀ q ∈ X, xsite 136 q = true) _ (fun _ => List.all_eq_true.mp S_136_0) (fun _ => List.all_eq_true.mp S_136_1)) (fun _ => xcase (P := fun X => ∀ q ∈ X, xsite 136 q = true) _ (fun _ => List.all_eq_true.mp S_136_2) (fun _ => List.all_eq_true.mp S_136_3)))) (fun _ => xcase (P := fun X => ∀ q ∈ X, xsite i q = true) _ (fun _ => xleafM (List.all_eq_true.mp S_137_0)) (fun _ => xleafM (xcase (P := fun X => ∀ q ∈ X, xsite 138 q = true) _ (fun _ => List.all_eq_true.mp S_138_0) (fun _ => xcase (P := fun X => ∀ q ∈ X, xsite 138 q = true) _ (fun _ => List.all_eq_true.mp S_138_1) (fun _ => List.all_eq_true.mp S_138_2))))))) (fun _ => xcase (P := fun X => ∀ q ∈ X, xsite i q = true) _ (fun _ => xcase (P := fun X => ∀ q ∈ X, xsite i q = true) _ (fun _ => xleafM (xcase (P := fun X => ∀ q ∈ X, xsite 139 q = true) _ (fun _ => List.all_eq_true.mp S_139_0) (fun _ => List.all_eq_true.mp S_139_1))) (fun _ => xcase (P := fun X => ∀ q ∈ X, xsite i q = true) _ (fun _ => xleafM (xcase (P := fun X => ∀ q ∈ X, xsite 140 q = true) _ (fun _ => List.all_eq_true.mp S_140_0) (fun _ => List.all_eq_true.mp S_140_1))) (fun _ => xleafM (xcase (P := fun X => ∀ q ∈ X, xsite 141 q = true) _ (fun _ => List.all_eq_true.mp S_141_0) (fun _ => List.all_eq_true.mp S_141_1))))) (fun _ => xcase (P := fun X => ∀ q ∈ X, xsite i q = true) _ (fun _ => xcase (P := fun X => ∀ q ∈ X, xsite i q = true) _ (fun _ => xleafM (xcase (P := fun X => ∀ q ∈ X, xsite 142 q = true) _ (fun _ => List.all_eq_true.mp S_142_0) (fun _ => xcase (P := fun X => ∀ q ∈ X, xsite 142 q = true) _ (fun _ => List.all_eq_true.mp S_142_1) (fun _ => List.all_eq_true.mp S_142_2)))) (fun _ => xleafM (xcase (P := fun X => ∀ q ∈ X, xsite 143 q = true) _ (fun _ => List.all_eq_true.mp S_143_0) (fun _ => xcase (P := fun X => ∀ q ∈ X, xsite 143 q = true) _ (fun _ => List.all_eq_true.mp S_143_1) (fun _ => List.all_eq_true.mp S_143_2))))) (fun _ => xcase (P := fun X => ∀ q ∈ X, xsite i q = true) _ (fun _ => xleafM (xcase (P := fun X => ∀ q ∈ X, xsite 144 q = true) _ (fun _ => List.all_eq_true.mp S_144_0) (fun _ => List.all_eq_true.mp S_144_1))) (fun _ => xleafM (xcase (P := fun X => ∀ q ∈ X, xsite 145 q = true) _ (fun _ => List.all_eq_true.mp S_145_0) (fun _ => List.all_eq_true.mp S_145_1))))))))) (fun _ => xcase (P := fun X => ∀ q ∈ X, xsite i q = true) _ (fun _ => xcase (P := fun X => ∀ q ∈ X, xsite i q = true) _ (fun _ => xcase (P := fun X => ∀ q ∈ X, xsite i q = true) _ (fun _ => xcase (P := fun X => ∀ q ∈ X, xsite i q = true) _ (fun _ => xcase (P := fun X => ∀ q ∈ X, xsite i q = true) _ (fun _ => xleafM (xcase (P := fun X => ∀ q ∈ X, xsite 146 q = true) _ (fun _ => List.all_eq_true.mp S_146_0) (fun _ => List.all_eq_true.mp S_146_1))) (fun _ => xcase (P := fun X => ∀ q ∈ X, xsite i q = true) _ (fun _ => xleafM (xcase (P := fun X => ∀ q ∈ X, xsite 147 q = true) _ (fun _ => List.all_eq_true.mp S_147_0) (fun _ => List.all_eq_true.mp S_147_1))) (fun _ => xleafM (xcase (P := fun X => ∀ q ∈ X, xsite 148 q = true) _ (fun _ => xcase (P := fun X => ∀ q ∈ X, xsite 148 q = true) _ (fun _ => List.all_eq_true.mp S_148_0) (fun _ => List.all_eq_true.mp S_148_1)) (fun _ => xcase (P := fun X => ∀ q ∈ X, xsite 148 q = true) _ (fun _ => List.all_eq_true.mp S_148_2) (fun _ => xcase (P := fun X => ∀ q ∈ X, xsite 148 q = true) _ (fun _ => List.all_eq_true.mp S_148_3) (fun _ => List.all_eq_true.mp S_148_4))))))) (fun _ => xcase (P := fun X => ∀ q ∈ X, xsite i q = true) _ (fun _ => xleafM (xcase (P := fun X => ∀ q ∈ X, xsite 149 q = true) _ (fun _ => List.all_eq_true.mp S_149_0) (fun _ => xcase (P := fun X => ∀ q ∈ X, xsite 149 q = true) _ (fun _ => List.all_eq_true.mp S_149_1) (fun _ => List.all_eq_true.mp S_149_2)))) (fun _ => xcase (P := fun X => ∀ q ∈ X, xsite i q = true) _ (fun _ => xleafM (List.all_eq_true.mp S_150_0)) (fun _ => xleafM (xcase (P := fun X => ∀ q ∈ X, xsite 151 q = true) _ (fun _ => List.all_eq_true.mp S_151_0) (fun _ => xcase (P := fun X => ∀ q ∈ X, xsite 151 q = true) _ (fun _ => List.all_eq_true.mp S_151_1) (fun _ => List.all_eq_true.mp S_151_2))))))) (fun _ => xcase (P := fun X => ∀ q ∈ X, xsite i q = true) _ (fun _ => xcase (P := fun X => ∀ q ∈ X, xsite i q = true) _ (fun _ => xleafM (xcase (P := fun X => ∀ q ∈ X, xsite 152 q = true) _ (fun _ => List.all_eq_true.mp S_152_0) (fun _ => List.all_eq_true.mp S_152_1))) (fun _ => xcase (P := fun X => ∀ q ∈ X, xsite i q = true) _ (fun _ => xleafM (xcase (P := fun X => ∀ q ∈ X, xsite 153 q = true) _ (fun _ => List.all_eq_true.mp S_153_0) (fun _ => xcase (P := fun X => ∀ q ∈ X, xsite 153 q = true) _ (fun _ => List.all_eq_true.mp S_153_1) (fun _ => List.all_eq_true.mp S_153_2)))) (fun _ => xleafM (xcase (P := fun X => ∀ q ∈ X, xsite 154 q = true) _ (fun _ => List.all_eq_true.mp S_154_0) (fun _ => List.all_eq_true.mp S_154_1))))) (fun _ => xcase (P := fun X => ∀ q ∈ X, xsite i q = true) _ (fun _ => xleafM (xcase (P := fun X => ∀ q ∈ X, xsite 155 q = true) _ (fun _ => List.all_eq_true.mp S_155_0) (fun _ => List.all_eq_true.mp S_155_1))) (fun _ => xcase (P := fun X => ∀ q ∈ X, xsite i q = true) _ (fun _ => xleafM (xcase (P := fun X => ∀ q ∈ X, xsite 156 q = true) _ (fun _ => List.all_eq_true.mp S_156_0) (fun _ => List.all_eq_true.mp S_156_1))) (fun _ => xleafM (xcase (P := fun X => ∀ q ∈ X, xsite 157 q = true) _ (fun _ => List.all_eq_true.mp S_157_0) (fun _ => xcase (P := fun X => ∀ q ∈ X, xsite 157 q = true) _ (fun _ => List.all_eq_true.mp S_157_1) (fun _ => List.all_eq_true.mp S_157_2)))))))) (fun _ => xcase (P := fun X => ∀ q ∈ X, xsite i q = true) _ (fun _ => xcase (P := fun X => ∀ q ∈ X, xsite i q = true) _ (fun _ => xcase (P := fun X => ∀ q ∈ X, xsite i q = true) _ (fun _ => xleafM (List.all_eq_true.mp S_158_0)) (fun _ => xcase (P := fun X => ∀ q ∈ X, xsite i q = true) _ (fun _ => xleafM (List.all_eq_true.mp S_159_0)) (fun _ => xleafM (xcase (P := fun X => ∀ q ∈ X, xsite 160 q = true) _ (fun _ => List.all_eq_true.mp S_160_0) (fun _ => xcase (P := fun X => ∀ q ∈ X, xsite 160 q = true) _ (fun _ => List.all_eq_true.mp S_160_1) (fun _ => List.all_eq_true.mp S_160_2)))))) (fun _ => xcase (P := fun X => ∀ q ∈ X, xsite i q = true) _ (fun _ => xleafM (xcase (P := fun X => ∀ q ∈ X, xsite 161 q = true) _ (fun _ => xcase (P := fun X => ∀ q ∈ X, xsite 161 q = true) _ (fun _ => List.all_eq_true.mp S_161_0) (fun _ => List.all_eq_true.mp S_161_1)) (fun _ => xcase (P := fun X => ∀ q ∈ X, xsite 161 q = true) _ (fun _ => List.all_eq_true.mp S_161_2) (fun _ => List.all_eq_true.mp S_161_3)))) (fun _ => xcase (P := fun X => ∀ q ∈ X, xsite i q = true) _ (fun _ => xleafM (xcase (P := fun X => ∀ q ∈ X, xsite 162 q = true) _ (fun _ => List.all_eq_true.mp S_162_0) (fun _ => List.all_eq_true.mp S_162_1))) (fun _ => xleafM (xcase (P := fun X => ∀ q ∈ X, xsite 163 q = true) _ (fun _ => xcase (P := fun X => ∀ q ∈ X, xsite 163 q = true) _ (fun _ => List.all_eq_true.mp S_163_0) (fun _ => xcase (P := fun X => ∀ q ∈ X, xsite 163 q = true) _ (fun _ => List.all_eq_true.mp S_163_1) (fun _ => List.all_eq_true.mp S_163_2))) (fun _ => xcase (P := fun X => ∀ q ∈ X, xsite 163 q = true) _ (fun _ => xcase (P := fun X => ∀ q ∈ X, xsite 163 q = true) _ (fun _ => List.all_eq_true.mp S_163_3) (fun _ => List.all_eq_true.mp S_163_4)) (fun _ => xcase (P := fun X => ∀ q ∈ X, xsite 163 q = true) _ (fun _ => List.all_eq_true.mp S_163_5) (fun _ => List.all_eq_true.mp S_163_6)))))))) (fun _ => xcase (P := fun X => ∀ q ∈ X, xsite i q = true) _ (fun _ => xcase (P := fun X => ∀ q ∈ X, xsite i q = true) _ (fun _ => xleafM (List.all_eq_true.mp S_164_0)) (fun _ => xcase (P := fun X => ∀ q ∈ X, xsite i q = true) _ (fun _ => xleafM (List.all_eq_true.mp S_165_0)) (fun _ => xleafM (List.all_eq_true.mp S_166_0)))) (fun _ => xcase (P := fun X => ∀ q ∈ X, xsite i q = true) _ (fun _ => xleafM (List.all_eq_true.mp S_167_0)) (fun _ => xcase (P := fun X => ∀ q ∈ X, xsite i q = true) _ (fun _ => xleafM (xcase (P := fun X => ∀ q ∈ X, xsite 168 q = true) _ (fun _ => List.all_eq_true.mp S_168_0) (fun _ => List.all_eq_true.mp S_168_1))) (fun _ => xleafM (xcase (P := fun X => ∀ q ∈ X, xsite 169 q = true) _ (fun _ => xcase (P := fun X => ∀ q ∈ X, xsite 169 q = true) _ (fun _ => List.all_eq_true.mp S_169_0) (fun _ => List.all_eq_true.mp S_169_1)) (fun _ => xcase (P := fun X => ∀ q ∈ X, xsite 169 q = true) _ (fun _ => List.all_eq_true.mp S_169_2) (fun _ => List.all_eq_true.mp S_169_3))))))))) (fun _ => xcase (P := fun X => ∀ q ∈ X, xsite i q = true) _ (fun _ => xcase (P := fun X => ∀ q ∈ X, xsite i q = true) _ (fun _ => xcase (P := fun X => ∀ q ∈ X, xsite i q = true) _ (fun _ => xcase (P := fun X => ∀ q ∈ X, xsite i q = true) _ (fun _ => xleafM (List.all_eq_true.mp S_170_0)) (fun _ => xcase (P := fun X => ∀ q ∈ X, xsite i q = true) _ (fun _ => xleafM (List.all_eq_true.mp S_171_0)) (fun _ => xleafM (xcase (P := fun X => ∀ q ∈ X, xsite 172 q = true) _ (fun _ => List.all_eq_true.mp S_172_0) (fun _ => xcase (P := fun X => ∀ q ∈ X, xsite 172 q = true) _ (fun _ => List.all_eq_true.mp S_172_1) (fun _ => List.all_eq_true.mp S_172_2)))))) (fun _ => xcase (P := fun X => ∀ q ∈ X, xsite i q = true) _ (fun _ => xleafM (xcase (P := fun X => ∀ q ∈ X, xsite 173 q = true) _ (fun _ => xcase (P := fun X => ∀ q ∈ X, xsite 173 q = true) _ (fun _ => List.all_eq_true.mp S_173_0) (fun _ => List.all_eq_true.mp S_173_1)) (fun _ => xcase (P := fun X => ∀ q ∈ X, xsite 173 q = true) _ (fun _ => List.all_eq_true.mp S_173_2) (fun _ => xcase (P := fun X => ∀ q ∈ X, xsite 173 q = true) _ (fun _ => List.all_eq_true.mp S_173_3) (fun _ => List.all_eq_true.mp S_173_4))))) (fun _ => xcase (P := fun X => ∀ q ∈ X, xsite i q = true) _ (fun _ => xleafM (List.all_eq_true.mp S_174_0)) (fun _ => xleafM (List.all_eq_true.mp S_175_0))))) (fun _ => xcase (P := fun X => ∀ q ∈ X, xsite i q = true) _ (fun _ => xcase (P := fun X => ∀ q ∈ X, xsite i q = true) _ (fun _ => xleafM (xcase (P := fun X => ∀ q ∈ X, xsite 176 q = true) _ (fun _ => xcase (P := fun X => ∀ q ∈ X, xsite 176 q = true) _ (fun _ => List.all_eq_true.mp S_176_0) (fun _ => List.all_eq_true.mp S_176_1)) (fun _ => xcase (P := fun X => ∀ q ∈ X, xsite 176 q = true) _ (fun _ => List.all_eq_true.mp S_176_2) (fun _ => List.all_eq_true.mp S_176_3)))) (fun _ => xcase (P := fun X => ∀ q ∈ X, xsite i q = true) _ (fun _ => xleafM (List.all_eq_true.mp S_177_0)) (fun _ => xleafM (xcase (P := fun X => ∀ q ∈ X, xsite 178 q = true) _ (fun _ => List.all_eq_true.mp S_178_0) (fun _ => List.all_eq_true.mp S_178_1))))) (fun _ => xcase (P := fun X => ∀ q ∈ X, xsite i q = true) _ (fun _ => xleafM (xcase (P := fun X => ∀ q ∈ X, xsite 179 q = true) _ (fun _ => List.all_eq_true.mp S_179_0) (fun _ => List.all_eq_true.mp S_179_1))) (fun _ => xcase (P := fun X => ∀ q ∈ X, xsite i q = true) _ (fun _ => xleafM (List.all_eq_true.mp S_180_0)) (fun _ => xleafM (List.all_eq_true.mp S_181_0)))))) (fun _ => xcase (P := fun X => ∀ q ∈ X, xsite i q = true) _ (fun _ => xcase (P := fun X => ∀ q ∈ X, xsite i q = true) _ (fun _ => xcase (P := fun X => ∀ q ∈ X, xsite i q = true) _ (fun _ => xleafM (List.all_eq_true.mp S_182_0)) (fun _ => xcase (P := fun X => ∀ q ∈ X, xsite i q = true) _ (fun _ => xleafM (List.all_eq_true.mp S_183_0)) (fun _ => xleafM (List.all_eq_true.mp S_184_0)))) (fun _ => xcase (P := fun X => ∀ q ∈ X, xsite i q = true) _ (fun _ => xleafM (List.all_eq_true.mp S_185_0)) (fun _ => xcase (P := fun X => ∀ q ∈ X, xsite i q = true) _ (fun _ => xleafM (List.all_eq_true.mp S_186_0)) (fun _ => xleafM (List.all_eq_true.mp S_187_0))))) (fun _ => xcase (P := fun X => ∀ q ∈ X, xsite i q = true) _ (fun _ => xcase (P := fun X => ∀ q ∈ X, xsite i q = true) _ (fun _ => xleafM (List.all_eq_true.mp S_188_0)) (fun _ => xcase (P := fun X => ∀ q ∈ X, xsite i q = true) _ (fun _ => xleafM (List.all_eq_true.mp S_189_0)) (fun _ => xleafM (List.all_eq_true.mp S_190_0)))) (fun _ => xcase (P := fun X => ∀ q ∈ X, xsite i q = true) _ (fun _ => xcase (P := fun X => ∀ q ∈ X, xsite i q = true) _ (fun _ => xleafM (List.all_eq_true.mp S_191_0)) (fun _ => xleafM (List.all_eq_true.mp S_192_0))) (fun _ => xcase (P := fun X => ∀ q ∈ X, xsite i q = true) _ (fun _ => xleafM (List.all_eq_true.mp S_193_0)) (fun _ => xleafM (xcase (P := fun X => ∀ q ∈ X, xsite 194 q = true) _ (fun _ => xcase (P := fun X => ∀ q ∈ X, xsite 194 q = true) _ (fun _ => xcase (P := fun X => ∀ q ∈ X, xsite 194 q = true) _ (fun _ => xcase (P := fun X => ∀ q ∈ X, xsite 194 q = true) _ (fun _ => xcase (P := fun X => ∀ q ∈ X, xsite 194 q = true) _ (fun _ => List.all_eq_true.mp S_194_0) (fun _ => List.all_eq_true.mp S_194_1)) (fun _ => xcase (P := fun X => ∀ q ∈ X, xsite 194 q = true) _ (fun _ => List.all_eq_true.mp S_194_2) (fun _ => List.all_eq_true.mp S_194_3))) (fun _ => xcase (P := fun X => ∀ q ∈ X, xsite 194 q = true) _ (fun _ => xcase (P := fun X => ∀ q ∈ X, xsite 194 q = true) _ (fun _ => List.all_eq_true.mp S_194_4) (fun _ => List.all_eq_true.mp S_194_5)) (fun _ => xcase (P := fun X => ∀ q ∈ X, xsite 194 q = true) _ (fun _ => List.all_eq_true.mp S_194_6) (fun _ => List.all_eq_true.mp S_194_7)))) (fun _ => xcase (P := fun X => ∀ q ∈ X, xsite 194 q = true) _ (fun _ => xcase (P := fun X => ∀ q ∈ X, xsite 194 q = true) _ (fun _ => xcase (P := fun X => ∀ q ∈ X, xsite 194 q = true) _ (fun _ => List.all_eq_true.mp S_194_8) (fun _ => List.all_eq_true.mp S_194_9)) (fun _ => xcase (P := fun X => ∀ q ∈ X, xsite 194 q = true) _ (fun _ => List.all_eq_true.mp S_194_10) (fun _ => List.all_eq_true.mp S_194_11))) (fun _ => xcase (P := fun X => ∀ q ∈ X, xsite 194 q = true) _ (fun _ => xcase (P := fun X => ∀ q ∈ X, xsite 194 q = true) _ (fun _ => List.all_eq_true.mp S_194_12) (fun _ => List.all_eq_true.mp S_194_13)) (fun _ => xcase (P := fun X => ∀ q ∈ X, xsite 194 q = true) _ (fun _ => List.all_eq_true.mp S_194_14) (fun _ => List.all_eq_true.mp S_194_15))))) (fun _ => xcase (P := fun X => ∀ q ∈ X, xsite 194 q = true) _ (fun _ => xcase (P := fun X => ∀ q ∈ X, xsite 194 q = true) _ (fun _ => xcase (P := fun X => ∀ q ∈ X, xsite 194 q = true) _ (fun _ => xcase (P := fun X => ∀ q ∈ X, xsite 194 q = true) _ (fun _ => List.all_eq_true.mp S_194_16) (fun _ => List.all_eq_true.mp S_194_17)) (fun _ => xcase (P := fun X => ∀ q ∈ X, xsite 194 q = true) _ (fun _ => List.all_eq_true.mp S_194_18) (fun _ => List.all_eq_true.mp S_194_19))) (fun _ => xcase (P := fun X => ∀ q ∈ X, xsite 194 q = true) _ (fun _ => xcase (P := fun X => ∀ q ∈ X, xsite 194 q = true) _ (fun _ => List.all_eq_true.mp S_194_20) (fun _ => List.all_eq_true.mp S_194_21)) (fun _ => xcase (P := fun X => ∀ q ∈ X, xsite 194 q = true) _ (fun _ => List.all_eq_true.mp S_194_22) (fun _ => List.all_eq_true.mp S_194_23)))) (fun _ => xcase (P := fun X => ∀ q ∈ X, xsite 194 q = true) _ (fun _ => xcase (P := fun X => ∀ q ∈ X, xsite 194 q = true) _ (fun _ => xcase (P := fun X => ∀ q ∈ X, xsite 194 q = true) _ (fun _ => List.all_eq_true.mp S_194_24) (fun _ => List.all_eq_true.mp S_194_25)) (fun _ => xcase (P := fun X => ∀ q ∈ X, xsite 194 q = true) _ (fun _ => List.all_eq_true.mp S_194_26) (fun _ => List.all_eq_true.mp S_194_27))) (fun _ => xcase (P := fun X => ∀ q ∈ X, xsite 194 q = true) _ (fun _ => xcase (P := fun X => ∀ q ∈ X, xsite 194 q = true) _ (fun _ => List.all_eq_true.mp S_194_28) (fun _ => List.all_eq_true.mp S_194_29)) (fun _ => xcase (P := fun X => ∀ q ∈ X, xsite 194 q = true) _ (fun _ => List.all_eq_true.mp S_194_30) (fun _ => xcase (P := fun X => ∀ q ∈ X, xsite 194 q = true) _ (fun _ => List.all_eq_true.mp S_194_31) (fun _ => List.all_eq_true.mp S_194_32)))))))))))))))
theorem xsite_mem {mi pc x len E : Nat} (h : xtb mi pc = some (.new x, len)) (hx : xcd (xow mi) x = some E) (hE : E = 50 ∨ E = 51) : (mi, pc, E) ∈ xsites := by
  have h1 := xsite_all mi pc _ (xlk_mem _ _ _ h)
  unfold xsite at h1
  dsimp only at h1
  rw [hx] at h1
  rcases hE with rfl | rfl <;> simpa using h1
section XTW
variable {p : Program} {l : Launch} {e : Env} {R : Room} {s : State} {m : MethodId} {args : Array Value} {below : List Frame} {meth : Method} {c : Code} {U : State} {D : va_G}
set_option maxHeartbeats 2000000 in
theorem xthrow {mi pc x E ic sx u0 : Nat} {text : String} {ls : XL} {σ : XH} (K : XK XPP U D mi p R s m args meth c) (hl : l.stackTraces = false) (hzU : vx_Zq Bundle.tN "UNASSIGNED_STACK" Bundle.steD (fun q => U.heap.size ≤ q) U U.heap) (hzN : vx_Zq Bundle.tN "SUPPRESSED_SENTINEL" Bundle.listD (fun q => U.heap.size ≤ q) U U.heap)
    (ho : xow mi = 11) (hdp : 6 ≤ xdp mi) (hE : (E = 50 ∧ x = 129 ∧ ic = 133) ∨ (E = 51 ∧ x = 193 ∧ ic = 197)) (hst : (sx, text) ∈ xstrs) (d0 : decode (xcb mi) pc = .ok (.new x, 3)) (d3 : decode (xcb mi) (pc + 3) = .ok (.dup, 1))
    (d4 : (decode (xcb mi) (pc + 4) = .ok (.ldc sx, 2) ∧ decode (xcb mi) (pc + 6) = .ok (.invokespecial ic, 3) ∧ decode (xcb mi) (pc + 9) = .ok (.athrow, 1)) ∨ (decode (xcb mi) (pc + 4) = .ok (.ldc_w sx, 3) ∧ decode (xcb mi) (pc + 7) = .ok (.invokespecial ic, 3) ∧ decode (xcb mi) (pc + 10) = .ok (.athrow, 1)))
    (hex : ∀ x ∈ c.exceptionTable.toList, False) (hcap : σ.2.1 + 1 ≤ R.cells + s.heap.size ∧ σ.2.2.1 + 6 ≤ R.slots + u0) : XG U D mi p l e R s m args below meth c u0 (XQT U D below args s u0 E (σ.1, σ.2.1 + 1, σ.2.2.1 + 6, σ.2.2.2)) pc ls [] σ := by
  intro H locs la hR hL hlc hs hu
  obtain ⟨hx, hb, hml, hown, hts, -, hlk, -, hfr, hlo, hal, hK, hhp, hpp⟩ := K
  rw [ho] at hown
  have hown : s.vm.findClass "TaskTrees" = some m.cls := hown
  have hA : ∀ q : Nat, q < U.heap.size → ¬ (fun q => U.heap.size ≤ q) q → s.heap[q]? = U.heap[q]? := fun q h _ => hhp.2 q h
  have hU : vx_Zq Bundle.tN "UNASSIGNED_STACK" Bundle.steD (fun q => U.heap.size ≤ q) s s.heap := (hzU.kept hA).moved hal
  have hN : vx_Zq Bundle.tN "SUPPRESSED_SENTINEL" Bundle.listD (fun q => U.heap.size ≤ q) s s.heap := (hzN.kept hA).moved hal
  have hS : va_S (fun q => U.heap.size ≤ q) s.heap H locs := by
    refine ⟨by rw [hR.2.1]; exact hs, fun q h1 h2 => ?_, hlc⟩
    have h2 : q < U.heap.size := Nat.not_le.mp h2
    rw [hR.2.2.2.1 q h2, hhp.2 q h2]
  obtain ⟨sa, hsa⟩ := hpp.2.2.2.1 _ hst
  have hsz : H.size = σ.2.1 := hR.2.1
  have hxc : ∀ t : State, s.vm.Alike t.vm → t.heap.size = H.size + 1 → (∀ q : Nat, q < H.size → t.heap[q]? = H[q]?) → XCx U D E (σ.1, σ.2.1 + 1, σ.2.2.1 + 6, σ.2.2.2) (xen E) s t := fun t _ h2 h3 => ⟨rfl, hR.skip h2 h3⟩
  have hat : (∀ w ∈ vx_atS "TaskTrees" ic (xen E) xnm2, w.before args s = true) ∧ (∀ w ∈ Cond.classLink "TaskTrees" x (xen E) :: Cond.initialized (xen E) :: vx_atS "TaskTrees" ic (xen E) xnm2, vx_ot w = true) ∧ Cond.classLink "TaskTrees" x (xen E) ∈ xTs ∧ Cond.initialized (xen E) ∈ xTs := by
    have fin : ∀ L : List Cond, (∀ w ∈ L, vx_no w = true → goodWord w = true → w ∈ xTs) → L.all (fun w => !(vx_no w) || (goodWord w || decide (w ∈ xB))) = true → ∀ w ∈ L.filter vx_no, w.before args s = true := by
      intro L h1 h2 w hw
      obtain ⟨hw1, hw2⟩ := List.mem_filter.mp hw
      have h3 := List.all_eq_true.mp h2 w hw1
      rw [hw2] at h3
      cases hg : goodWord w with
      | true => exact hts _ (h1 w hw1 hw2 hg)
      | false =>
        rw [hg] at h3
        have h4 : w ∈ xB := by simpa using h3
        have h5 := hpp.2.2.1 w h4
        simp only [xB, List.mem_cons, List.not_mem_nil, or_false] at h4
        rcases h4 with rfl | rfl | rfl | rfl | rfl <;> exact va_Nw.use rfl h5
    rcases hE with ⟨rfl, rfl, rfl⟩ | ⟨rfl, rfl, rfl⟩
    · exact ⟨fin _ xg_50 xb_50, List.all_eq_true.mp xo_50, xk_50, xi_50⟩
    · exact ⟨fin _ xg_51 xb_51, List.all_eq_true.mp xo_51, xk_51, xi_51⟩
  obtain ⟨hat, hgood, hk, hini⟩ := hat
  have hcls : Bundle.fit (xen E) = true := by
    rcases hE with ⟨rfl, -⟩ | ⟨rfl, -⟩ <;> decide +kernel
  have hnames : ∀ n ∈ xnm2, Bundle.fit n = true := by decide +kernel
  rcases d4 with ⟨d4, d6, d9⟩ | ⟨d4, d6, d9⟩
  · exact vx_throwS (names := xnm2) hx hb hl hown hcls hnames (hts _ hk) (hts _ hini) hsa hat hgood hU hN hS (hL.1.trans hml.symm) d0 d3 d4 d6 d9 (fun z hz => absurd hz (fun q => hex z q)) (by show 2 + 3 < R.frames; omega) (by show 0 + (13 * (2 + 1) + 43) ≤ R.locals; omega) (by omega) (by omega) hlk hxc hlc (by show _ ≤ σ.2.1 + 1 - s.heap.size; omega) (by show _ ≤ σ.2.2.1 + 6 - u0; omega)
  · exact vx_throwSW (names := xnm2) hx hb hl hown hcls hnames (hts _ hk) (hts _ hini) hsa hat hgood hU hN hS (hL.1.trans hml.symm) d0 d3 d4 d6 d9 (fun z hz => absurd hz (fun q => hex z q)) (by show 2 + 3 < R.frames; omega) (by show 0 + (13 * (2 + 1) + 43) ≤ R.locals; omega) (by omega) (by omega) hlk hxc hlc (by show _ ≤ σ.2.1 + 1 - s.heap.size; omega) (by show _ ≤ σ.2.2.1 + 6 - u0; omega)
end XTW
set_option maxHeartbeats 4000000 in
theorem xts {l : Launch} {U : State} {D : va_G} (hl : l.stackTraces = false) (hzU : vx_Zq Bundle.tN "UNASSIGNED_STACK" Bundle.steD (fun q => U.heap.size ≤ q) U U.heap) (hzN : vx_Zq Bundle.tN "SUPPRESSED_SENTINEL" Bundle.listD (fun q => U.heap.size ≤ q) U U.heap) : XTs XPP l U D := by
  intro mi pc x len E ls σ p e R s m args below meth c u0 htb hx hE K hex hcap
  have h := xsite_mem htb hx hE
  simp only [xsites, List.mem_cons, List.not_mem_nil, or_false, Prod.mk.injEq] at h
  rcases h with ⟨rfl, rfl, rfl⟩ | ⟨rfl, rfl, rfl⟩ | ⟨rfl, rfl, rfl⟩ | ⟨rfl, rfl, rfl⟩ | ⟨rfl, rfl, rfl⟩ | ⟨rfl, rfl, rfl⟩ | ⟨rfl, rfl, rfl⟩ | ⟨rfl, rfl, rfl⟩ | ⟨rfl, rfl, rfl⟩ | ⟨rfl, rfl, rfl⟩ | ⟨rfl, rfl, rfl⟩ | ⟨rfl, rfl, rfl⟩ | ⟨rfl, rfl, rfl⟩ | ⟨rfl, rfl, rfl⟩ | ⟨rfl, rfl, rfl⟩
  · exact xthrow (x := 129) (ic := 133) (sx := 131) (text := "no such space") K hl hzU hzN rfl (by decide) (Or.inl ⟨rfl, rfl, rfl⟩) (by decide +kernel) (xst.1 99 13 _ _ rfl).1 (xst.1 99 16 _ _ rfl).1 (Or.inl ⟨(xst.1 99 17 _ _ rfl).1, (xst.1 99 19 _ _ rfl).1, (xst.1 99 22 _ _ rfl).1⟩) hex hcap
  · exact xthrow (x := 129) (ic := 133) (sx := 131) (text := "no such space") K hl hzU hzN rfl (by decide) (Or.inl ⟨rfl, rfl, rfl⟩) (by decide +kernel) (xst.1 100 13 _ _ rfl).1 (xst.1 100 16 _ _ rfl).1 (Or.inl ⟨(xst.1 100 17 _ _ rfl).1, (xst.1 100 19 _ _ rfl).1, (xst.1 100 22 _ _ rfl).1⟩) hex hcap
  · exact xthrow (x := 129) (ic := 133) (sx := 142) (text := "what is 0 to 7") K hl hzU hzN rfl (by decide) (Or.inl ⟨rfl, rfl, rfl⟩) (by decide +kernel) (xst.1 101 10 _ _ rfl).1 (xst.1 101 13 _ _ rfl).1 (Or.inl ⟨(xst.1 101 14 _ _ rfl).1, (xst.1 101 16 _ _ rfl).1, (xst.1 101 19 _ _ rfl).1⟩) hex hcap
  · exact xthrow (x := 129) (ic := 133) (sx := 170) (text := "what is 0 to 8") K hl hzU hzN rfl (by decide) (Or.inl ⟨rfl, rfl, rfl⟩) (by decide +kernel) (xst.1 102 126 _ _ rfl).1 (xst.1 102 129 _ _ rfl).1 (Or.inl ⟨(xst.1 102 130 _ _ rfl).1, (xst.1 102 132 _ _ rfl).1, (xst.1 102 135 _ _ rfl).1⟩) hex hcap
  · exact xthrow (x := 129) (ic := 133) (sx := 184) (text := "what is 0 to 3") K hl hzU hzN rfl (by decide) (Or.inl ⟨rfl, rfl, rfl⟩) (by decide +kernel) (xst.1 104 9 _ _ rfl).1 (xst.1 104 12 _ _ rfl).1 (Or.inl ⟨(xst.1 104 13 _ _ rfl).1, (xst.1 104 15 _ _ rfl).1, (xst.1 104 18 _ _ rfl).1⟩) hex hcap
  · exact xthrow (x := 193) (ic := 197) (sx := 195) (text := "no such max, most, weight or quota") K hl hzU hzN rfl (by decide) (Or.inr ⟨rfl, rfl, rfl⟩) (by decide +kernel) (xst.1 104 37 _ _ rfl).1 (xst.1 104 40 _ _ rfl).1 (Or.inl ⟨(xst.1 104 41 _ _ rfl).1, (xst.1 104 43 _ _ rfl).1, (xst.1 104 46 _ _ rfl).1⟩) hex hcap
  · exact xthrow (x := 129) (ic := 133) (sx := 170) (text := "what is 0 to 8") K hl hzU hzN rfl (by decide) (Or.inl ⟨rfl, rfl, rfl⟩) (by decide +kernel) (xst.1 105 10 _ _ rfl).1 (xst.1 105 13 _ _ rfl).1 (Or.inl ⟨(xst.1 105 14 _ _ rfl).1, (xst.1 105 16 _ _ rfl).1, (xst.1 105 19 _ _ rfl).1⟩) hex hcap
  · exact xthrow (x := 193) (ic := 197) (sx := 208) (text := "pages are 0 to 1000000") K hl hzU hzN rfl (by decide) (Or.inr ⟨rfl, rfl, rfl⟩) (by decide +kernel) (xst.1 106 10 _ _ rfl).1 (xst.1 106 13 _ _ rfl).1 (Or.inl ⟨(xst.1 106 14 _ _ rfl).1, (xst.1 106 16 _ _ rfl).1, (xst.1 106 19 _ _ rfl).1⟩) hex hcap
  · exact xthrow (x := 193) (ic := 197) (sx := 221) (text := "pages are 0 or more") K hl hzU hzN rfl (by decide) (Or.inr ⟨rfl, rfl, rfl⟩) (by decide +kernel) (xst.1 107 4 _ _ rfl).1 (xst.1 107 7 _ _ rfl).1 (Or.inl ⟨(xst.1 107 8 _ _ rfl).1, (xst.1 107 10 _ _ rfl).1, (xst.1 107 13 _ _ rfl).1⟩) hex hcap
  · exact xthrow (x := 193) (ic := 197) (sx := 208) (text := "pages are 0 to 1000000") K hl hzU hzN rfl (by decide) (Or.inr ⟨rfl, rfl, rfl⟩) (by decide +kernel) (xst.1 108 10 _ _ rfl).1 (xst.1 108 13 _ _ rfl).1 (Or.inl ⟨(xst.1 108 14 _ _ rfl).1, (xst.1 108 16 _ _ rfl).1, (xst.1 108 19 _ _ rfl).1⟩) hex hcap
  · exact xthrow (x := 193) (ic := 197) (sx := 236) (text := "badness is -10 to 10") K hl hzU hzN rfl (by decide) (Or.inr ⟨rfl, rfl, rfl⟩) (by decide +kernel) (xst.1 110 12 _ _ rfl).1 (xst.1 110 15 _ _ rfl).1 (Or.inl ⟨(xst.1 110 16 _ _ rfl).1, (xst.1 110 18 _ _ rfl).1, (xst.1 110 21 _ _ rfl).1⟩) hex hcap
  · exact xthrow (x := 193) (ic := 197) (sx := 241) (text := "ticks are 0 to 200") K hl hzU hzN rfl (by decide) (Or.inr ⟨rfl, rfl, rfl⟩) (by decide +kernel) (xst.1 111 11 _ _ rfl).1 (xst.1 111 14 _ _ rfl).1 (Or.inl ⟨(xst.1 111 15 _ _ rfl).1, (xst.1 111 17 _ _ rfl).1, (xst.1 111 20 _ _ rfl).1⟩) hex hcap
  · exact xthrow (x := 193) (ic := 197) (sx := 261) (text := "volumes are 0 to 9") K hl hzU hzN rfl (by decide) (Or.inr ⟨rfl, rfl, rfl⟩) (by decide +kernel) (xst.1 115 10 _ _ rfl).1 (xst.1 115 13 _ _ rfl).1 (Or.inr ⟨(xst.1 115 14 _ _ rfl).1, (xst.1 115 17 _ _ rfl).1, (xst.1 115 20 _ _ rfl).1⟩) hex hcap
  · exact xthrow (x := 129) (ic := 133) (sx := 296) (text := "no such view") K hl hzU hzN rfl (by decide) (Or.inl ⟨rfl, rfl, rfl⟩) (by decide +kernel) (xst.1 118 13 _ _ rfl).1 (xst.1 118 16 _ _ rfl).1 (Or.inr ⟨(xst.1 118 17 _ _ rfl).1, (xst.1 118 20 _ _ rfl).1, (xst.1 118 23 _ _ rfl).1⟩) hex hcap
  · exact xthrow (x := 129) (ic := 133) (sx := 307) (text := "what is 0 to 4") K hl hzU hzN rfl (by decide) (Or.inl ⟨rfl, rfl, rfl⟩) (by decide +kernel) (xst.1 119 9 _ _ rfl).1 (xst.1 119 12 _ _ rfl).1 (Or.inr ⟨(xst.1 119 13 _ _ rfl).1, (xst.1 119 16 _ _ rfl).1, (xst.1 119 19 _ _ rfl).1⟩) hex hcap
