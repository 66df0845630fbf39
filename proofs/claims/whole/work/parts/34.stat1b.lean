set_option maxRecDepth 100000 in
theorem C_61_0 : T_61_0.all (xchk 61) = true := by decide +kernel
set_option maxRecDepth 100000 in
theorem C_62_0 : T_62_0.all (xchk 62) = true := by decide +kernel
set_option maxRecDepth 100000 in
theorem C_63_0 : T_63_0.all (xchk 63) = true := by decide +kernel
set_option maxRecDepth 100000 in
theorem C_64_0 : T_64_0.all (xchk 64) = true := by decide +kernel
set_option maxRecDepth 100000 in
theorem C_65_0 : T_65_0.all (xchk 65) = true := by decide +kernel
set_option maxRecDepth 100000 in
theorem C_66_0 : T_66_0.all (xchk 66) = true := by decide +kernel
set_option maxRecDepth 100000 in
theorem C_67_0 : T_67_0.all (xchk 67) = true := by decide +kernel
set_option maxRecDepth 100000 in
theorem C_68_0 : T_68_0.all (xchk 68) = true := by decide +kernel
set_option maxRecDepth 100000 in
theorem C_69_0 : T_69_0.all (xchk 69) = true := by decide +kernel
set_option maxRecDepth 100000 in
theorem C_70_0 : T_70_0.all (xchk 70) = true := by decide +kernel
set_option maxRecDepth 100000 in
theorem C_71_0 : T_71_0.all (xchk 71) = true := by decide +kernel
set_option maxRecDepth 100000 in
theorem C_72_0 : T_72_0.all (xchk 72) = true := by decide +kernel
set_option maxRecDepth 100000 in
theorem C_73_0 : T_73_0.all (xchk 73) = true := by decide +kernel
set_option maxRecDepth 100000 in
theorem C_74_0 : T_74_0.all (xchk 74) = true := by decide +kernel
set_option maxRecDepth 100000 in
theorem C_75_0 : T_75_0.all (xchk 75) = true := by decide +kernel
set_option maxRecDepth 100000 in
theorem C_76_0 : T_76_0.all (xchk 76) = true := by decide +kernel
set_option maxRecDepth 100000 in
theorem C_77_0 : T_77_0.all (xchk 77) = true := by decide +kernel
set_option maxRecDepth 100000 in
theorem C_78_0 : T_78_0.all (xchk 78) = true := by decide +kernel
set_option maxRecDepth 100000 in
theorem C_78_1 : T_78_1.all (xchk 78) = true := by decide +kernel
set_option maxRecDepth 100000 in
theorem C_79_0 : T_79_0.all (xchk 79) = true := by decide +kernel
set_option maxRecDepth 100000 in
theorem C_80_0 : T_80_0.all (xchk 80) = true := by decide +kernel
set_option maxRecDepth 100000 in
theorem C_81_0 : T_81_0.all (xchk 81) = true := by decide +kernel
set_option maxRecDepth 100000 in
theorem C_82_0 : T_82_0.all (xchk 82) = true := by decide +kernel
set_option maxRecDepth 100000 in
theorem C_83_0 : T_83_0.all (xchk 83) = true := by decide +kernel
set_option maxRecDepth 100000 in
theorem C_84_0 : T_84_0.all (xchk 84) = true := by decide +kernel
set_option maxRecDepth 100000 in
theorem C_84_1 : T_84_1.all (xchk 84) = true := by decide +kernel
set_option maxRecDepth 100000 in
theorem C_85_0 : T_85_0.all (xchk 85) = true := by decide +kernel
set_option maxRecDepth 100000 in
theorem C_86_0 : T_86_0.all (xchk 86) = true := by decide +kernel
set_option maxRecDepth 100000 in
theorem C_86_1 : T_86_1.all (xchk 86) = true := by decide +kernel
set_option maxRecDepth 100000 in
theorem C_87_0 : T_87_0.all (xchk 87) = true := by decide +kernel
set_option maxRecDepth 100000 in
theorem C_88_0 : T_88_0.all (xchk 88) = true := by decide +kernel
set_option maxRecDepth 100000 in
theorem C_88_1 : T_88_1.all (xchk 88) = true := by decide +kernel
set_option maxRecDepth 100000 in
theorem C_89_0 : T_89_0.all (xchk 89) = true := by decide +kernel
set_option maxRecDepth 100000 in
theorem C_89_1 : T_89_1.all (xchk 89) = true := by decide +kernel
set_option maxRecDepth 100000 in
theorem C_90_0 : T_90_0.all (xchk 90) = true := by decide +kernel
set_option maxRecDepth 100000 in
theorem C_91_0 : T_91_0.all (xchk 91) = true := by decide +kernel
set_option maxRecDepth 100000 in
theorem C_92_0 : T_92_0.all (xchk 92) = true := by decide +kernel
set_option maxRecDepth 100000 in
theorem C_92_1 : T_92_1.all (xchk 92) = true := by decide +kernel
set_option maxRecDepth 100000 in
theorem C_93_0 : T_93_0.all (xchk 93) = true := by decide +kernel
set_option maxRecDepth 100000 in
theorem C_94_0 : T_94_0.all (xchk 94) = true := by decide +kernel
set_option maxRecDepth 100000 in
theorem C_94_1 : T_94_1.all (xchk 94) = true := by decide +kernel
set_option maxRecDepth 100000 in
theorem C_95_0 : T_95_0.all (xchk 95) = true := by decide +kernel
set_option maxRecDepth 100000 in
theorem C_95_1 : T_95_1.all (xchk 95) = true := by decide +kernel
set_option maxRecDepth 100000 in
theorem C_95_2 : T_95_2.all (xchk 95) = true := by decide +kernel
set_option maxRecDepth 100000 in
theorem C_96_0 : T_96_0.all (xchk 96) = true := by decide +kernel
set_option maxRecDepth 100000 in
theorem C_97_0 : T_97_0.all (xchk 97) = true := by decide +kernel
set_option maxRecDepth 100000 in
theorem C_98_0 : T_98_0.all (xchk 98) = true := by decide +kernel
set_option maxRecDepth 100000 in
theorem C_98_1 : T_98_1.all (xchk 98) = true := by decide +kernel
set_option maxRecDepth 100000 in
theorem C_99_0 : T_99_0.all (xchk 99) = true := by decide +kernel
set_option maxRecDepth 100000 in
theorem C_100_0 : T_100_0.all (xchk 100) = true := by decide +kernel
set_option maxRecDepth 100000 in
theorem C_101_0 : T_101_0.all (xchk 101) = true := by decide +kernel
set_option maxRecDepth 100000 in
theorem C_102_0 : T_102_0.all (xchk 102) = true := by decide +kernel
set_option maxRecDepth 100000 in
theorem C_102_1 : T_102_1.all (xchk 102) = true := by decide +kernel
set_option maxRecDepth 100000 in
theorem C_103_0 : T_103_0.all (xchk 103) = true := by decide +kernel
set_option maxRecDepth 100000 in
theorem C_104_0 : T_104_0.all (xchk 104) = true := by decide +kernel
set_option maxRecDepth 100000 in
theorem C_104_1 : T_104_1.all (xchk 104) = true := by decide +kernel
set_option maxRecDepth 100000 in
theorem C_105_0 : T_105_0.all (xchk 105) = true := by decide +kernel
set_option maxRecDepth 100000 in
theorem C_106_0 : T_106_0.all (xchk 106) = true := by decide +kernel
set_option maxRecDepth 100000 in
theorem C_106_1 : T_106_1.all (xchk 106) = true := by decide +kernel
set_option maxRecDepth 100000 in
theorem C_107_0 : T_107_0.all (xchk 107) = true := by decide +kernel
set_option maxRecDepth 100000 in
theorem C_108_0 : T_108_0.all (xchk 108) = true := by decide +kernel
set_option maxRecDepth 100000 in
theorem C_108_1 : T_108_1.all (xchk 108) = true := by decide +kernel
set_option maxRecDepth 100000 in
theorem C_109_0 : T_109_0.all (xchk 109) = true := by decide +kernel
set_option maxRecDepth 100000 in
theorem C_109_1 : T_109_1.all (xchk 109) = true := by decide +kernel
set_option maxRecDepth 100000 in
theorem C_110_0 : T_110_0.all (xchk 110) = true := by decide +kernel
set_option maxRecDepth 100000 in
theorem C_111_0 : T_111_0.all (xchk 111) = true := by decide +kernel
set_option maxRecDepth 100000 in
theorem C_112_0 : T_112_0.all (xchk 112) = true := by decide +kernel
set_option maxRecDepth 100000 in
theorem C_113_0 : T_113_0.all (xchk 113) = true := by decide +kernel
set_option maxRecDepth 100000 in
theorem C_114_0 : T_114_0.all (xchk 114) = true := by decide +kernel
set_option maxRecDepth 100000 in
theorem C_115_0 : T_115_0.all (xchk 115) = true := by decide +kernel
set_option maxRecDepth 100000 in
theorem C_115_1 : T_115_1.all (xchk 115) = true := by decide +kernel
set_option maxRecDepth 100000 in
theorem C_116_0 : T_116_0.all (xchk 116) = true := by decide +kernel
set_option maxRecDepth 100000 in
theorem C_117_0 : T_117_0.all (xchk 117) = true := by decide +kernel
set_option maxRecDepth 100000 in
theorem C_118_0 : T_118_0.all (xchk 118) = true := by decide +kernel
set_option maxRecDepth 100000 in
theorem C_119_0 : T_119_0.all (xchk 119) = true := by decide +kernel
