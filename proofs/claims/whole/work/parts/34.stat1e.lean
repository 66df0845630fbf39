set_option maxRecDepth 100000 in
theorem C_194_4 : T_194_4.all (xchk 194) = true := by decide +kernel
set_option maxRecDepth 100000 in
theorem C_194_5 : T_194_5.all (xchk 194) = true := by decide +kernel
set_option maxRecDepth 100000 in
theorem C_194_6 : T_194_6.all (xchk 194) = true := by decide +kernel
set_option maxRecDepth 100000 in
theorem C_194_7 : T_194_7.all (xchk 194) = true := by decide +kernel
set_option maxRecDepth 100000 in
theorem C_194_8 : T_194_8.all (xchk 194) = true := by decide +kernel
set_option maxRecDepth 100000 in
theorem C_194_9 : T_194_9.all (xchk 194) = true := by decide +kernel
set_option maxRecDepth 100000 in
theorem C_194_10 : T_194_10.all (xchk 194) = true := by decide +kernel
set_option maxRecDepth 100000 in
theorem C_194_11 : T_194_11.all (xchk 194) = true := by decide +kernel
set_option maxRecDepth 100000 in
theorem C_194_12 : T_194_12.all (xchk 194) = true := by decide +kernel
set_option maxRecDepth 100000 in
theorem C_194_13 : T_194_13.all (xchk 194) = true := by decide +kernel
set_option maxRecDepth 100000 in
theorem C_194_14 : T_194_14.all (xchk 194) = true := by decide +kernel
set_option maxRecDepth 100000 in
theorem C_194_15 : T_194_15.all (xchk 194) = true := by decide +kernel
set_option maxRecDepth 100000 in
theorem C_194_16 : T_194_16.all (xchk 194) = true := by decide +kernel
set_option maxRecDepth 100000 in
theorem C_194_17 : T_194_17.all (xchk 194) = true := by decide +kernel
set_option maxRecDepth 100000 in
theorem C_194_18 : T_194_18.all (xchk 194) = true := by decide +kernel
set_option maxRecDepth 100000 in
theorem C_194_19 : T_194_19.all (xchk 194) = true := by decide +kernel
set_option maxRecDepth 100000 in
theorem C_194_20 : T_194_20.all (xchk 194) = true := by decide +kernel
set_option maxRecDepth 100000 in
theorem C_194_21 : T_194_21.all (xchk 194) = true := by decide +kernel
set_option maxRecDepth 100000 in
theorem C_194_22 : T_194_22.all (xchk 194) = true := by decide +kernel
set_option maxRecDepth 100000 in
theorem C_194_23 : T_194_23.all (xchk 194) = true := by decide +kernel
set_option maxRecDepth 100000 in
theorem C_194_24 : T_194_24.all (xchk 194) = true := by decide +kernel
set_option maxRecDepth 100000 in
theorem C_194_25 : T_194_25.all (xchk 194) = true := by decide +kernel
set_option maxRecDepth 100000 in
theorem C_194_26 : T_194_26.all (xchk 194) = true := by decide +kernel
set_option maxRecDepth 100000 in
theorem C_194_27 : T_194_27.all (xchk 194) = true := by decide +kernel
set_option maxRecDepth 100000 in
theorem C_194_28 : T_194_28.all (xchk 194) = true := by decide +kernel
set_option maxRecDepth 100000 in
theorem C_194_29 : T_194_29.all (xchk 194) = true := by decide +kernel
set_option maxRecDepth 100000 in
theorem C_194_30 : T_194_30.all (xchk 194) = true := by decide +kernel
set_option maxRecDepth 100000 in
theorem C_194_31 : T_194_31.all (xchk 194) = true := by decide +kernel
set_option maxRecDepth 100000 in
theorem C_194_32 : T_194_32.all (xchk 194) = true := by decide +kernel
