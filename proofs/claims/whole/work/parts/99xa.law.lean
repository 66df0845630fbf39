/-! the law's loop: its calls, one by one (printed) -/
def LT_0 (F : Nat) (l0 l1 l2 l3 : Option Nat) (l4 : Int32) (s0 : XH) : XR := ((xai s0 l0 (l4 + (xk 1))).bind fun v3 => (xai s0 l0 (l4 + (xk 2))).bind fun v4 => if v4 = 0 then ((xai s0 l0 (l4 + (xk 3))).bind fun v5 => if v5 = 0 then (xgd s0 l1 11 (xci (J11_fork F l1 v3 (xk 0) (xk 0) s0) fun v7 s6 => (xai s6 l0 (l4 + (xk 1))).bind fun v8 => (xai s6 l0 (l4 + (xk 2))).bind fun v9 => if v9 = 0 then ((xai s6 l0 (l4 + (xk 3))).bind fun v10 => if v10 = 0 then (xgd s6 l2 12 (xci (J12_fork F l2 v8 (xk 0) (xk 0) s6) fun v12 s11 => if v7 = v12 then (JL_law_23 F (l0) (l1) (l2) (l3) (l4 + xk 5) s11) else (if (xk 0) = 0 ∨ (xk 0) = 1 then some (.inl (some (.inl (xk 0))), s11) else none))) else (xgd s6 l2 12 (xci (J12_fork F l2 v8 (xk 0) (xk 1) s6) fun v14 s13 => if v7 = v14 then (JL_law_23 F (l0) (l1) (l2) (l3) (l4 + xk 5) s13) else (if (xk 0) = 0 ∨ (xk 0) = 1 then some (.inl (some (.inl (xk 0))), s13) else none)))) else ((xai s6 l0 (l4 + (xk 3))).bind fun v15 => if v15 = 0 then (xgd s6 l2 12 (xci (J12_fork F l2 v8 (xk 1) (xk 0) s6) fun v17 s16 => if v7 = v17 then (JL_law_23 F (l0) (l1) (l2) (l3) (l4 + xk 5) s16) else (if (xk 0) = 0 ∨ (xk 0) = 1 then some (.inl (some (.inl (xk 0))), s16) else none))) else (xgd s6 l2 12 (xci (J12_fork F l2 v8 (xk 1) (xk 1) s6) fun v19 s18 => if v7 = v19 then (JL_law_23 F (l0) (l1) (l2) (l3) (l4 + xk 5) s18) else (if (xk 0) = 0 ∨ (xk 0) = 1 then some (.inl (some (.inl (xk 0))), s18) else none)))))) else (xgd s0 l1 11 (xci (J11_fork F l1 v3 (xk 0) (xk 1) s0) fun v21 s20 => (xai s20 l0 (l4 + (xk 1))).bind fun v22 => (xai s20 l0 (l4 + (xk 2))).bind fun v23 => if v23 = 0 then ((xai s20 l0 (l4 + (xk 3))).bind fun v24 => if v24 = 0 then (xgd s20 l2 12 (xci (J12_fork F l2 v22 (xk 0) (xk 0) s20) fun v26 s25 => if v21 = v26 then (JL_law_23 F (l0) (l1) (l2) (l3) (l4 + xk 5) s25) else (if (xk 0) = 0 ∨ (xk 0) = 1 then some (.inl (some (.inl (xk 0))), s25) else none))) else (xgd s20 l2 12 (xci (J12_fork F l2 v22 (xk 0) (xk 1) s20) fun v28 s27 => if v21 = v28 then (JL_law_23 F (l0) (l1) (l2) (l3) (l4 + xk 5) s27) else (if (xk 0) = 0 ∨ (xk 0) = 1 then some (.inl (some (.inl (xk 0))), s27) else none)))) else ((xai s20 l0 (l4 + (xk 3))).bind fun v29 => if v29 = 0 then (xgd s20 l2 12 (xci (J12_fork F l2 v22 (xk 1) (xk 0) s20) fun v31 s30 => if v21 = v31 then (JL_law_23 F (l0) (l1) (l2) (l3) (l4 + xk 5) s30) else (if (xk 0) = 0 ∨ (xk 0) = 1 then some (.inl (some (.inl (xk 0))), s30) else none))) else (xgd s20 l2 12 (xci (J12_fork F l2 v22 (xk 1) (xk 1) s20) fun v33 s32 => if v21 = v33 then (JL_law_23 F (l0) (l1) (l2) (l3) (l4 + xk 5) s32) else (if (xk 0) = 0 ∨ (xk 0) = 1 then some (.inl (some (.inl (xk 0))), s32) else none))))))) else ((xai s0 l0 (l4 + (xk 3))).bind fun v34 => if v34 = 0 then (xgd s0 l1 11 (xci (J11_fork F l1 v3 (xk 1) (xk 0) s0) fun v36 s35 => (xai s35 l0 (l4 + (xk 1))).bind fun v37 => (xai s35 l0 (l4 + (xk 2))).bind fun v38 => if v38 = 0 then ((xai s35 l0 (l4 + (xk 3))).bind fun v39 => if v39 = 0 then (xgd s35 l2 12 (xci (J12_fork F l2 v37 (xk 0) (xk 0) s35) fun v41 s40 => if v36 = v41 then (JL_law_23 F (l0) (l1) (l2) (l3) (l4 + xk 5) s40) else (if (xk 0) = 0 ∨ (xk 0) = 1 then some (.inl (some (.inl (xk 0))), s40) else none))) else (xgd s35 l2 12 (xci (J12_fork F l2 v37 (xk 0) (xk 1) s35) fun v43 s42 => if v36 = v43 then (JL_law_23 F (l0) (l1) (l2) (l3) (l4 + xk 5) s42) else (if (xk 0) = 0 ∨ (xk 0) = 1 then some (.inl (some (.inl (xk 0))), s42) else none)))) else ((xai s35 l0 (l4 + (xk 3))).bind fun v44 => if v44 = 0 then (xgd s35 l2 12 (xci (J12_fork F l2 v37 (xk 1) (xk 0) s35) fun v46 s45 => if v36 = v46 then (JL_law_23 F (l0) (l1) (l2) (l3) (l4 + xk 5) s45) else (if (xk 0) = 0 ∨ (xk 0) = 1 then some (.inl (some (.inl (xk 0))), s45) else none))) else (xgd s35 l2 12 (xci (J12_fork F l2 v37 (xk 1) (xk 1) s35) fun v48 s47 => if v36 = v48 then (JL_law_23 F (l0) (l1) (l2) (l3) (l4 + xk 5) s47) else (if (xk 0) = 0 ∨ (xk 0) = 1 then some (.inl (some (.inl (xk 0))), s47) else none)))))) else (xgd s0 l1 11 (xci (J11_fork F l1 v3 (xk 1) (xk 1) s0) fun v50 s49 => (xai s49 l0 (l4 + (xk 1))).bind fun v51 => (xai s49 l0 (l4 + (xk 2))).bind fun v52 => if v52 = 0 then ((xai s49 l0 (l4 + (xk 3))).bind fun v53 => if v53 = 0 then (xgd s49 l2 12 (xci (J12_fork F l2 v51 (xk 0) (xk 0) s49) fun v55 s54 => if v50 = v55 then (JL_law_23 F (l0) (l1) (l2) (l3) (l4 + xk 5) s54) else (if (xk 0) = 0 ∨ (xk 0) = 1 then some (.inl (some (.inl (xk 0))), s54) else none))) else (xgd s49 l2 12 (xci (J12_fork F l2 v51 (xk 0) (xk 1) s49) fun v57 s56 => if v50 = v57 then (JL_law_23 F (l0) (l1) (l2) (l3) (l4 + xk 5) s56) else (if (xk 0) = 0 ∨ (xk 0) = 1 then some (.inl (some (.inl (xk 0))), s56) else none)))) else ((xai s49 l0 (l4 + (xk 3))).bind fun v58 => if v58 = 0 then (xgd s49 l2 12 (xci (J12_fork F l2 v51 (xk 1) (xk 0) s49) fun v60 s59 => if v50 = v60 then (JL_law_23 F (l0) (l1) (l2) (l3) (l4 + xk 5) s59) else (if (xk 0) = 0 ∨ (xk 0) = 1 then some (.inl (some (.inl (xk 0))), s59) else none))) else (xgd s49 l2 12 (xci (J12_fork F l2 v51 (xk 1) (xk 1) s49) fun v62 s61 => if v50 = v62 then (JL_law_23 F (l0) (l1) (l2) (l3) (l4 + xk 5) s61) else (if (xk 0) = 0 ∨ (xk 0) = 1 then some (.inl (some (.inl (xk 0))), s61) else none))))))))
def LT_1 (F : Nat) (l0 l1 l2 l3 : Option Nat) (l4 : Int32) (s0 : XH) : XR := ((xai s0 l0 (l4 + (xk 1))).bind fun v63 => xgd s0 l1 11 (xci (J11_exit F l1 v63 s0) fun v65 s64 => (xai s64 l0 (l4 + (xk 1))).bind fun v66 => xgd s64 l2 12 (xci (J12_exit F l2 v66 s64) fun v68 s67 => if v65 = v68 then (JL_law_23 F (l0) (l1) (l2) (l3) (l4 + xk 5) s67) else (if (xk 0) = 0 ∨ (xk 0) = 1 then some (.inl (some (.inl (xk 0))), s67) else none))))
def LT_2 (F : Nat) (l0 l1 l2 l3 : Option Nat) (l4 : Int32) (s0 : XH) : XR := ((xai s0 l0 (l4 + (xk 1))).bind fun v69 => xgd s0 l1 11 (xci (J11_reap F l1 v69 s0) fun v71 s70 => (xai s70 l0 (l4 + (xk 1))).bind fun v72 => xgd s70 l2 12 (xci (J12_reap F l2 v72 s70) fun v74 s73 => if v71 = v74 then (JL_law_23 F (l0) (l1) (l2) (l3) (l4 + xk 5) s73) else (if (xk 0) = 0 ∨ (xk 0) = 1 then some (.inl (some (.inl (xk 0))), s73) else none))))
def LT_3 (F : Nat) (l0 l1 l2 l3 : Option Nat) (l4 : Int32) (s0 : XH) : XR := ((xai s0 l0 (l4 + (xk 1))).bind fun v75 => (xai s0 l0 (l4 + (xk 2))).bind fun v76 => xgd s0 l1 11 (xci (J11_kill F l1 v75 v76 s0) fun v78 s77 => (xai s77 l0 (l4 + (xk 1))).bind fun v79 => (xai s77 l0 (l4 + (xk 2))).bind fun v80 => xgd s77 l2 12 (xci (J12_kill F l2 v79 v80 s77) fun v82 s81 => if v78 = v82 then (JL_law_23 F (l0) (l1) (l2) (l3) (l4 + xk 5) s81) else (if (xk 0) = 0 ∨ (xk 0) = 1 then some (.inl (some (.inl (xk 0))), s81) else none))))
def LT_4 (F : Nat) (l0 l1 l2 l3 : Option Nat) (l4 : Int32) (s0 : XH) : XR := ((xai s0 l0 (l4 + (xk 1))).bind fun v83 => (xai s0 l0 (l4 + (xk 2))).bind fun v84 => xci (JL_number F l1 v83 v84 l3 s0) fun v86 s85 => (xai s85 l0 (l4 + (xk 1))).bind fun v87 => (xai s85 l0 (l4 + (xk 2))).bind fun v88 => xgd s85 l2 12 (xci (J12_number F l2 v87 v88 s85) fun v90 s89 => xgd s89 l2 12 (xci (J12_thrown F l2 s89) fun v92 s91 => if v92 = v86 then (if v86 = 0 then ((xal s91 l3 (xk 0)).bind fun v93 => if (lg_cmp v93 (Int32.toInt64 v90)) = 0 then (JL_law_23 F (l0) (l1) (l2) (l3) (l4 + xk 5) s91) else (if (xk 0) = 0 ∨ (xk 0) = 1 then some (.inl (some (.inl (xk 0))), s91) else none)) else (JL_law_23 F (l0) (l1) (l2) (l3) (l4 + xk 5) s91)) else (if (xk 0) = 0 ∨ (xk 0) = 1 then some (.inl (some (.inl (xk 0))), s91) else none))))
def LT_5 (F : Nat) (l0 l1 l2 l3 : Option Nat) (l4 : Int32) (s0 : XH) : XR := ((xai s0 l0 (l4 + (xk 1))).bind fun v94 => (xai s0 l0 (l4 + (xk 2))).bind fun v95 => xci (JL_find F l1 v94 v95 l3 s0) fun v97 s96 => (xai s96 l0 (l4 + (xk 1))).bind fun v98 => (xai s96 l0 (l4 + (xk 2))).bind fun v99 => xgd s96 l2 12 (xci (J12_find F l2 v98 v99 s96) fun v101 s100 => xgd s100 l2 12 (xci (J12_thrown F l2 s100) fun v103 s102 => if v103 = v97 then (if v97 = 0 then ((xal s102 l3 (xk 0)).bind fun v104 => if (lg_cmp v104 (Int32.toInt64 v101)) = 0 then (JL_law_23 F (l0) (l1) (l2) (l3) (l4 + xk 5) s102) else (if (xk 0) = 0 ∨ (xk 0) = 1 then some (.inl (some (.inl (xk 0))), s102) else none)) else (JL_law_23 F (l0) (l1) (l2) (l3) (l4 + xk 5) s102)) else (if (xk 0) = 0 ∨ (xk 0) = 1 then some (.inl (some (.inl (xk 0))), s102) else none))))
def LT_6 (F : Nat) (l0 l1 l2 l3 : Option Nat) (l4 : Int32) (s0 : XH) : XR := ((xai s0 l0 (l4 + (xk 1))).bind fun v105 => (xai s0 l0 (l4 + (xk 2))).bind fun v106 => xci (JL_task F l1 v105 v106 l3 s0) fun v108 s107 => (xai s107 l0 (l4 + (xk 1))).bind fun v109 => (xai s107 l0 (l4 + (xk 2))).bind fun v110 => xgd s107 l2 12 (xci (J12_task F l2 v109 v110 s107) fun v112 s111 => xgd s111 l2 12 (xci (J12_thrown F l2 s111) fun v114 s113 => if v114 = v108 then (if v108 = 0 then ((xal s113 l3 (xk 0)).bind fun v115 => if (lg_cmp v115 (Int32.toInt64 v112)) = 0 then (JL_law_23 F (l0) (l1) (l2) (l3) (l4 + xk 5) s113) else (if (xk 0) = 0 ∨ (xk 0) = 1 then some (.inl (some (.inl (xk 0))), s113) else none)) else (JL_law_23 F (l0) (l1) (l2) (l3) (l4 + xk 5) s113)) else (if (xk 0) = 0 ∨ (xk 0) = 1 then some (.inl (some (.inl (xk 0))), s113) else none))))
def LT_7 (F : Nat) (l0 l1 l2 l3 : Option Nat) (l4 : Int32) (s0 : XH) : XR := ((xai s0 l0 (l4 + (xk 1))).bind fun v116 => xci (JL_count F l1 v116 l3 s0) fun v118 s117 => (xai s117 l0 (l4 + (xk 1))).bind fun v119 => xgd s117 l2 12 (xci (J12_count F l2 v119 s117) fun v121 s120 => xgd s120 l2 12 (xci (J12_thrown F l2 s120) fun v123 s122 => if v123 = v118 then (if v118 = 0 then ((xal s122 l3 (xk 0)).bind fun v124 => if (lg_cmp v124 (Int32.toInt64 v121)) = 0 then (JL_law_23 F (l0) (l1) (l2) (l3) (l4 + xk 5) s122) else (if (xk 0) = 0 ∨ (xk 0) = 1 then some (.inl (some (.inl (xk 0))), s122) else none)) else (JL_law_23 F (l0) (l1) (l2) (l3) (l4 + xk 5) s122)) else (if (xk 0) = 0 ∨ (xk 0) = 1 then some (.inl (some (.inl (xk 0))), s122) else none))))
def LT_8 (F : Nat) (l0 l1 l2 l3 : Option Nat) (l4 : Int32) (s0 : XH) : XR := ((xai s0 l0 (l4 + (xk 1))).bind fun v125 => xgd s0 l1 11 (xci (J11_group F l1 v125 s0) fun v127 s126 => (xai s126 l0 (l4 + (xk 1))).bind fun v128 => xgd s126 l2 12 (xci (J12_group F l2 v128 s126) fun v130 s129 => if v127 = v130 then (JL_law_23 F (l0) (l1) (l2) (l3) (l4 + xk 5) s129) else (if (xk 0) = 0 ∨ (xk 0) = 1 then some (.inl (some (.inl (xk 0))), s129) else none))))
def LT_9 (F : Nat) (l0 l1 l2 l3 : Option Nat) (l4 : Int32) (s0 : XH) : XR := ((xai s0 l0 (l4 + (xk 1))).bind fun v131 => (xai s0 l0 (l4 + (xk 2))).bind fun v132 => (xai s0 l0 (l4 + (xk 3))).bind fun v133 => xci (JL_set F l1 v131 v132 v133 l3 s0) fun v135 s134 => (xai s134 l0 (l4 + (xk 1))).bind fun v136 => (xai s134 l0 (l4 + (xk 2))).bind fun v137 => (xai s134 l0 (l4 + (xk 3))).bind fun v138 => xgd s134 l2 12 (xci (J12_set F l2 v136 v137 v138 s134) fun v140 s139 => xgd s139 l2 12 (xci (J12_thrown F l2 s139) fun v142 s141 => if v142 = v135 then (if v135 = 0 then ((xal s141 l3 (xk 0)).bind fun v143 => if (lg_cmp v143 (Int32.toInt64 v140)) = 0 then (JL_law_23 F (l0) (l1) (l2) (l3) (l4 + xk 5) s141) else (if (xk 0) = 0 ∨ (xk 0) = 1 then some (.inl (some (.inl (xk 0))), s141) else none)) else (JL_law_23 F (l0) (l1) (l2) (l3) (l4 + xk 5) s141)) else (if (xk 0) = 0 ∨ (xk 0) = 1 then some (.inl (some (.inl (xk 0))), s141) else none))))
def LT_10 (F : Nat) (l0 l1 l2 l3 : Option Nat) (l4 : Int32) (s0 : XH) : XR := ((xai s0 l0 (l4 + (xk 1))).bind fun v144 => (xai s0 l0 (l4 + (xk 2))).bind fun v145 => xci (JL_told F l1 v144 v145 l3 s0) fun v147 s146 => (xai s146 l0 (l4 + (xk 1))).bind fun v148 => (xai s146 l0 (l4 + (xk 2))).bind fun v149 => xgd s146 l2 12 (xci (J12_told F l2 v148 v149 s146) fun v151 s150 => xgd s150 l2 12 (xci (J12_thrown F l2 s150) fun v153 s152 => if v153 = v147 then (if v147 = 0 then ((xal s152 l3 (xk 0)).bind fun v154 => if (lg_cmp v154 (Int32.toInt64 v151)) = 0 then (JL_law_23 F (l0) (l1) (l2) (l3) (l4 + xk 5) s152) else (if (xk 0) = 0 ∨ (xk 0) = 1 then some (.inl (some (.inl (xk 0))), s152) else none)) else (JL_law_23 F (l0) (l1) (l2) (l3) (l4 + xk 5) s152)) else (if (xk 0) = 0 ∨ (xk 0) = 1 then some (.inl (some (.inl (xk 0))), s152) else none))))
def LT_11 (F : Nat) (l0 l1 l2 l3 : Option Nat) (l4 : Int32) (s0 : XH) : XR := ((xai s0 l0 (l4 + (xk 1))).bind fun v155 => (xai s0 l0 (l4 + (xk 2))).bind fun v156 => xci (JL_charge F l1 v155 v156 l3 s0) fun v158 s157 => (xai s157 l0 (l4 + (xk 1))).bind fun v159 => (xai s157 l0 (l4 + (xk 2))).bind fun v160 => xgd s157 l2 12 (xci (J12_charge F l2 v159 v160 s157) fun v162 s161 => xgd s161 l2 12 (xci (J12_thrown F l2 s161) fun v164 s163 => if v164 = v158 then (if v158 = 0 then ((xal s163 l3 (xk 0)).bind fun v165 => if (lg_cmp v165 (Int32.toInt64 v162)) = 0 then (JL_law_23 F (l0) (l1) (l2) (l3) (l4 + xk 5) s163) else (if (xk 0) = 0 ∨ (xk 0) = 1 then some (.inl (some (.inl (xk 0))), s163) else none)) else (JL_law_23 F (l0) (l1) (l2) (l3) (l4 + xk 5) s163)) else (if (xk 0) = 0 ∨ (xk 0) = 1 then some (.inl (some (.inl (xk 0))), s163) else none))))
def LT_12 (F : Nat) (l0 l1 l2 l3 : Option Nat) (l4 : Int32) (s0 : XH) : XR := ((xai s0 l0 (l4 + (xk 1))).bind fun v166 => (xai s0 l0 (l4 + (xk 2))).bind fun v167 => xci (JL_release F l1 v166 v167 l3 s0) fun v169 s168 => (xai s168 l0 (l4 + (xk 1))).bind fun v170 => (xai s168 l0 (l4 + (xk 2))).bind fun v171 => xgd s168 l2 12 (xci (J12_release F l2 v170 v171 s168) fun v173 s172 => xgd s172 l2 12 (xci (J12_thrown F l2 s172) fun v175 s174 => if v175 = v169 then (if v169 = 0 then ((xal s174 l3 (xk 0)).bind fun v176 => if (lg_cmp v176 (Int32.toInt64 v173)) = 0 then (JL_law_23 F (l0) (l1) (l2) (l3) (l4 + xk 5) s174) else (if (xk 0) = 0 ∨ (xk 0) = 1 then some (.inl (some (.inl (xk 0))), s174) else none)) else (JL_law_23 F (l0) (l1) (l2) (l3) (l4 + xk 5) s174)) else (if (xk 0) = 0 ∨ (xk 0) = 1 then some (.inl (some (.inl (xk 0))), s174) else none))))
def LT_13 (F : Nat) (l0 l1 l2 l3 : Option Nat) (l4 : Int32) (s0 : XH) : XR := ((xai s0 l0 (l4 + (xk 1))).bind fun v177 => (xai s0 l0 (l4 + (xk 2))).bind fun v178 => xci (JL_cache F l1 v177 v178 l3 s0) fun v180 s179 => (xai s179 l0 (l4 + (xk 1))).bind fun v181 => (xai s179 l0 (l4 + (xk 2))).bind fun v182 => xgd s179 l2 12 (xci (J12_cache F l2 v181 v182 s179) fun v184 s183 => xgd s183 l2 12 (xci (J12_thrown F l2 s183) fun v186 s185 => if v186 = v180 then (if v180 = 0 then ((xal s185 l3 (xk 0)).bind fun v187 => if (lg_cmp v187 (Int32.toInt64 v184)) = 0 then (JL_law_23 F (l0) (l1) (l2) (l3) (l4 + xk 5) s185) else (if (xk 0) = 0 ∨ (xk 0) = 1 then some (.inl (some (.inl (xk 0))), s185) else none)) else (JL_law_23 F (l0) (l1) (l2) (l3) (l4 + xk 5) s185)) else (if (xk 0) = 0 ∨ (xk 0) = 1 then some (.inl (some (.inl (xk 0))), s185) else none))))
def LT_14 (F : Nat) (l0 l1 l2 l3 : Option Nat) (l4 : Int32) (s0 : XH) : XR := ((xai s0 l0 (l4 + (xk 1))).bind fun v188 => (xai s0 l0 (l4 + (xk 2))).bind fun v189 => xgd s0 l1 11 (xci (J11_move F l1 v188 v189 s0) fun v191 s190 => (xai s190 l0 (l4 + (xk 1))).bind fun v192 => (xai s190 l0 (l4 + (xk 2))).bind fun v193 => xgd s190 l2 12 (xci (J12_move F l2 v192 v193 s190) fun v195 s194 => if v191 = v195 then (JL_law_23 F (l0) (l1) (l2) (l3) (l4 + xk 5) s194) else (if (xk 0) = 0 ∨ (xk 0) = 1 then some (.inl (some (.inl (xk 0))), s194) else none))))
def LT_15 (F : Nat) (l0 l1 l2 l3 : Option Nat) (l4 : Int32) (s0 : XH) : XR := ((xai s0 l0 (l4 + (xk 1))).bind fun v196 => (xai s0 l0 (l4 + (xk 2))).bind fun v197 => xci (JL_badness F l1 v196 v197 l3 s0) fun v199 s198 => (xai s198 l0 (l4 + (xk 1))).bind fun v200 => (xai s198 l0 (l4 + (xk 2))).bind fun v201 => xgd s198 l2 12 (xci (J12_badness F l2 v200 v201 s198) fun v203 s202 => xgd s202 l2 12 (xci (J12_thrown F l2 s202) fun v205 s204 => if v205 = v199 then (if v199 = 0 then ((xal s204 l3 (xk 0)).bind fun v206 => if (lg_cmp v206 (Int32.toInt64 v203)) = 0 then (JL_law_23 F (l0) (l1) (l2) (l3) (l4 + xk 5) s204) else (if (xk 0) = 0 ∨ (xk 0) = 1 then some (.inl (some (.inl (xk 0))), s204) else none)) else (JL_law_23 F (l0) (l1) (l2) (l3) (l4 + xk 5) s204)) else (if (xk 0) = 0 ∨ (xk 0) = 1 then some (.inl (some (.inl (xk 0))), s204) else none))))
def LT_16 (F : Nat) (l0 l1 l2 l3 : Option Nat) (l4 : Int32) (s0 : XH) : XR := ((xai s0 l0 (l4 + (xk 1))).bind fun v207 => xci (JL_ticks F l1 v207 l3 s0) fun v209 s208 => (xai s208 l0 (l4 + (xk 1))).bind fun v210 => xgd s208 l2 12 (xci (J12_ticks F l2 v210 s208) fun v212 s211 => xgd s211 l2 12 (xci (J12_thrown F l2 s211) fun v214 s213 => if v214 = v209 then (if v209 = 0 then ((xal s213 l3 (xk 0)).bind fun v215 => if (lg_cmp v215 (Int32.toInt64 v212)) = 0 then (JL_law_23 F (l0) (l1) (l2) (l3) (l4 + xk 5) s213) else (if (xk 0) = 0 ∨ (xk 0) = 1 then some (.inl (some (.inl (xk 0))), s213) else none)) else (JL_law_23 F (l0) (l1) (l2) (l3) (l4 + xk 5) s213)) else (if (xk 0) = 0 ∨ (xk 0) = 1 then some (.inl (some (.inl (xk 0))), s213) else none))))
def LT_17 (F : Nat) (l0 l1 l2 l3 : Option Nat) (l4 : Int32) (s0 : XH) : XR := ((xai s0 l0 (l4 + (xk 1))).bind fun v216 => (xai s0 l0 (l4 + (xk 2))).bind fun v217 => if v217 = 0 then (xgd s0 l1 11 (xci (J11_sleep F l1 v216 (xk 0) s0) fun v219 s218 => (xai s218 l0 (l4 + (xk 1))).bind fun v220 => (xai s218 l0 (l4 + (xk 2))).bind fun v221 => if v221 = 0 then (xgd s218 l2 12 (xci (J12_sleep F l2 v220 (xk 0) s218) fun v223 s222 => if v219 = v223 then (JL_law_23 F (l0) (l1) (l2) (l3) (l4 + xk 5) s222) else (if (xk 0) = 0 ∨ (xk 0) = 1 then some (.inl (some (.inl (xk 0))), s222) else none))) else (xgd s218 l2 12 (xci (J12_sleep F l2 v220 (xk 1) s218) fun v225 s224 => if v219 = v225 then (JL_law_23 F (l0) (l1) (l2) (l3) (l4 + xk 5) s224) else (if (xk 0) = 0 ∨ (xk 0) = 1 then some (.inl (some (.inl (xk 0))), s224) else none))))) else (xgd s0 l1 11 (xci (J11_sleep F l1 v216 (xk 1) s0) fun v227 s226 => (xai s226 l0 (l4 + (xk 1))).bind fun v228 => (xai s226 l0 (l4 + (xk 2))).bind fun v229 => if v229 = 0 then (xgd s226 l2 12 (xci (J12_sleep F l2 v228 (xk 0) s226) fun v231 s230 => if v227 = v231 then (JL_law_23 F (l0) (l1) (l2) (l3) (l4 + xk 5) s230) else (if (xk 0) = 0 ∨ (xk 0) = 1 then some (.inl (some (.inl (xk 0))), s230) else none))) else (xgd s226 l2 12 (xci (J12_sleep F l2 v228 (xk 1) s226) fun v233 s232 => if v227 = v233 then (JL_law_23 F (l0) (l1) (l2) (l3) (l4 + xk 5) s232) else (if (xk 0) = 0 ∨ (xk 0) = 1 then some (.inl (some (.inl (xk 0))), s232) else none))))))
def LT_18 (F : Nat) (l0 l1 l2 l3 : Option Nat) (l4 : Int32) (s0 : XH) : XR := ((xai s0 l0 (l4 + (xk 1))).bind fun v234 => xgd s0 l1 11 (xci (J11_ran F l1 v234 s0) fun v236 s235 => (xai s235 l0 (l4 + (xk 1))).bind fun v237 => xgd s235 l2 12 (xci (J12_ran F l2 v237 s235) fun v239 s238 => if v236 = v239 then (JL_law_23 F (l0) (l1) (l2) (l3) (l4 + xk 5) s238) else (if (xk 0) = 0 ∨ (xk 0) = 1 then some (.inl (some (.inl (xk 0))), s238) else none))))
def LT_19 (F : Nat) (l0 l1 l2 l3 : Option Nat) (l4 : Int32) (s0 : XH) : XR := ((xai s0 l0 (l4 + (xk 1))).bind fun v240 => if v240 = 0 then ((xai s0 l0 (l4 + (xk 2))).bind fun v241 => xgd s0 l1 11 (xcl (J11_time F l1 (xk 0) v241 s0) fun v243 s242 => (xai s242 l0 (l4 + (xk 1))).bind fun v244 => if v244 = 0 then ((xai s242 l0 (l4 + (xk 2))).bind fun v245 => xgd s242 l2 12 (xcl (J12_time F l2 (xk 0) v245 s242) fun v247 s246 => if (lg_cmp v243 v247) = 0 then (JL_law_23 F (l0) (l1) (l2) (l3) (l4 + xk 5) s246) else (if (xk 0) = 0 ∨ (xk 0) = 1 then some (.inl (some (.inl (xk 0))), s246) else none))) else ((xai s242 l0 (l4 + (xk 2))).bind fun v248 => xgd s242 l2 12 (xcl (J12_time F l2 (xk 1) v248 s242) fun v250 s249 => if (lg_cmp v243 v250) = 0 then (JL_law_23 F (l0) (l1) (l2) (l3) (l4 + xk 5) s249) else (if (xk 0) = 0 ∨ (xk 0) = 1 then some (.inl (some (.inl (xk 0))), s249) else none))))) else ((xai s0 l0 (l4 + (xk 2))).bind fun v251 => xgd s0 l1 11 (xcl (J11_time F l1 (xk 1) v251 s0) fun v253 s252 => (xai s252 l0 (l4 + (xk 1))).bind fun v254 => if v254 = 0 then ((xai s252 l0 (l4 + (xk 2))).bind fun v255 => xgd s252 l2 12 (xcl (J12_time F l2 (xk 0) v255 s252) fun v257 s256 => if (lg_cmp v253 v257) = 0 then (JL_law_23 F (l0) (l1) (l2) (l3) (l4 + xk 5) s256) else (if (xk 0) = 0 ∨ (xk 0) = 1 then some (.inl (some (.inl (xk 0))), s256) else none))) else ((xai s252 l0 (l4 + (xk 2))).bind fun v258 => xgd s252 l2 12 (xcl (J12_time F l2 (xk 1) v258 s252) fun v260 s259 => if (lg_cmp v253 v260) = 0 then (JL_law_23 F (l0) (l1) (l2) (l3) (l4 + xk 5) s259) else (if (xk 0) = 0 ∨ (xk 0) = 1 then some (.inl (some (.inl (xk 0))), s259) else none))))))
def LT_20 (F : Nat) (l0 l1 l2 l3 : Option Nat) (l4 : Int32) (s0 : XH) : XR := ((xai s0 l0 (l4 + (xk 1))).bind fun v261 => (xai s0 l0 (l4 + (xk 2))).bind fun v262 => (xai s0 l0 (l4 + (xk 3))).bind fun v263 => (xai s0 l0 (l4 + (xk 4))).bind fun v264 => if v264 = 0 then (xci (JL_mount F l1 v261 v262 v263 (xk 0) l3 s0) fun v266 s265 => (xai s265 l0 (l4 + (xk 1))).bind fun v267 => (xai s265 l0 (l4 + (xk 2))).bind fun v268 => (xai s265 l0 (l4 + (xk 3))).bind fun v269 => (xai s265 l0 (l4 + (xk 4))).bind fun v270 => if v270 = 0 then (xgd s265 l2 12 (xci (J12_mount F l2 v267 v268 v269 (xk 0) s265) fun v272 s271 => xgd s271 l2 12 (xci (J12_thrown F l2 s271) fun v274 s273 => if v274 = v266 then (if v266 = 0 then ((xal s273 l3 (xk 0)).bind fun v275 => if (lg_cmp v275 (Int32.toInt64 v272)) = 0 then (JL_law_23 F (l0) (l1) (l2) (l3) (l4 + xk 5) s273) else (if (xk 0) = 0 ∨ (xk 0) = 1 then some (.inl (some (.inl (xk 0))), s273) else none)) else (JL_law_23 F (l0) (l1) (l2) (l3) (l4 + xk 5) s273)) else (if (xk 0) = 0 ∨ (xk 0) = 1 then some (.inl (some (.inl (xk 0))), s273) else none)))) else (xgd s265 l2 12 (xci (J12_mount F l2 v267 v268 v269 (xk 1) s265) fun v277 s276 => xgd s276 l2 12 (xci (J12_thrown F l2 s276) fun v279 s278 => if v279 = v266 then (if v266 = 0 then ((xal s278 l3 (xk 0)).bind fun v280 => if (lg_cmp v280 (Int32.toInt64 v277)) = 0 then (JL_law_23 F (l0) (l1) (l2) (l3) (l4 + xk 5) s278) else (if (xk 0) = 0 ∨ (xk 0) = 1 then some (.inl (some (.inl (xk 0))), s278) else none)) else (JL_law_23 F (l0) (l1) (l2) (l3) (l4 + xk 5) s278)) else (if (xk 0) = 0 ∨ (xk 0) = 1 then some (.inl (some (.inl (xk 0))), s278) else none))))) else (xci (JL_mount F l1 v261 v262 v263 (xk 1) l3 s0) fun v282 s281 => (xai s281 l0 (l4 + (xk 1))).bind fun v283 => (xai s281 l0 (l4 + (xk 2))).bind fun v284 => (xai s281 l0 (l4 + (xk 3))).bind fun v285 => (xai s281 l0 (l4 + (xk 4))).bind fun v286 => if v286 = 0 then (xgd s281 l2 12 (xci (J12_mount F l2 v283 v284 v285 (xk 0) s281) fun v288 s287 => xgd s287 l2 12 (xci (J12_thrown F l2 s287) fun v290 s289 => if v290 = v282 then (if v282 = 0 then ((xal s289 l3 (xk 0)).bind fun v291 => if (lg_cmp v291 (Int32.toInt64 v288)) = 0 then (JL_law_23 F (l0) (l1) (l2) (l3) (l4 + xk 5) s289) else (if (xk 0) = 0 ∨ (xk 0) = 1 then some (.inl (some (.inl (xk 0))), s289) else none)) else (JL_law_23 F (l0) (l1) (l2) (l3) (l4 + xk 5) s289)) else (if (xk 0) = 0 ∨ (xk 0) = 1 then some (.inl (some (.inl (xk 0))), s289) else none)))) else (xgd s281 l2 12 (xci (J12_mount F l2 v283 v284 v285 (xk 1) s281) fun v293 s292 => xgd s292 l2 12 (xci (J12_thrown F l2 s292) fun v295 s294 => if v295 = v282 then (if v282 = 0 then ((xal s294 l3 (xk 0)).bind fun v296 => if (lg_cmp v296 (Int32.toInt64 v293)) = 0 then (JL_law_23 F (l0) (l1) (l2) (l3) (l4 + xk 5) s294) else (if (xk 0) = 0 ∨ (xk 0) = 1 then some (.inl (some (.inl (xk 0))), s294) else none)) else (JL_law_23 F (l0) (l1) (l2) (l3) (l4 + xk 5) s294)) else (if (xk 0) = 0 ∨ (xk 0) = 1 then some (.inl (some (.inl (xk 0))), s294) else none))))))
def LT_21 (F : Nat) (l0 l1 l2 l3 : Option Nat) (l4 : Int32) (s0 : XH) : XR := ((xai s0 l0 (l4 + (xk 1))).bind fun v297 => (xai s0 l0 (l4 + (xk 2))).bind fun v298 => xgd s0 l1 11 (xci (J11_unmount F l1 v297 v298 s0) fun v300 s299 => (xai s299 l0 (l4 + (xk 1))).bind fun v301 => (xai s299 l0 (l4 + (xk 2))).bind fun v302 => xgd s299 l2 12 (xci (J12_unmount F l2 v301 v302 s299) fun v304 s303 => if v300 = v304 then (JL_law_23 F (l0) (l1) (l2) (l3) (l4 + xk 5) s303) else (if (xk 0) = 0 ∨ (xk 0) = 1 then some (.inl (some (.inl (xk 0))), s303) else none))))
def LT_22 (F : Nat) (l0 l1 l2 l3 : Option Nat) (l4 : Int32) (s0 : XH) : XR := ((xai s0 l0 (l4 + (xk 1))).bind fun v305 => (xai s0 l0 (l4 + (xk 2))).bind fun v306 => xgd s0 l1 11 (xci (J11_at F l1 v305 v306 s0) fun v308 s307 => (xai s307 l0 (l4 + (xk 1))).bind fun v309 => (xai s307 l0 (l4 + (xk 2))).bind fun v310 => xgd s307 l2 12 (xci (J12_at F l2 v309 v310 s307) fun v312 s311 => if v308 = v312 then (JL_law_23 F (l0) (l1) (l2) (l3) (l4 + xk 5) s311) else (if (xk 0) = 0 ∨ (xk 0) = 1 then some (.inl (some (.inl (xk 0))), s311) else none))))
def LT_23 (F : Nat) (l0 l1 l2 l3 : Option Nat) (l4 : Int32) (s0 : XH) : XR := ((xai s0 l0 (l4 + (xk 1))).bind fun v313 => (xai s0 l0 (l4 + (xk 2))).bind fun v314 => if v314 = 0 then (xci (JL_share F l1 v313 (xk 0) l3 s0) fun v316 s315 => (xai s315 l0 (l4 + (xk 1))).bind fun v317 => (xai s315 l0 (l4 + (xk 2))).bind fun v318 => if v318 = 0 then (xgd s315 l2 12 (xci (J12_share F l2 v317 (xk 0) s315) fun v320 s319 => xgd s319 l2 12 (xci (J12_thrown F l2 s319) fun v322 s321 => if v322 = v316 then (if v316 = 0 then ((xal s321 l3 (xk 0)).bind fun v323 => if (lg_cmp v323 (Int32.toInt64 v320)) = 0 then (JL_law_23 F (l0) (l1) (l2) (l3) (l4 + xk 5) s321) else (if (xk 0) = 0 ∨ (xk 0) = 1 then some (.inl (some (.inl (xk 0))), s321) else none)) else (JL_law_23 F (l0) (l1) (l2) (l3) (l4 + xk 5) s321)) else (if (xk 0) = 0 ∨ (xk 0) = 1 then some (.inl (some (.inl (xk 0))), s321) else none)))) else (xgd s315 l2 12 (xci (J12_share F l2 v317 (xk 1) s315) fun v325 s324 => xgd s324 l2 12 (xci (J12_thrown F l2 s324) fun v327 s326 => if v327 = v316 then (if v316 = 0 then ((xal s326 l3 (xk 0)).bind fun v328 => if (lg_cmp v328 (Int32.toInt64 v325)) = 0 then (JL_law_23 F (l0) (l1) (l2) (l3) (l4 + xk 5) s326) else (if (xk 0) = 0 ∨ (xk 0) = 1 then some (.inl (some (.inl (xk 0))), s326) else none)) else (JL_law_23 F (l0) (l1) (l2) (l3) (l4 + xk 5) s326)) else (if (xk 0) = 0 ∨ (xk 0) = 1 then some (.inl (some (.inl (xk 0))), s326) else none))))) else (xci (JL_share F l1 v313 (xk 1) l3 s0) fun v330 s329 => (xai s329 l0 (l4 + (xk 1))).bind fun v331 => (xai s329 l0 (l4 + (xk 2))).bind fun v332 => if v332 = 0 then (xgd s329 l2 12 (xci (J12_share F l2 v331 (xk 0) s329) fun v334 s333 => xgd s333 l2 12 (xci (J12_thrown F l2 s333) fun v336 s335 => if v336 = v330 then (if v330 = 0 then ((xal s335 l3 (xk 0)).bind fun v337 => if (lg_cmp v337 (Int32.toInt64 v334)) = 0 then (JL_law_23 F (l0) (l1) (l2) (l3) (l4 + xk 5) s335) else (if (xk 0) = 0 ∨ (xk 0) = 1 then some (.inl (some (.inl (xk 0))), s335) else none)) else (JL_law_23 F (l0) (l1) (l2) (l3) (l4 + xk 5) s335)) else (if (xk 0) = 0 ∨ (xk 0) = 1 then some (.inl (some (.inl (xk 0))), s335) else none)))) else (xgd s329 l2 12 (xci (J12_share F l2 v331 (xk 1) s329) fun v339 s338 => xgd s338 l2 12 (xci (J12_thrown F l2 s338) fun v341 s340 => if v341 = v330 then (if v330 = 0 then ((xal s340 l3 (xk 0)).bind fun v342 => if (lg_cmp v342 (Int32.toInt64 v339)) = 0 then (JL_law_23 F (l0) (l1) (l2) (l3) (l4 + xk 5) s340) else (if (xk 0) = 0 ∨ (xk 0) = 1 then some (.inl (some (.inl (xk 0))), s340) else none)) else (JL_law_23 F (l0) (l1) (l2) (l3) (l4 + xk 5) s340)) else (if (xk 0) = 0 ∨ (xk 0) = 1 then some (.inl (some (.inl (xk 0))), s340) else none))))))
def LT_24 (F : Nat) (l0 l1 l2 l3 : Option Nat) (l4 : Int32) (s0 : XH) : XR := ((xai s0 l0 (l4 + (xk 1))).bind fun v343 => (xai s0 l0 (l4 + (xk 2))).bind fun v344 => xci (JL_mounted F l1 v343 v344 l3 s0) fun v346 s345 => (xai s345 l0 (l4 + (xk 1))).bind fun v347 => (xai s345 l0 (l4 + (xk 2))).bind fun v348 => xgd s345 l2 12 (xci (J12_mounted F l2 v347 v348 s345) fun v350 s349 => xgd s349 l2 12 (xci (J12_thrown F l2 s349) fun v352 s351 => if v352 = v346 then (if v346 = 0 then ((xal s351 l3 (xk 0)).bind fun v353 => if (lg_cmp v353 (Int32.toInt64 v350)) = 0 then (JL_law_23 F (l0) (l1) (l2) (l3) (l4 + xk 5) s351) else (if (xk 0) = 0 ∨ (xk 0) = 1 then some (.inl (some (.inl (xk 0))), s351) else none)) else (JL_law_23 F (l0) (l1) (l2) (l3) (l4 + xk 5) s351)) else (if (xk 0) = 0 ∨ (xk 0) = 1 then some (.inl (some (.inl (xk 0))), s351) else none))))
def LSW (F : Nat) (l0 l1 l2 l3 : Option Nat) (l4 : Int32) (s0 : XH) (v2 : Int32) : XR := if (v2 &&& (xk 31)) = nI 0 then LT_0 F l0 l1 l2 l3 l4 s0 else if (v2 &&& (xk 31)) = nI 1 then LT_1 F l0 l1 l2 l3 l4 s0 else if (v2 &&& (xk 31)) = nI 2 then LT_2 F l0 l1 l2 l3 l4 s0 else if (v2 &&& (xk 31)) = nI 3 then LT_3 F l0 l1 l2 l3 l4 s0 else if (v2 &&& (xk 31)) = nI 4 then LT_4 F l0 l1 l2 l3 l4 s0 else if (v2 &&& (xk 31)) = nI 5 then LT_5 F l0 l1 l2 l3 l4 s0 else if (v2 &&& (xk 31)) = nI 6 then LT_6 F l0 l1 l2 l3 l4 s0 else if (v2 &&& (xk 31)) = nI 7 then LT_7 F l0 l1 l2 l3 l4 s0 else if (v2 &&& (xk 31)) = nI 8 then LT_8 F l0 l1 l2 l3 l4 s0 else if (v2 &&& (xk 31)) = nI 9 then LT_9 F l0 l1 l2 l3 l4 s0 else if (v2 &&& (xk 31)) = nI 10 then LT_10 F l0 l1 l2 l3 l4 s0 else if (v2 &&& (xk 31)) = nI 11 then LT_11 F l0 l1 l2 l3 l4 s0 else if (v2 &&& (xk 31)) = nI 12 then LT_12 F l0 l1 l2 l3 l4 s0 else if (v2 &&& (xk 31)) = nI 13 then LT_13 F l0 l1 l2 l3 l4 s0 else if (v2 &&& (xk 31)) = nI 14 then LT_14 F l0 l1 l2 l3 l4 s0 else if (v2 &&& (xk 31)) = nI 15 then LT_15 F l0 l1 l2 l3 l4 s0 else if (v2 &&& (xk 31)) = nI 16 then LT_16 F l0 l1 l2 l3 l4 s0 else if (v2 &&& (xk 31)) = nI 17 then LT_17 F l0 l1 l2 l3 l4 s0 else if (v2 &&& (xk 31)) = nI 18 then LT_18 F l0 l1 l2 l3 l4 s0 else if (v2 &&& (xk 31)) = nI 19 then LT_19 F l0 l1 l2 l3 l4 s0 else if (v2 &&& (xk 31)) = nI 20 then LT_20 F l0 l1 l2 l3 l4 s0 else if (v2 &&& (xk 31)) = nI 21 then LT_21 F l0 l1 l2 l3 l4 s0 else if (v2 &&& (xk 31)) = nI 22 then LT_22 F l0 l1 l2 l3 l4 s0 else if (v2 &&& (xk 31)) = nI 23 then LT_23 F l0 l1 l2 l3 l4 s0 else if (v2 &&& (xk 31)) = nI 24 then LT_24 F l0 l1 l2 l3 l4 s0 else (JL_law_23 F (l0) (l1) (l2) (l3) (l4 + xk 5) s0)
theorem lt23 (F : Nat) (l0 l1 l2 l3 : Option Nat) (l4 : Int32) (s0 : XH) : JL_law_23 (F + 1) l0 l1 l2 l3 l4 s0 = ((xln s0 l0).bind fun v1 => if (v1 - (xk 5)) < l4 then (if (xk 1) = 0 ∨ (xk 1) = 1 then some (.inl (some (.inl (xk 1))), s0) else none) else ((xai s0 l0 l4).bind fun v2 => LSW F l0 l1 l2 l3 l4 s0 v2)) := EL_law_23 F l0 l1 l2 l3 l4 s0
section LAW
variable {b N M Q L : Nat} {sc : Int → Int} {n i : Int} {e : EN} {C I : ST} {z : Nat × Nat × Nat × Nat} {x : Int64}
theorem op0 (hL : LSt b N M Q L sc n e C I z) (hs : ∀ j, -2147483648 ≤ sc j ∧ sc j < 2147483648) (hn : n ≤ 512) (L1 : L ≤ 2560) (i0 : 0 ≤ i) (i1 : i + 5 ≤ L) : ∃ e' C' I' z' x', LSt b N M Q L sc (n + 1) e' C' I' z' ∧ ∀ r, Ev (fun F => JL_law_23 F (some b) (some N) (some M) (some Q) (xk i + xk 5) (LG Q e' C' I' z' x')) r → Ev (fun F => LT_0 F (some b) (some N) (some M) (some Q) (xk i) (LG Q e C I z x)) r := by
  have hD := hL.2.1
  have r11 : rf e 11 0 = some N := by rw [rf_v (by decide), hD.2.2.2.1.2.2.2.1]
  have r12 : rf e 12 0 = some M := by rw [rf_v (by decide), hD.2.2.2.1.2.2.2.2]
  by_cases h2 : sc (i + 2) = 0
  · by_cases h3 : sc (i + 3) = 0
    · have hp : PR n e C I z (fun F s => J11_fork F (rf e 11 0) (xk (sc (i + 1))) (xk 0) (xk 0) s) (fun F s => J12_fork F (rf e 12 0) (xk (sc (i + 1))) (xk 0) (xk 0) s) := fork_pr hL.1 (by omega) (hs _).1 (hs _).2 (by decide) (by decide) (by decide) (by decide)
      rw [r11, r12] at hp
      obtain ⟨e', C', I', z', A, q1, q2, q3, q4, q5⟩ := lawA hL hp (fun o F σ h => RQ.run F _ _ _ _ _ h) (fun o F σ h => RQ.run F _ _ _ _ _ h)
      refine ⟨e', C', I', z', x, q1, fun r hr => ?_⟩
      unfold LT_0
      refine Ev.bs (rdc hD L1 i0 i1 (by decide) (by decide)) ?_
      refine Ev.bs (rdc hD L1 i0 i1 (by decide) (by decide)) ?_
      refine Ev.ite (fun _ => ?_) (fun q => absurd ((k0 (hs _).1 (hs _).2).mpr h2) q)
      refine Ev.bs (rdc hD L1 i0 i1 (by decide) (by decide)) ?_
      refine Ev.ite (fun _ => ?_) (fun q => absurd ((k0 (hs _).1 (hs _).2).mpr h3) q)
      refine Ev.xg (d11 hD) (Ev.kI (q3 x) ?_)
      refine Ev.bs (rdc q2 L1 i0 i1 (by decide) (by decide)) ?_
      refine Ev.bs (rdc q2 L1 i0 i1 (by decide) (by decide)) ?_
      refine Ev.ite (fun _ => ?_) (fun q => absurd ((k0 (hs _).1 (hs _).2).mpr h2) q)
      refine Ev.bs (rdc q2 L1 i0 i1 (by decide) (by decide)) ?_
      refine Ev.ite (fun _ => ?_) (fun q => absurd ((k0 (hs _).1 (hs _).2).mpr h3) q)
      refine Ev.xg (d12 q2) (Ev.kI (q4 x) ?_)
      exact Ev.ite (fun _ => hr) (fun q => absurd rfl q)
    · have hp : PR n e C I z (fun F s => J11_fork F (rf e 11 0) (xk (sc (i + 1))) (xk 0) (xk 1) s) (fun F s => J12_fork F (rf e 12 0) (xk (sc (i + 1))) (xk 0) (xk 1) s) := fork_pr hL.1 (by omega) (hs _).1 (hs _).2 (by decide) (by decide) (by decide) (by decide)
      rw [r11, r12] at hp
      obtain ⟨e', C', I', z', A, q1, q2, q3, q4, q5⟩ := lawA hL hp (fun o F σ h => RQ.run F _ _ _ _ _ h) (fun o F σ h => RQ.run F _ _ _ _ _ h)
      refine ⟨e', C', I', z', x, q1, fun r hr => ?_⟩
      unfold LT_0
      refine Ev.bs (rdc hD L1 i0 i1 (by decide) (by decide)) ?_
      refine Ev.bs (rdc hD L1 i0 i1 (by decide) (by decide)) ?_
      refine Ev.ite (fun _ => ?_) (fun q => absurd ((k0 (hs _).1 (hs _).2).mpr h2) q)
      refine Ev.bs (rdc hD L1 i0 i1 (by decide) (by decide)) ?_
      refine Ev.ite (fun q => absurd ((k0 (hs _).1 (hs _).2).mp q) h3) (fun _ => ?_)
      refine Ev.xg (d11 hD) (Ev.kI (q3 x) ?_)
      refine Ev.bs (rdc q2 L1 i0 i1 (by decide) (by decide)) ?_
      refine Ev.bs (rdc q2 L1 i0 i1 (by decide) (by decide)) ?_
      refine Ev.ite (fun _ => ?_) (fun q => absurd ((k0 (hs _).1 (hs _).2).mpr h2) q)
      refine Ev.bs (rdc q2 L1 i0 i1 (by decide) (by decide)) ?_
      refine Ev.ite (fun q => absurd ((k0 (hs _).1 (hs _).2).mp q) h3) (fun _ => ?_)
      refine Ev.xg (d12 q2) (Ev.kI (q4 x) ?_)
      exact Ev.ite (fun _ => hr) (fun q => absurd rfl q)
  · by_cases h3 : sc (i + 3) = 0
    · have hp : PR n e C I z (fun F s => J11_fork F (rf e 11 0) (xk (sc (i + 1))) (xk 1) (xk 0) s) (fun F s => J12_fork F (rf e 12 0) (xk (sc (i + 1))) (xk 1) (xk 0) s) := fork_pr hL.1 (by omega) (hs _).1 (hs _).2 (by decide) (by decide) (by decide) (by decide)
      rw [r11, r12] at hp
      obtain ⟨e', C', I', z', A, q1, q2, q3, q4, q5⟩ := lawA hL hp (fun o F σ h => RQ.run F _ _ _ _ _ h) (fun o F σ h => RQ.run F _ _ _ _ _ h)
      refine ⟨e', C', I', z', x, q1, fun r hr => ?_⟩
      unfold LT_0
      refine Ev.bs (rdc hD L1 i0 i1 (by decide) (by decide)) ?_
      refine Ev.bs (rdc hD L1 i0 i1 (by decide) (by decide)) ?_
      refine Ev.ite (fun q => absurd ((k0 (hs _).1 (hs _).2).mp q) h2) (fun _ => ?_)
      refine Ev.bs (rdc hD L1 i0 i1 (by decide) (by decide)) ?_
      refine Ev.ite (fun _ => ?_) (fun q => absurd ((k0 (hs _).1 (hs _).2).mpr h3) q)
      refine Ev.xg (d11 hD) (Ev.kI (q3 x) ?_)
      refine Ev.bs (rdc q2 L1 i0 i1 (by decide) (by decide)) ?_
      refine Ev.bs (rdc q2 L1 i0 i1 (by decide) (by decide)) ?_
      refine Ev.ite (fun q => absurd ((k0 (hs _).1 (hs _).2).mp q) h2) (fun _ => ?_)
      refine Ev.bs (rdc q2 L1 i0 i1 (by decide) (by decide)) ?_
      refine Ev.ite (fun _ => ?_) (fun q => absurd ((k0 (hs _).1 (hs _).2).mpr h3) q)
      refine Ev.xg (d12 q2) (Ev.kI (q4 x) ?_)
      exact Ev.ite (fun _ => hr) (fun q => absurd rfl q)
    · have hp : PR n e C I z (fun F s => J11_fork F (rf e 11 0) (xk (sc (i + 1))) (xk 1) (xk 1) s) (fun F s => J12_fork F (rf e 12 0) (xk (sc (i + 1))) (xk 1) (xk 1) s) := fork_pr hL.1 (by omega) (hs _).1 (hs _).2 (by decide) (by decide) (by decide) (by decide)
      rw [r11, r12] at hp
      obtain ⟨e', C', I', z', A, q1, q2, q3, q4, q5⟩ := lawA hL hp (fun o F σ h => RQ.run F _ _ _ _ _ h) (fun o F σ h => RQ.run F _ _ _ _ _ h)
      refine ⟨e', C', I', z', x, q1, fun r hr => ?_⟩
      unfold LT_0
      refine Ev.bs (rdc hD L1 i0 i1 (by decide) (by decide)) ?_
      refine Ev.bs (rdc hD L1 i0 i1 (by decide) (by decide)) ?_
      refine Ev.ite (fun q => absurd ((k0 (hs _).1 (hs _).2).mp q) h2) (fun _ => ?_)
      refine Ev.bs (rdc hD L1 i0 i1 (by decide) (by decide)) ?_
      refine Ev.ite (fun q => absurd ((k0 (hs _).1 (hs _).2).mp q) h3) (fun _ => ?_)
      refine Ev.xg (d11 hD) (Ev.kI (q3 x) ?_)
      refine Ev.bs (rdc q2 L1 i0 i1 (by decide) (by decide)) ?_
      refine Ev.bs (rdc q2 L1 i0 i1 (by decide) (by decide)) ?_
      refine Ev.ite (fun q => absurd ((k0 (hs _).1 (hs _).2).mp q) h2) (fun _ => ?_)
      refine Ev.bs (rdc q2 L1 i0 i1 (by decide) (by decide)) ?_
      refine Ev.ite (fun q => absurd ((k0 (hs _).1 (hs _).2).mp q) h3) (fun _ => ?_)
      refine Ev.xg (d12 q2) (Ev.kI (q4 x) ?_)
      exact Ev.ite (fun _ => hr) (fun q => absurd rfl q)
theorem op1 (hL : LSt b N M Q L sc n e C I z) (hs : ∀ j, -2147483648 ≤ sc j ∧ sc j < 2147483648) (hn : n ≤ 512) (L1 : L ≤ 2560) (i0 : 0 ≤ i) (i1 : i + 5 ≤ L) : ∃ e' C' I' z' x', LSt b N M Q L sc (n + 1) e' C' I' z' ∧ ∀ r, Ev (fun F => JL_law_23 F (some b) (some N) (some M) (some Q) (xk i + xk 5) (LG Q e' C' I' z' x')) r → Ev (fun F => LT_1 F (some b) (some N) (some M) (some Q) (xk i) (LG Q e C I z x)) r := by
  have hD := hL.2.1
  have r11 : rf e 11 0 = some N := by rw [rf_v (by decide), hD.2.2.2.1.2.2.2.1]
  have r12 : rf e 12 0 = some M := by rw [rf_v (by decide), hD.2.2.2.1.2.2.2.2]
  have hp : PR n e C I z (fun F s => J11_exit F (rf e 11 0) (xk (sc (i + 1))) s) (fun F s => J12_exit F (rf e 12 0) (xk (sc (i + 1))) s) := exit_pr hL.1 (hs _).1 (hs _).2
  rw [r11, r12] at hp
  obtain ⟨e', C', I', z', A, q1, q2, q3, q4, q5⟩ := lawA hL hp (fun o F σ h => RQ.run F _ _ _ _ _ h) (fun o F σ h => RQ.run F _ _ _ _ _ h)
  refine ⟨e', C', I', z', x, q1, fun r hr => ?_⟩
  unfold LT_1
  refine Ev.bs (rdc hD L1 i0 i1 (by decide) (by decide)) ?_
  refine Ev.xg (d11 hD) (Ev.kI (q3 x) ?_)
  refine Ev.bs (rdc q2 L1 i0 i1 (by decide) (by decide)) ?_
  refine Ev.xg (d12 q2) (Ev.kI (q4 x) ?_)
  exact Ev.ite (fun _ => hr) (fun q => absurd rfl q)
theorem op2 (hL : LSt b N M Q L sc n e C I z) (hs : ∀ j, -2147483648 ≤ sc j ∧ sc j < 2147483648) (hn : n ≤ 512) (L1 : L ≤ 2560) (i0 : 0 ≤ i) (i1 : i + 5 ≤ L) : ∃ e' C' I' z' x', LSt b N M Q L sc (n + 1) e' C' I' z' ∧ ∀ r, Ev (fun F => JL_law_23 F (some b) (some N) (some M) (some Q) (xk i + xk 5) (LG Q e' C' I' z' x')) r → Ev (fun F => LT_2 F (some b) (some N) (some M) (some Q) (xk i) (LG Q e C I z x)) r := by
  have hD := hL.2.1
  have r11 : rf e 11 0 = some N := by rw [rf_v (by decide), hD.2.2.2.1.2.2.2.1]
  have r12 : rf e 12 0 = some M := by rw [rf_v (by decide), hD.2.2.2.1.2.2.2.2]
  have hp : PR n e C I z (fun F s => J11_reap F (rf e 11 0) (xk (sc (i + 1))) s) (fun F s => J12_reap F (rf e 12 0) (xk (sc (i + 1))) s) := reap_pr hL.1 (hs _).1 (hs _).2
  rw [r11, r12] at hp
  obtain ⟨e', C', I', z', A, q1, q2, q3, q4, q5⟩ := lawA hL hp (fun o F σ h => RQ.run F _ _ _ _ _ h) (fun o F σ h => RQ.run F _ _ _ _ _ h)
  refine ⟨e', C', I', z', x, q1, fun r hr => ?_⟩
  unfold LT_2
  refine Ev.bs (rdc hD L1 i0 i1 (by decide) (by decide)) ?_
  refine Ev.xg (d11 hD) (Ev.kI (q3 x) ?_)
  refine Ev.bs (rdc q2 L1 i0 i1 (by decide) (by decide)) ?_
  refine Ev.xg (d12 q2) (Ev.kI (q4 x) ?_)
  exact Ev.ite (fun _ => hr) (fun q => absurd rfl q)
theorem op3 (hL : LSt b N M Q L sc n e C I z) (hs : ∀ j, -2147483648 ≤ sc j ∧ sc j < 2147483648) (hn : n ≤ 512) (L1 : L ≤ 2560) (i0 : 0 ≤ i) (i1 : i + 5 ≤ L) : ∃ e' C' I' z' x', LSt b N M Q L sc (n + 1) e' C' I' z' ∧ ∀ r, Ev (fun F => JL_law_23 F (some b) (some N) (some M) (some Q) (xk i + xk 5) (LG Q e' C' I' z' x')) r → Ev (fun F => LT_3 F (some b) (some N) (some M) (some Q) (xk i) (LG Q e C I z x)) r := by
  have hD := hL.2.1
  have r11 : rf e 11 0 = some N := by rw [rf_v (by decide), hD.2.2.2.1.2.2.2.1]
  have r12 : rf e 12 0 = some M := by rw [rf_v (by decide), hD.2.2.2.1.2.2.2.2]
  have hp : PR n e C I z (fun F s => J11_kill F (rf e 11 0) (xk (sc (i + 1))) (xk (sc (i + 2))) s) (fun F s => J12_kill F (rf e 12 0) (xk (sc (i + 1))) (xk (sc (i + 2))) s) := kill_pr hL.1 (hs _).1 (hs _).2 (hs _).1 (hs _).2
  rw [r11, r12] at hp
  obtain ⟨e', C', I', z', A, q1, q2, q3, q4, q5⟩ := lawA hL hp (fun o F σ h => RQ.run F _ _ _ _ _ h) (fun o F σ h => RQ.run F _ _ _ _ _ h)
  refine ⟨e', C', I', z', x, q1, fun r hr => ?_⟩
  unfold LT_3
  refine Ev.bs (rdc hD L1 i0 i1 (by decide) (by decide)) ?_
  refine Ev.bs (rdc hD L1 i0 i1 (by decide) (by decide)) ?_
  refine Ev.xg (d11 hD) (Ev.kI (q3 x) ?_)
  refine Ev.bs (rdc q2 L1 i0 i1 (by decide) (by decide)) ?_
  refine Ev.bs (rdc q2 L1 i0 i1 (by decide) (by decide)) ?_
  refine Ev.xg (d12 q2) (Ev.kI (q4 x) ?_)
  exact Ev.ite (fun _ => hr) (fun q => absurd rfl q)
theorem op4 (hL : LSt b N M Q L sc n e C I z) (hs : ∀ j, -2147483648 ≤ sc j ∧ sc j < 2147483648) (hn : n ≤ 512) (L1 : L ≤ 2560) (i0 : 0 ≤ i) (i1 : i + 5 ≤ L) : ∃ e' C' I' z' x', LSt b N M Q L sc (n + 1) e' C' I' z' ∧ ∀ r, Ev (fun F => JL_law_23 F (some b) (some N) (some M) (some Q) (xk i + xk 5) (LG Q e' C' I' z' x')) r → Ev (fun F => LT_4 F (some b) (some N) (some M) (some Q) (xk i) (LG Q e C I z x)) r := by
  have hD := hL.2.1
  have r11 : rf e 11 0 = some N := by rw [rf_v (by decide), hD.2.2.2.1.2.2.2.1]
  have r12 : rf e 12 0 = some M := by rw [rf_v (by decide), hD.2.2.2.1.2.2.2.2]
  have hp : PR n e C I z (fun F s => J11_number F (rf e 11 0) (xk (sc (i + 1))) (xk (sc (i + 2))) s) (fun F s => J12_number F (rf e 12 0) (xk (sc (i + 1))) (xk (sc (i + 2))) s) ∨ PT n e C I z 50 1 (fun F s => J11_number F (rf e 11 0) (xk (sc (i + 1))) (xk (sc (i + 2))) s) (fun F s => J12_number F (rf e 12 0) (xk (sc (i + 1))) (xk (sc (i + 2))) s) := number_pr hL.1 (hs _).1 (hs _).2 (hs _).1 (hs _).2
  rw [r11, r12] at hp
  have hp' : PR n e C I z (fun F s => J11_number F (some N) (xk (sc (i + 1))) (xk (sc (i + 2))) s) (fun F s => J12_number F (some M) (xk (sc (i + 1))) (xk (sc (i + 2))) s) ∨ ∃ E w, PT n e C I z E w (fun F s => J11_number F (some N) (xk (sc (i + 1))) (xk (sc (i + 2))) s) (fun F s => J12_number F (some M) (xk (sc (i + 1))) (xk (sc (i + 2))) s) ∧ (∀ q s, (fun e5 _ s3 => if e5 = 50 then (some (.inl (some (.inl (xk 1))), s3)) else none : Nat → Nat → XH → XR) E q s = some (.inl (some (.inl (xk w))), s)) ∧ (w = 1 ∨ w = 2) := by
    rcases hp with h | h
    · exact Or.inl h
    · exact Or.inr ⟨50, 1, h, fun q s => rfl, Or.inl rfl⟩
  obtain ⟨e', C', I', z', x', w, q1, q2, q3, q4⟩ := lawB (hd := fun e5 _ s3 => if e5 = 50 then (some (.inl (some (.inl (xk 1))), s3)) else none) (fc := (fun F s => J11_number F (some N) (xk (sc (i + 1))) (xk (sc (i + 2))) s)) (fr := (fun F s => J12_number F (some M) (xk (sc (i + 1))) (xk (sc (i + 2))) s)) (x := x) (i := i) hL hp' (fun o F σ h => RQ.run F _ _ _ _ _ h) (fun o F σ h => RQ.run F _ _ _ _ _ h)
  refine ⟨e', C', I', z', x', q1, fun r hr => ?_⟩
  unfold LT_4
  refine Ev.bs (rdc hD L1 i0 i1 (by decide) (by decide)) ?_
  refine Ev.bs (rdc hD L1 i0 i1 (by decide) (by decide)) ?_
  refine Ev.kI (Ev.step (fun F => EL_number F _ _ _ _ _) q3) ?_
  refine Ev.bs (rdc q2 L1 i0 i1 (by decide) (by decide)) ?_
  refine Ev.bs (rdc q2 L1 i0 i1 (by decide) (by decide)) ?_
  exact q4 r hr
theorem op5 (hL : LSt b N M Q L sc n e C I z) (hs : ∀ j, -2147483648 ≤ sc j ∧ sc j < 2147483648) (hn : n ≤ 512) (L1 : L ≤ 2560) (i0 : 0 ≤ i) (i1 : i + 5 ≤ L) : ∃ e' C' I' z' x', LSt b N M Q L sc (n + 1) e' C' I' z' ∧ ∀ r, Ev (fun F => JL_law_23 F (some b) (some N) (some M) (some Q) (xk i + xk 5) (LG Q e' C' I' z' x')) r → Ev (fun F => LT_5 F (some b) (some N) (some M) (some Q) (xk i) (LG Q e C I z x)) r := by
  have hD := hL.2.1
  have r11 : rf e 11 0 = some N := by rw [rf_v (by decide), hD.2.2.2.1.2.2.2.1]
  have r12 : rf e 12 0 = some M := by rw [rf_v (by decide), hD.2.2.2.1.2.2.2.2]
  have hp : PR n e C I z (fun F s => J11_find F (rf e 11 0) (xk (sc (i + 1))) (xk (sc (i + 2))) s) (fun F s => J12_find F (rf e 12 0) (xk (sc (i + 1))) (xk (sc (i + 2))) s) ∨ PT n e C I z 50 1 (fun F s => J11_find F (rf e 11 0) (xk (sc (i + 1))) (xk (sc (i + 2))) s) (fun F s => J12_find F (rf e 12 0) (xk (sc (i + 1))) (xk (sc (i + 2))) s) := find_pr hL.1 (hs _).1 (hs _).2 (hs _).1 (hs _).2
  rw [r11, r12] at hp
  have hp' : PR n e C I z (fun F s => J11_find F (some N) (xk (sc (i + 1))) (xk (sc (i + 2))) s) (fun F s => J12_find F (some M) (xk (sc (i + 1))) (xk (sc (i + 2))) s) ∨ ∃ E w, PT n e C I z E w (fun F s => J11_find F (some N) (xk (sc (i + 1))) (xk (sc (i + 2))) s) (fun F s => J12_find F (some M) (xk (sc (i + 1))) (xk (sc (i + 2))) s) ∧ (∀ q s, (fun e5 _ s3 => if e5 = 50 then (some (.inl (some (.inl (xk 1))), s3)) else none : Nat → Nat → XH → XR) E q s = some (.inl (some (.inl (xk w))), s)) ∧ (w = 1 ∨ w = 2) := by
    rcases hp with h | h
    · exact Or.inl h
    · exact Or.inr ⟨50, 1, h, fun q s => rfl, Or.inl rfl⟩
  obtain ⟨e', C', I', z', x', w, q1, q2, q3, q4⟩ := lawB (hd := fun e5 _ s3 => if e5 = 50 then (some (.inl (some (.inl (xk 1))), s3)) else none) (fc := (fun F s => J11_find F (some N) (xk (sc (i + 1))) (xk (sc (i + 2))) s)) (fr := (fun F s => J12_find F (some M) (xk (sc (i + 1))) (xk (sc (i + 2))) s)) (x := x) (i := i) hL hp' (fun o F σ h => RQ.run F _ _ _ _ _ h) (fun o F σ h => RQ.run F _ _ _ _ _ h)
  refine ⟨e', C', I', z', x', q1, fun r hr => ?_⟩
  unfold LT_5
  refine Ev.bs (rdc hD L1 i0 i1 (by decide) (by decide)) ?_
  refine Ev.bs (rdc hD L1 i0 i1 (by decide) (by decide)) ?_
  refine Ev.kI (Ev.step (fun F => EL_find F _ _ _ _ _) q3) ?_
  refine Ev.bs (rdc q2 L1 i0 i1 (by decide) (by decide)) ?_
  refine Ev.bs (rdc q2 L1 i0 i1 (by decide) (by decide)) ?_
  exact q4 r hr
theorem op6 (hL : LSt b N M Q L sc n e C I z) (hs : ∀ j, -2147483648 ≤ sc j ∧ sc j < 2147483648) (hn : n ≤ 512) (L1 : L ≤ 2560) (i0 : 0 ≤ i) (i1 : i + 5 ≤ L) : ∃ e' C' I' z' x', LSt b N M Q L sc (n + 1) e' C' I' z' ∧ ∀ r, Ev (fun F => JL_law_23 F (some b) (some N) (some M) (some Q) (xk i + xk 5) (LG Q e' C' I' z' x')) r → Ev (fun F => LT_6 F (some b) (some N) (some M) (some Q) (xk i) (LG Q e C I z x)) r := by
  have hD := hL.2.1
  have r11 : rf e 11 0 = some N := by rw [rf_v (by decide), hD.2.2.2.1.2.2.2.1]
  have r12 : rf e 12 0 = some M := by rw [rf_v (by decide), hD.2.2.2.1.2.2.2.2]
  have hp : PR n e C I z (fun F s => J11_task F (rf e 11 0) (xk (sc (i + 1))) (xk (sc (i + 2))) s) (fun F s => J12_task F (rf e 12 0) (xk (sc (i + 1))) (xk (sc (i + 2))) s) ∨ PT n e C I z 50 1 (fun F s => J11_task F (rf e 11 0) (xk (sc (i + 1))) (xk (sc (i + 2))) s) (fun F s => J12_task F (rf e 12 0) (xk (sc (i + 1))) (xk (sc (i + 2))) s) := task_pr hL.1 (hs _).1 (hs _).2 (hs _).1 (hs _).2
  rw [r11, r12] at hp
  have hp' : PR n e C I z (fun F s => J11_task F (some N) (xk (sc (i + 1))) (xk (sc (i + 2))) s) (fun F s => J12_task F (some M) (xk (sc (i + 1))) (xk (sc (i + 2))) s) ∨ ∃ E w, PT n e C I z E w (fun F s => J11_task F (some N) (xk (sc (i + 1))) (xk (sc (i + 2))) s) (fun F s => J12_task F (some M) (xk (sc (i + 1))) (xk (sc (i + 2))) s) ∧ (∀ q s, (fun e5 _ s3 => if e5 = 50 then (some (.inl (some (.inl (xk 1))), s3)) else none : Nat → Nat → XH → XR) E q s = some (.inl (some (.inl (xk w))), s)) ∧ (w = 1 ∨ w = 2) := by
    rcases hp with h | h
    · exact Or.inl h
    · exact Or.inr ⟨50, 1, h, fun q s => rfl, Or.inl rfl⟩
  obtain ⟨e', C', I', z', x', w, q1, q2, q3, q4⟩ := lawB (hd := fun e5 _ s3 => if e5 = 50 then (some (.inl (some (.inl (xk 1))), s3)) else none) (fc := (fun F s => J11_task F (some N) (xk (sc (i + 1))) (xk (sc (i + 2))) s)) (fr := (fun F s => J12_task F (some M) (xk (sc (i + 1))) (xk (sc (i + 2))) s)) (x := x) (i := i) hL hp' (fun o F σ h => RQ.run F _ _ _ _ _ h) (fun o F σ h => RQ.run F _ _ _ _ _ h)
  refine ⟨e', C', I', z', x', q1, fun r hr => ?_⟩
  unfold LT_6
  refine Ev.bs (rdc hD L1 i0 i1 (by decide) (by decide)) ?_
  refine Ev.bs (rdc hD L1 i0 i1 (by decide) (by decide)) ?_
  refine Ev.kI (Ev.step (fun F => EL_task F _ _ _ _ _) q3) ?_
  refine Ev.bs (rdc q2 L1 i0 i1 (by decide) (by decide)) ?_
  refine Ev.bs (rdc q2 L1 i0 i1 (by decide) (by decide)) ?_
  exact q4 r hr
theorem op7 (hL : LSt b N M Q L sc n e C I z) (hs : ∀ j, -2147483648 ≤ sc j ∧ sc j < 2147483648) (hn : n ≤ 512) (L1 : L ≤ 2560) (i0 : 0 ≤ i) (i1 : i + 5 ≤ L) : ∃ e' C' I' z' x', LSt b N M Q L sc (n + 1) e' C' I' z' ∧ ∀ r, Ev (fun F => JL_law_23 F (some b) (some N) (some M) (some Q) (xk i + xk 5) (LG Q e' C' I' z' x')) r → Ev (fun F => LT_7 F (some b) (some N) (some M) (some Q) (xk i) (LG Q e C I z x)) r := by
  have hD := hL.2.1
  have r11 : rf e 11 0 = some N := by rw [rf_v (by decide), hD.2.2.2.1.2.2.2.1]
  have r12 : rf e 12 0 = some M := by rw [rf_v (by decide), hD.2.2.2.1.2.2.2.2]
  have hp : PR n e C I z (fun F s => J11_count F (rf e 11 0) (xk (sc (i + 1))) s) (fun F s => J12_count F (rf e 12 0) (xk (sc (i + 1))) s) ∨ PT n e C I z 50 1 (fun F s => J11_count F (rf e 11 0) (xk (sc (i + 1))) s) (fun F s => J12_count F (rf e 12 0) (xk (sc (i + 1))) s) := count_pr hL.1 (hs _).1 (hs _).2
  rw [r11, r12] at hp
  have hp' : PR n e C I z (fun F s => J11_count F (some N) (xk (sc (i + 1))) s) (fun F s => J12_count F (some M) (xk (sc (i + 1))) s) ∨ ∃ E w, PT n e C I z E w (fun F s => J11_count F (some N) (xk (sc (i + 1))) s) (fun F s => J12_count F (some M) (xk (sc (i + 1))) s) ∧ (∀ q s, (fun e5 _ s3 => if e5 = 50 then (some (.inl (some (.inl (xk 1))), s3)) else none : Nat → Nat → XH → XR) E q s = some (.inl (some (.inl (xk w))), s)) ∧ (w = 1 ∨ w = 2) := by
    rcases hp with h | h
    · exact Or.inl h
    · exact Or.inr ⟨50, 1, h, fun q s => rfl, Or.inl rfl⟩
  obtain ⟨e', C', I', z', x', w, q1, q2, q3, q4⟩ := lawB (hd := fun e5 _ s3 => if e5 = 50 then (some (.inl (some (.inl (xk 1))), s3)) else none) (fc := (fun F s => J11_count F (some N) (xk (sc (i + 1))) s)) (fr := (fun F s => J12_count F (some M) (xk (sc (i + 1))) s)) (x := x) (i := i) hL hp' (fun o F σ h => RQ.run F _ _ _ _ _ h) (fun o F σ h => RQ.run F _ _ _ _ _ h)
  refine ⟨e', C', I', z', x', q1, fun r hr => ?_⟩
  unfold LT_7
  refine Ev.bs (rdc hD L1 i0 i1 (by decide) (by decide)) ?_
  refine Ev.kI (Ev.step (fun F => EL_count F _ _ _ _) q3) ?_
  refine Ev.bs (rdc q2 L1 i0 i1 (by decide) (by decide)) ?_
  exact q4 r hr
theorem op8 (hL : LSt b N M Q L sc n e C I z) (hs : ∀ j, -2147483648 ≤ sc j ∧ sc j < 2147483648) (hn : n ≤ 512) (L1 : L ≤ 2560) (i0 : 0 ≤ i) (i1 : i + 5 ≤ L) : ∃ e' C' I' z' x', LSt b N M Q L sc (n + 1) e' C' I' z' ∧ ∀ r, Ev (fun F => JL_law_23 F (some b) (some N) (some M) (some Q) (xk i + xk 5) (LG Q e' C' I' z' x')) r → Ev (fun F => LT_8 F (some b) (some N) (some M) (some Q) (xk i) (LG Q e C I z x)) r := by
  have hD := hL.2.1
  have r11 : rf e 11 0 = some N := by rw [rf_v (by decide), hD.2.2.2.1.2.2.2.1]
  have r12 : rf e 12 0 = some M := by rw [rf_v (by decide), hD.2.2.2.1.2.2.2.2]
  have hp : PR n e C I z (fun F s => J11_group F (rf e 11 0) (xk (sc (i + 1))) s) (fun F s => J12_group F (rf e 12 0) (xk (sc (i + 1))) s) := group_pr hL.1 (by omega) (hs _).1 (hs _).2
  rw [r11, r12] at hp
  obtain ⟨e', C', I', z', A, q1, q2, q3, q4, q5⟩ := lawA hL hp (fun o F σ h => RQ.run F _ _ _ _ _ h) (fun o F σ h => RQ.run F _ _ _ _ _ h)
  refine ⟨e', C', I', z', x, q1, fun r hr => ?_⟩
  unfold LT_8
  refine Ev.bs (rdc hD L1 i0 i1 (by decide) (by decide)) ?_
  refine Ev.xg (d11 hD) (Ev.kI (q3 x) ?_)
  refine Ev.bs (rdc q2 L1 i0 i1 (by decide) (by decide)) ?_
  refine Ev.xg (d12 q2) (Ev.kI (q4 x) ?_)
  exact Ev.ite (fun _ => hr) (fun q => absurd rfl q)
theorem op9 (hL : LSt b N M Q L sc n e C I z) (hs : ∀ j, -2147483648 ≤ sc j ∧ sc j < 2147483648) (hn : n ≤ 512) (L1 : L ≤ 2560) (i0 : 0 ≤ i) (i1 : i + 5 ≤ L) : ∃ e' C' I' z' x', LSt b N M Q L sc (n + 1) e' C' I' z' ∧ ∀ r, Ev (fun F => JL_law_23 F (some b) (some N) (some M) (some Q) (xk i + xk 5) (LG Q e' C' I' z' x')) r → Ev (fun F => LT_9 F (some b) (some N) (some M) (some Q) (xk i) (LG Q e C I z x)) r := by
  have hD := hL.2.1
  have r11 : rf e 11 0 = some N := by rw [rf_v (by decide), hD.2.2.2.1.2.2.2.1]
  have r12 : rf e 12 0 = some M := by rw [rf_v (by decide), hD.2.2.2.1.2.2.2.2]
  have hp : PR n e C I z (fun F s => J11_set F (rf e 11 0) (xk (sc (i + 1))) (xk (sc (i + 2))) (xk (sc (i + 3))) s) (fun F s => J12_set F (rf e 12 0) (xk (sc (i + 1))) (xk (sc (i + 2))) (xk (sc (i + 3))) s) ∨ PT n e C I z 50 1 (fun F s => J11_set F (rf e 11 0) (xk (sc (i + 1))) (xk (sc (i + 2))) (xk (sc (i + 3))) s) (fun F s => J12_set F (rf e 12 0) (xk (sc (i + 1))) (xk (sc (i + 2))) (xk (sc (i + 3))) s) ∨ PT n e C I z 51 2 (fun F s => J11_set F (rf e 11 0) (xk (sc (i + 1))) (xk (sc (i + 2))) (xk (sc (i + 3))) s) (fun F s => J12_set F (rf e 12 0) (xk (sc (i + 1))) (xk (sc (i + 2))) (xk (sc (i + 3))) s) := set_pr hL.1 hL.2.2.1.1 hL.2.2.1.2 (hs _).1 (hs _).2 (hs _).1 (hs _).2 (hs _).1 (hs _).2
  rw [r11, r12] at hp
  have hp' : PR n e C I z (fun F s => J11_set F (some N) (xk (sc (i + 1))) (xk (sc (i + 2))) (xk (sc (i + 3))) s) (fun F s => J12_set F (some M) (xk (sc (i + 1))) (xk (sc (i + 2))) (xk (sc (i + 3))) s) ∨ ∃ E w, PT n e C I z E w (fun F s => J11_set F (some N) (xk (sc (i + 1))) (xk (sc (i + 2))) (xk (sc (i + 3))) s) (fun F s => J12_set F (some M) (xk (sc (i + 1))) (xk (sc (i + 2))) (xk (sc (i + 3))) s) ∧ (∀ q s, (fun e5 _ s3 => if e5 = 50 then (some (.inl (some (.inl (xk 1))), s3)) else if e5 = 51 then (some (.inl (some (.inl (xk 2))), s3)) else none : Nat → Nat → XH → XR) E q s = some (.inl (some (.inl (xk w))), s)) ∧ (w = 1 ∨ w = 2) := by
    rcases hp with h | h | h
    · exact Or.inl h
    · exact Or.inr ⟨50, 1, h, fun q s => rfl, Or.inl rfl⟩
    · exact Or.inr ⟨51, 2, h, fun q s => rfl, Or.inr rfl⟩
  obtain ⟨e', C', I', z', x', w, q1, q2, q3, q4⟩ := lawB (hd := fun e5 _ s3 => if e5 = 50 then (some (.inl (some (.inl (xk 1))), s3)) else if e5 = 51 then (some (.inl (some (.inl (xk 2))), s3)) else none) (fc := (fun F s => J11_set F (some N) (xk (sc (i + 1))) (xk (sc (i + 2))) (xk (sc (i + 3))) s)) (fr := (fun F s => J12_set F (some M) (xk (sc (i + 1))) (xk (sc (i + 2))) (xk (sc (i + 3))) s)) (x := x) (i := i) hL hp' (fun o F σ h => RQ.run F _ _ _ _ _ h) (fun o F σ h => RQ.run F _ _ _ _ _ h)
  refine ⟨e', C', I', z', x', q1, fun r hr => ?_⟩
  unfold LT_9
  refine Ev.bs (rdc hD L1 i0 i1 (by decide) (by decide)) ?_
  refine Ev.bs (rdc hD L1 i0 i1 (by decide) (by decide)) ?_
  refine Ev.bs (rdc hD L1 i0 i1 (by decide) (by decide)) ?_
  refine Ev.kI (Ev.step (fun F => EL_set F _ _ _ _ _ _) q3) ?_
  refine Ev.bs (rdc q2 L1 i0 i1 (by decide) (by decide)) ?_
  refine Ev.bs (rdc q2 L1 i0 i1 (by decide) (by decide)) ?_
  refine Ev.bs (rdc q2 L1 i0 i1 (by decide) (by decide)) ?_
  exact q4 r hr
theorem op10 (hL : LSt b N M Q L sc n e C I z) (hs : ∀ j, -2147483648 ≤ sc j ∧ sc j < 2147483648) (hn : n ≤ 512) (L1 : L ≤ 2560) (i0 : 0 ≤ i) (i1 : i + 5 ≤ L) : ∃ e' C' I' z' x', LSt b N M Q L sc (n + 1) e' C' I' z' ∧ ∀ r, Ev (fun F => JL_law_23 F (some b) (some N) (some M) (some Q) (xk i + xk 5) (LG Q e' C' I' z' x')) r → Ev (fun F => LT_10 F (some b) (some N) (some M) (some Q) (xk i) (LG Q e C I z x)) r := by
  have hD := hL.2.1
  have r11 : rf e 11 0 = some N := by rw [rf_v (by decide), hD.2.2.2.1.2.2.2.1]
  have r12 : rf e 12 0 = some M := by rw [rf_v (by decide), hD.2.2.2.1.2.2.2.2]
  have hp : PR n e C I z (fun F s => J11_told F (rf e 11 0) (xk (sc (i + 1))) (xk (sc (i + 2))) s) (fun F s => J12_told F (rf e 12 0) (xk (sc (i + 1))) (xk (sc (i + 2))) s) ∨ PT n e C I z 50 1 (fun F s => J11_told F (rf e 11 0) (xk (sc (i + 1))) (xk (sc (i + 2))) s) (fun F s => J12_told F (rf e 12 0) (xk (sc (i + 1))) (xk (sc (i + 2))) s) := told_pr hL.1 (hs _).1 (hs _).2 (hs _).1 (hs _).2
  rw [r11, r12] at hp
  have hp' : PR n e C I z (fun F s => J11_told F (some N) (xk (sc (i + 1))) (xk (sc (i + 2))) s) (fun F s => J12_told F (some M) (xk (sc (i + 1))) (xk (sc (i + 2))) s) ∨ ∃ E w, PT n e C I z E w (fun F s => J11_told F (some N) (xk (sc (i + 1))) (xk (sc (i + 2))) s) (fun F s => J12_told F (some M) (xk (sc (i + 1))) (xk (sc (i + 2))) s) ∧ (∀ q s, (fun e5 _ s3 => if e5 = 50 then (some (.inl (some (.inl (xk 1))), s3)) else none : Nat → Nat → XH → XR) E q s = some (.inl (some (.inl (xk w))), s)) ∧ (w = 1 ∨ w = 2) := by
    rcases hp with h | h
    · exact Or.inl h
    · exact Or.inr ⟨50, 1, h, fun q s => rfl, Or.inl rfl⟩
  obtain ⟨e', C', I', z', x', w, q1, q2, q3, q4⟩ := lawB (hd := fun e5 _ s3 => if e5 = 50 then (some (.inl (some (.inl (xk 1))), s3)) else none) (fc := (fun F s => J11_told F (some N) (xk (sc (i + 1))) (xk (sc (i + 2))) s)) (fr := (fun F s => J12_told F (some M) (xk (sc (i + 1))) (xk (sc (i + 2))) s)) (x := x) (i := i) hL hp' (fun o F σ h => RQ.run F _ _ _ _ _ h) (fun o F σ h => RQ.run F _ _ _ _ _ h)
  refine ⟨e', C', I', z', x', q1, fun r hr => ?_⟩
  unfold LT_10
  refine Ev.bs (rdc hD L1 i0 i1 (by decide) (by decide)) ?_
  refine Ev.bs (rdc hD L1 i0 i1 (by decide) (by decide)) ?_
  refine Ev.kI (Ev.step (fun F => EL_told F _ _ _ _ _) q3) ?_
  refine Ev.bs (rdc q2 L1 i0 i1 (by decide) (by decide)) ?_
  refine Ev.bs (rdc q2 L1 i0 i1 (by decide) (by decide)) ?_
  exact q4 r hr
theorem op11 (hL : LSt b N M Q L sc n e C I z) (hs : ∀ j, -2147483648 ≤ sc j ∧ sc j < 2147483648) (hn : n ≤ 512) (L1 : L ≤ 2560) (i0 : 0 ≤ i) (i1 : i + 5 ≤ L) : ∃ e' C' I' z' x', LSt b N M Q L sc (n + 1) e' C' I' z' ∧ ∀ r, Ev (fun F => JL_law_23 F (some b) (some N) (some M) (some Q) (xk i + xk 5) (LG Q e' C' I' z' x')) r → Ev (fun F => LT_11 F (some b) (some N) (some M) (some Q) (xk i) (LG Q e C I z x)) r := by
  have hD := hL.2.1
  have r11 : rf e 11 0 = some N := by rw [rf_v (by decide), hD.2.2.2.1.2.2.2.1]
  have r12 : rf e 12 0 = some M := by rw [rf_v (by decide), hD.2.2.2.1.2.2.2.2]
  have hp : PR n e C I z (fun F s => J11_charge F (rf e 11 0) (xk (sc (i + 1))) (xk (sc (i + 2))) s) (fun F s => J12_charge F (rf e 12 0) (xk (sc (i + 1))) (xk (sc (i + 2))) s) ∨ PT n e C I z 51 1 (fun F s => J11_charge F (rf e 11 0) (xk (sc (i + 1))) (xk (sc (i + 2))) s) (fun F s => J12_charge F (rf e 12 0) (xk (sc (i + 1))) (xk (sc (i + 2))) s) := charge_pr hL.1 (hs _).1 (hs _).2 (hs _).1 (hs _).2
  rw [r11, r12] at hp
  have hp' : PR n e C I z (fun F s => J11_charge F (some N) (xk (sc (i + 1))) (xk (sc (i + 2))) s) (fun F s => J12_charge F (some M) (xk (sc (i + 1))) (xk (sc (i + 2))) s) ∨ ∃ E w, PT n e C I z E w (fun F s => J11_charge F (some N) (xk (sc (i + 1))) (xk (sc (i + 2))) s) (fun F s => J12_charge F (some M) (xk (sc (i + 1))) (xk (sc (i + 2))) s) ∧ (∀ q s, (fun e5 _ s3 => if e5 = 51 then (some (.inl (some (.inl (xk 1))), s3)) else none : Nat → Nat → XH → XR) E q s = some (.inl (some (.inl (xk w))), s)) ∧ (w = 1 ∨ w = 2) := by
    rcases hp with h | h
    · exact Or.inl h
    · exact Or.inr ⟨51, 1, h, fun q s => rfl, Or.inl rfl⟩
  obtain ⟨e', C', I', z', x', w, q1, q2, q3, q4⟩ := lawB (hd := fun e5 _ s3 => if e5 = 51 then (some (.inl (some (.inl (xk 1))), s3)) else none) (fc := (fun F s => J11_charge F (some N) (xk (sc (i + 1))) (xk (sc (i + 2))) s)) (fr := (fun F s => J12_charge F (some M) (xk (sc (i + 1))) (xk (sc (i + 2))) s)) (x := x) (i := i) hL hp' (fun o F σ h => RQ.run F _ _ _ _ _ h) (fun o F σ h => RQ.run F _ _ _ _ _ h)
  refine ⟨e', C', I', z', x', q1, fun r hr => ?_⟩
  unfold LT_11
  refine Ev.bs (rdc hD L1 i0 i1 (by decide) (by decide)) ?_
  refine Ev.bs (rdc hD L1 i0 i1 (by decide) (by decide)) ?_
  refine Ev.kI (Ev.step (fun F => EL_charge F _ _ _ _ _) q3) ?_
  refine Ev.bs (rdc q2 L1 i0 i1 (by decide) (by decide)) ?_
  refine Ev.bs (rdc q2 L1 i0 i1 (by decide) (by decide)) ?_
  exact q4 r hr
theorem op12 (hL : LSt b N M Q L sc n e C I z) (hs : ∀ j, -2147483648 ≤ sc j ∧ sc j < 2147483648) (hn : n ≤ 512) (L1 : L ≤ 2560) (i0 : 0 ≤ i) (i1 : i + 5 ≤ L) : ∃ e' C' I' z' x', LSt b N M Q L sc (n + 1) e' C' I' z' ∧ ∀ r, Ev (fun F => JL_law_23 F (some b) (some N) (some M) (some Q) (xk i + xk 5) (LG Q e' C' I' z' x')) r → Ev (fun F => LT_12 F (some b) (some N) (some M) (some Q) (xk i) (LG Q e C I z x)) r := by
  have hD := hL.2.1
  have r11 : rf e 11 0 = some N := by rw [rf_v (by decide), hD.2.2.2.1.2.2.2.1]
  have r12 : rf e 12 0 = some M := by rw [rf_v (by decide), hD.2.2.2.1.2.2.2.2]
  have hp : PR n e C I z (fun F s => J11_release F (rf e 11 0) (xk (sc (i + 1))) (xk (sc (i + 2))) s) (fun F s => J12_release F (rf e 12 0) (xk (sc (i + 1))) (xk (sc (i + 2))) s) ∨ PT n e C I z 51 1 (fun F s => J11_release F (rf e 11 0) (xk (sc (i + 1))) (xk (sc (i + 2))) s) (fun F s => J12_release F (rf e 12 0) (xk (sc (i + 1))) (xk (sc (i + 2))) s) := release_pr hL.1 (hs _).1 (hs _).2 (hs _).1 (hs _).2
  rw [r11, r12] at hp
  have hp' : PR n e C I z (fun F s => J11_release F (some N) (xk (sc (i + 1))) (xk (sc (i + 2))) s) (fun F s => J12_release F (some M) (xk (sc (i + 1))) (xk (sc (i + 2))) s) ∨ ∃ E w, PT n e C I z E w (fun F s => J11_release F (some N) (xk (sc (i + 1))) (xk (sc (i + 2))) s) (fun F s => J12_release F (some M) (xk (sc (i + 1))) (xk (sc (i + 2))) s) ∧ (∀ q s, (fun e5 _ s3 => if e5 = 51 then (some (.inl (some (.inl (xk 1))), s3)) else none : Nat → Nat → XH → XR) E q s = some (.inl (some (.inl (xk w))), s)) ∧ (w = 1 ∨ w = 2) := by
    rcases hp with h | h
    · exact Or.inl h
    · exact Or.inr ⟨51, 1, h, fun q s => rfl, Or.inl rfl⟩
  obtain ⟨e', C', I', z', x', w, q1, q2, q3, q4⟩ := lawB (hd := fun e5 _ s3 => if e5 = 51 then (some (.inl (some (.inl (xk 1))), s3)) else none) (fc := (fun F s => J11_release F (some N) (xk (sc (i + 1))) (xk (sc (i + 2))) s)) (fr := (fun F s => J12_release F (some M) (xk (sc (i + 1))) (xk (sc (i + 2))) s)) (x := x) (i := i) hL hp' (fun o F σ h => RQ.run F _ _ _ _ _ h) (fun o F σ h => RQ.run F _ _ _ _ _ h)
  refine ⟨e', C', I', z', x', q1, fun r hr => ?_⟩
  unfold LT_12
  refine Ev.bs (rdc hD L1 i0 i1 (by decide) (by decide)) ?_
  refine Ev.bs (rdc hD L1 i0 i1 (by decide) (by decide)) ?_
  refine Ev.kI (Ev.step (fun F => EL_release F _ _ _ _ _) q3) ?_
  refine Ev.bs (rdc q2 L1 i0 i1 (by decide) (by decide)) ?_
  refine Ev.bs (rdc q2 L1 i0 i1 (by decide) (by decide)) ?_
  exact q4 r hr
theorem op13 (hL : LSt b N M Q L sc n e C I z) (hs : ∀ j, -2147483648 ≤ sc j ∧ sc j < 2147483648) (hn : n ≤ 512) (L1 : L ≤ 2560) (i0 : 0 ≤ i) (i1 : i + 5 ≤ L) : ∃ e' C' I' z' x', LSt b N M Q L sc (n + 1) e' C' I' z' ∧ ∀ r, Ev (fun F => JL_law_23 F (some b) (some N) (some M) (some Q) (xk i + xk 5) (LG Q e' C' I' z' x')) r → Ev (fun F => LT_13 F (some b) (some N) (some M) (some Q) (xk i) (LG Q e C I z x)) r := by
  have hD := hL.2.1
  have r11 : rf e 11 0 = some N := by rw [rf_v (by decide), hD.2.2.2.1.2.2.2.1]
  have r12 : rf e 12 0 = some M := by rw [rf_v (by decide), hD.2.2.2.1.2.2.2.2]
  have hp : PR n e C I z (fun F s => J11_cache F (rf e 11 0) (xk (sc (i + 1))) (xk (sc (i + 2))) s) (fun F s => J12_cache F (rf e 12 0) (xk (sc (i + 1))) (xk (sc (i + 2))) s) ∨ PT n e C I z 51 1 (fun F s => J11_cache F (rf e 11 0) (xk (sc (i + 1))) (xk (sc (i + 2))) s) (fun F s => J12_cache F (rf e 12 0) (xk (sc (i + 1))) (xk (sc (i + 2))) s) := cache_pr hL.1 (hs _).1 (hs _).2 (hs _).1 (hs _).2
  rw [r11, r12] at hp
  have hp' : PR n e C I z (fun F s => J11_cache F (some N) (xk (sc (i + 1))) (xk (sc (i + 2))) s) (fun F s => J12_cache F (some M) (xk (sc (i + 1))) (xk (sc (i + 2))) s) ∨ ∃ E w, PT n e C I z E w (fun F s => J11_cache F (some N) (xk (sc (i + 1))) (xk (sc (i + 2))) s) (fun F s => J12_cache F (some M) (xk (sc (i + 1))) (xk (sc (i + 2))) s) ∧ (∀ q s, (fun e5 _ s3 => if e5 = 51 then (some (.inl (some (.inl (xk 1))), s3)) else none : Nat → Nat → XH → XR) E q s = some (.inl (some (.inl (xk w))), s)) ∧ (w = 1 ∨ w = 2) := by
    rcases hp with h | h
    · exact Or.inl h
    · exact Or.inr ⟨51, 1, h, fun q s => rfl, Or.inl rfl⟩
  obtain ⟨e', C', I', z', x', w, q1, q2, q3, q4⟩ := lawB (hd := fun e5 _ s3 => if e5 = 51 then (some (.inl (some (.inl (xk 1))), s3)) else none) (fc := (fun F s => J11_cache F (some N) (xk (sc (i + 1))) (xk (sc (i + 2))) s)) (fr := (fun F s => J12_cache F (some M) (xk (sc (i + 1))) (xk (sc (i + 2))) s)) (x := x) (i := i) hL hp' (fun o F σ h => RQ.run F _ _ _ _ _ h) (fun o F σ h => RQ.run F _ _ _ _ _ h)
  refine ⟨e', C', I', z', x', q1, fun r hr => ?_⟩
  unfold LT_13
  refine Ev.bs (rdc hD L1 i0 i1 (by decide) (by decide)) ?_
  refine Ev.bs (rdc hD L1 i0 i1 (by decide) (by decide)) ?_
  refine Ev.kI (Ev.step (fun F => EL_cache F _ _ _ _ _) q3) ?_
  refine Ev.bs (rdc q2 L1 i0 i1 (by decide) (by decide)) ?_
  refine Ev.bs (rdc q2 L1 i0 i1 (by decide) (by decide)) ?_
  exact q4 r hr
theorem op14 (hL : LSt b N M Q L sc n e C I z) (hs : ∀ j, -2147483648 ≤ sc j ∧ sc j < 2147483648) (hn : n ≤ 512) (L1 : L ≤ 2560) (i0 : 0 ≤ i) (i1 : i + 5 ≤ L) : ∃ e' C' I' z' x', LSt b N M Q L sc (n + 1) e' C' I' z' ∧ ∀ r, Ev (fun F => JL_law_23 F (some b) (some N) (some M) (some Q) (xk i + xk 5) (LG Q e' C' I' z' x')) r → Ev (fun F => LT_14 F (some b) (some N) (some M) (some Q) (xk i) (LG Q e C I z x)) r := by
  have hD := hL.2.1
  have r11 : rf e 11 0 = some N := by rw [rf_v (by decide), hD.2.2.2.1.2.2.2.1]
  have r12 : rf e 12 0 = some M := by rw [rf_v (by decide), hD.2.2.2.1.2.2.2.2]
  have hp : PR n e C I z (fun F s => J11_move F (rf e 11 0) (xk (sc (i + 1))) (xk (sc (i + 2))) s) (fun F s => J12_move F (rf e 12 0) (xk (sc (i + 1))) (xk (sc (i + 2))) s) := move_pr hL.1 (by omega) (hs _).1 (hs _).2 (hs _).1 (hs _).2
  rw [r11, r12] at hp
  obtain ⟨e', C', I', z', A, q1, q2, q3, q4, q5⟩ := lawA hL hp (fun o F σ h => RQ.run F _ _ _ _ _ h) (fun o F σ h => RQ.run F _ _ _ _ _ h)
  refine ⟨e', C', I', z', x, q1, fun r hr => ?_⟩
  unfold LT_14
  refine Ev.bs (rdc hD L1 i0 i1 (by decide) (by decide)) ?_
  refine Ev.bs (rdc hD L1 i0 i1 (by decide) (by decide)) ?_
  refine Ev.xg (d11 hD) (Ev.kI (q3 x) ?_)
  refine Ev.bs (rdc q2 L1 i0 i1 (by decide) (by decide)) ?_
  refine Ev.bs (rdc q2 L1 i0 i1 (by decide) (by decide)) ?_
  refine Ev.xg (d12 q2) (Ev.kI (q4 x) ?_)
  exact Ev.ite (fun _ => hr) (fun q => absurd rfl q)
theorem op15 (hL : LSt b N M Q L sc n e C I z) (hs : ∀ j, -2147483648 ≤ sc j ∧ sc j < 2147483648) (hn : n ≤ 512) (L1 : L ≤ 2560) (i0 : 0 ≤ i) (i1 : i + 5 ≤ L) : ∃ e' C' I' z' x', LSt b N M Q L sc (n + 1) e' C' I' z' ∧ ∀ r, Ev (fun F => JL_law_23 F (some b) (some N) (some M) (some Q) (xk i + xk 5) (LG Q e' C' I' z' x')) r → Ev (fun F => LT_15 F (some b) (some N) (some M) (some Q) (xk i) (LG Q e C I z x)) r := by
  have hD := hL.2.1
  have r11 : rf e 11 0 = some N := by rw [rf_v (by decide), hD.2.2.2.1.2.2.2.1]
  have r12 : rf e 12 0 = some M := by rw [rf_v (by decide), hD.2.2.2.1.2.2.2.2]
  have hp : PR n e C I z (fun F s => J11_badness F (rf e 11 0) (xk (sc (i + 1))) (xk (sc (i + 2))) s) (fun F s => J12_badness F (rf e 12 0) (xk (sc (i + 1))) (xk (sc (i + 2))) s) ∨ PT n e C I z 51 1 (fun F s => J11_badness F (rf e 11 0) (xk (sc (i + 1))) (xk (sc (i + 2))) s) (fun F s => J12_badness F (rf e 12 0) (xk (sc (i + 1))) (xk (sc (i + 2))) s) := badness_pr hL.1 (hs _).1 (hs _).2 (hs _).1 (hs _).2
  rw [r11, r12] at hp
  have hp' : PR n e C I z (fun F s => J11_badness F (some N) (xk (sc (i + 1))) (xk (sc (i + 2))) s) (fun F s => J12_badness F (some M) (xk (sc (i + 1))) (xk (sc (i + 2))) s) ∨ ∃ E w, PT n e C I z E w (fun F s => J11_badness F (some N) (xk (sc (i + 1))) (xk (sc (i + 2))) s) (fun F s => J12_badness F (some M) (xk (sc (i + 1))) (xk (sc (i + 2))) s) ∧ (∀ q s, (fun e5 _ s3 => if e5 = 51 then (some (.inl (some (.inl (xk 1))), s3)) else none : Nat → Nat → XH → XR) E q s = some (.inl (some (.inl (xk w))), s)) ∧ (w = 1 ∨ w = 2) := by
    rcases hp with h | h
    · exact Or.inl h
    · exact Or.inr ⟨51, 1, h, fun q s => rfl, Or.inl rfl⟩
  obtain ⟨e', C', I', z', x', w, q1, q2, q3, q4⟩ := lawB (hd := fun e5 _ s3 => if e5 = 51 then (some (.inl (some (.inl (xk 1))), s3)) else none) (fc := (fun F s => J11_badness F (some N) (xk (sc (i + 1))) (xk (sc (i + 2))) s)) (fr := (fun F s => J12_badness F (some M) (xk (sc (i + 1))) (xk (sc (i + 2))) s)) (x := x) (i := i) hL hp' (fun o F σ h => RQ.run F _ _ _ _ _ h) (fun o F σ h => RQ.run F _ _ _ _ _ h)
  refine ⟨e', C', I', z', x', q1, fun r hr => ?_⟩
  unfold LT_15
  refine Ev.bs (rdc hD L1 i0 i1 (by decide) (by decide)) ?_
  refine Ev.bs (rdc hD L1 i0 i1 (by decide) (by decide)) ?_
  refine Ev.kI (Ev.step (fun F => EL_badness F _ _ _ _ _) q3) ?_
  refine Ev.bs (rdc q2 L1 i0 i1 (by decide) (by decide)) ?_
  refine Ev.bs (rdc q2 L1 i0 i1 (by decide) (by decide)) ?_
  exact q4 r hr
theorem op16 (hL : LSt b N M Q L sc n e C I z) (hs : ∀ j, -2147483648 ≤ sc j ∧ sc j < 2147483648) (hn : n ≤ 512) (L1 : L ≤ 2560) (i0 : 0 ≤ i) (i1 : i + 5 ≤ L) : ∃ e' C' I' z' x', LSt b N M Q L sc (n + 1) e' C' I' z' ∧ ∀ r, Ev (fun F => JL_law_23 F (some b) (some N) (some M) (some Q) (xk i + xk 5) (LG Q e' C' I' z' x')) r → Ev (fun F => LT_16 F (some b) (some N) (some M) (some Q) (xk i) (LG Q e C I z x)) r := by
  have hD := hL.2.1
  have r11 : rf e 11 0 = some N := by rw [rf_v (by decide), hD.2.2.2.1.2.2.2.1]
  have r12 : rf e 12 0 = some M := by rw [rf_v (by decide), hD.2.2.2.1.2.2.2.2]
  have hp : PR n e C I z (fun F s => J11_ticks F (rf e 11 0) (xk (sc (i + 1))) s) (fun F s => J12_ticks F (rf e 12 0) (xk (sc (i + 1))) s) ∨ PT n e C I z 51 1 (fun F s => J11_ticks F (rf e 11 0) (xk (sc (i + 1))) s) (fun F s => J12_ticks F (rf e 12 0) (xk (sc (i + 1))) s) := ticks_pr hL.1 (by omega) (hs _).1 (hs _).2
  rw [r11, r12] at hp
  have hp' : PR n e C I z (fun F s => J11_ticks F (some N) (xk (sc (i + 1))) s) (fun F s => J12_ticks F (some M) (xk (sc (i + 1))) s) ∨ ∃ E w, PT n e C I z E w (fun F s => J11_ticks F (some N) (xk (sc (i + 1))) s) (fun F s => J12_ticks F (some M) (xk (sc (i + 1))) s) ∧ (∀ q s, (fun e5 _ s3 => if e5 = 51 then (some (.inl (some (.inl (xk 1))), s3)) else none : Nat → Nat → XH → XR) E q s = some (.inl (some (.inl (xk w))), s)) ∧ (w = 1 ∨ w = 2) := by
    rcases hp with h | h
    · exact Or.inl h
    · exact Or.inr ⟨51, 1, h, fun q s => rfl, Or.inl rfl⟩
  obtain ⟨e', C', I', z', x', w, q1, q2, q3, q4⟩ := lawB (hd := fun e5 _ s3 => if e5 = 51 then (some (.inl (some (.inl (xk 1))), s3)) else none) (fc := (fun F s => J11_ticks F (some N) (xk (sc (i + 1))) s)) (fr := (fun F s => J12_ticks F (some M) (xk (sc (i + 1))) s)) (x := x) (i := i) hL hp' (fun o F σ h => RQ.run F _ _ _ _ _ h) (fun o F σ h => RQ.run F _ _ _ _ _ h)
  refine ⟨e', C', I', z', x', q1, fun r hr => ?_⟩
  unfold LT_16
  refine Ev.bs (rdc hD L1 i0 i1 (by decide) (by decide)) ?_
  refine Ev.kI (Ev.step (fun F => EL_ticks F _ _ _ _) q3) ?_
  refine Ev.bs (rdc q2 L1 i0 i1 (by decide) (by decide)) ?_
  exact q4 r hr
theorem op17 (hL : LSt b N M Q L sc n e C I z) (hs : ∀ j, -2147483648 ≤ sc j ∧ sc j < 2147483648) (hn : n ≤ 512) (L1 : L ≤ 2560) (i0 : 0 ≤ i) (i1 : i + 5 ≤ L) : ∃ e' C' I' z' x', LSt b N M Q L sc (n + 1) e' C' I' z' ∧ ∀ r, Ev (fun F => JL_law_23 F (some b) (some N) (some M) (some Q) (xk i + xk 5) (LG Q e' C' I' z' x')) r → Ev (fun F => LT_17 F (some b) (some N) (some M) (some Q) (xk i) (LG Q e C I z x)) r := by
  have hD := hL.2.1
  have r11 : rf e 11 0 = some N := by rw [rf_v (by decide), hD.2.2.2.1.2.2.2.1]
  have r12 : rf e 12 0 = some M := by rw [rf_v (by decide), hD.2.2.2.1.2.2.2.2]
  by_cases h2 : sc (i + 2) = 0
  · have hp : PR n e C I z (fun F s => J11_sleep F (rf e 11 0) (xk (sc (i + 1))) (xk 0) s) (fun F s => J12_sleep F (rf e 12 0) (xk (sc (i + 1))) (xk 0) s) := sleep_pr hL.1 (by omega) (hs _).1 (hs _).2 (by decide) (by decide)
    rw [r11, r12] at hp
    obtain ⟨e', C', I', z', A, q1, q2, q3, q4, q5⟩ := lawA hL hp (fun o F σ h => RQ.run F _ _ _ _ _ h) (fun o F σ h => RQ.run F _ _ _ _ _ h)
    refine ⟨e', C', I', z', x, q1, fun r hr => ?_⟩
    unfold LT_17
    refine Ev.bs (rdc hD L1 i0 i1 (by decide) (by decide)) ?_
    refine Ev.bs (rdc hD L1 i0 i1 (by decide) (by decide)) ?_
    refine Ev.ite (fun _ => ?_) (fun q => absurd ((k0 (hs _).1 (hs _).2).mpr h2) q)
    refine Ev.xg (d11 hD) (Ev.kI (q3 x) ?_)
    refine Ev.bs (rdc q2 L1 i0 i1 (by decide) (by decide)) ?_
    refine Ev.bs (rdc q2 L1 i0 i1 (by decide) (by decide)) ?_
    refine Ev.ite (fun _ => ?_) (fun q => absurd ((k0 (hs _).1 (hs _).2).mpr h2) q)
    refine Ev.xg (d12 q2) (Ev.kI (q4 x) ?_)
    exact Ev.ite (fun _ => hr) (fun q => absurd rfl q)
  · have hp : PR n e C I z (fun F s => J11_sleep F (rf e 11 0) (xk (sc (i + 1))) (xk 1) s) (fun F s => J12_sleep F (rf e 12 0) (xk (sc (i + 1))) (xk 1) s) := sleep_pr hL.1 (by omega) (hs _).1 (hs _).2 (by decide) (by decide)
    rw [r11, r12] at hp
    obtain ⟨e', C', I', z', A, q1, q2, q3, q4, q5⟩ := lawA hL hp (fun o F σ h => RQ.run F _ _ _ _ _ h) (fun o F σ h => RQ.run F _ _ _ _ _ h)
    refine ⟨e', C', I', z', x, q1, fun r hr => ?_⟩
    unfold LT_17
    refine Ev.bs (rdc hD L1 i0 i1 (by decide) (by decide)) ?_
    refine Ev.bs (rdc hD L1 i0 i1 (by decide) (by decide)) ?_
    refine Ev.ite (fun q => absurd ((k0 (hs _).1 (hs _).2).mp q) h2) (fun _ => ?_)
    refine Ev.xg (d11 hD) (Ev.kI (q3 x) ?_)
    refine Ev.bs (rdc q2 L1 i0 i1 (by decide) (by decide)) ?_
    refine Ev.bs (rdc q2 L1 i0 i1 (by decide) (by decide)) ?_
    refine Ev.ite (fun q => absurd ((k0 (hs _).1 (hs _).2).mp q) h2) (fun _ => ?_)
    refine Ev.xg (d12 q2) (Ev.kI (q4 x) ?_)
    exact Ev.ite (fun _ => hr) (fun q => absurd rfl q)
theorem op18 (hL : LSt b N M Q L sc n e C I z) (hs : ∀ j, -2147483648 ≤ sc j ∧ sc j < 2147483648) (hn : n ≤ 512) (L1 : L ≤ 2560) (i0 : 0 ≤ i) (i1 : i + 5 ≤ L) : ∃ e' C' I' z' x', LSt b N M Q L sc (n + 1) e' C' I' z' ∧ ∀ r, Ev (fun F => JL_law_23 F (some b) (some N) (some M) (some Q) (xk i + xk 5) (LG Q e' C' I' z' x')) r → Ev (fun F => LT_18 F (some b) (some N) (some M) (some Q) (xk i) (LG Q e C I z x)) r := by
  have hD := hL.2.1
  have r11 : rf e 11 0 = some N := by rw [rf_v (by decide), hD.2.2.2.1.2.2.2.1]
  have r12 : rf e 12 0 = some M := by rw [rf_v (by decide), hD.2.2.2.1.2.2.2.2]
  obtain ⟨A, hc, hr⟩ := ran_pr hL.1 (t := sc (i + 1)) (hs _).1 (hs _).2
  have hp : PR n e C I z (fun F s => J11_ran F (rf e 11 0) (xk (sc (i + 1))) s) (fun F s => J12_ran F (rf e 12 0) (xk (sc (i + 1))) s) := PR.look' hL.1 hc hr
  rw [r11, r12] at hp
  obtain ⟨e', C', I', z', A, q1, q2, q3, q4, q5⟩ := lawA hL hp (fun o F σ h => RQ.run F _ _ _ _ _ h) (fun o F σ h => RQ.run F _ _ _ _ _ h)
  refine ⟨e', C', I', z', x, q1, fun r hr => ?_⟩
  unfold LT_18
  refine Ev.bs (rdc hD L1 i0 i1 (by decide) (by decide)) ?_
  refine Ev.xg (d11 hD) (Ev.kI (q3 x) ?_)
  refine Ev.bs (rdc q2 L1 i0 i1 (by decide) (by decide)) ?_
  refine Ev.xg (d12 q2) (Ev.kI (q4 x) ?_)
  exact Ev.ite (fun _ => hr) (fun q => absurd rfl q)
theorem op19 (hL : LSt b N M Q L sc n e C I z) (hs : ∀ j, -2147483648 ≤ sc j ∧ sc j < 2147483648) (hn : n ≤ 512) (L1 : L ≤ 2560) (i0 : 0 ≤ i) (i1 : i + 5 ≤ L) : ∃ e' C' I' z' x', LSt b N M Q L sc (n + 1) e' C' I' z' ∧ ∀ r, Ev (fun F => JL_law_23 F (some b) (some N) (some M) (some Q) (xk i + xk 5) (LG Q e' C' I' z' x')) r → Ev (fun F => LT_19 F (some b) (some N) (some M) (some Q) (xk i) (LG Q e C I z x)) r := by
  have hD := hL.2.1
  have r11 : rf e 11 0 = some N := by rw [rf_v (by decide), hD.2.2.2.1.2.2.2.1]
  have r12 : rf e 12 0 = some M := by rw [rf_v (by decide), hD.2.2.2.1.2.2.2.2]
  by_cases h1 : sc (i + 1) = 0
  · obtain ⟨A, hc, hr0⟩ := time_pr hL.1 (f := 0) (t := sc (i + 2)) (by decide) (by decide) (hs _).1 (hs _).2
    rw [r11] at hc
    rw [r12] at hr0
    obtain ⟨q1, q3, q4⟩ := lawL (fc := fun F s => J11_time F (some N) (xk 0) (xk (sc (i + 2))) s) (fr := fun F s => J12_time F (some M) (xk 0) (xk (sc (i + 2))) s) hL hc hr0 (fun o F σ h => RQ.run F _ _ _ _ _ h) (fun o F σ h => RQ.run F _ _ _ _ _ h)
    refine ⟨e, C, th I 0, z, x, q1, fun r hr => ?_⟩
    unfold LT_19
    refine Ev.bs (rdc hD L1 i0 i1 (by decide) (by decide)) ?_
    refine Ev.ite (fun _ => ?_) (fun q => absurd ((k0 (hs _).1 (hs _).2).mpr h1) q)
    refine Ev.bs (rdc hD L1 i0 i1 (by decide) (by decide)) ?_
    refine Ev.xg (d11 hD) (Ev.kL (q3 x) ?_)
    refine Ev.bs (rdc hD L1 i0 i1 (by decide) (by decide)) ?_
    refine Ev.ite (fun _ => ?_) (fun q => absurd ((k0 (hs _).1 (hs _).2).mpr h1) q)
    refine Ev.bs (rdc hD L1 i0 i1 (by decide) (by decide)) ?_
    refine Ev.xg (d12 hD) (Ev.kL (q4 x) ?_)
    exact Ev.ite (fun _ => hr) (fun q => absurd cmp0 q)
  · obtain ⟨A, hc, hr0⟩ := time_pr hL.1 (f := 1) (t := sc (i + 2)) (by decide) (by decide) (hs _).1 (hs _).2
    rw [r11] at hc
    rw [r12] at hr0
    obtain ⟨q1, q3, q4⟩ := lawL (fc := fun F s => J11_time F (some N) (xk 1) (xk (sc (i + 2))) s) (fr := fun F s => J12_time F (some M) (xk 1) (xk (sc (i + 2))) s) hL hc hr0 (fun o F σ h => RQ.run F _ _ _ _ _ h) (fun o F σ h => RQ.run F _ _ _ _ _ h)
    refine ⟨e, C, th I 0, z, x, q1, fun r hr => ?_⟩
    unfold LT_19
    refine Ev.bs (rdc hD L1 i0 i1 (by decide) (by decide)) ?_
    refine Ev.ite (fun q => absurd ((k0 (hs _).1 (hs _).2).mp q) h1) (fun _ => ?_)
    refine Ev.bs (rdc hD L1 i0 i1 (by decide) (by decide)) ?_
    refine Ev.xg (d11 hD) (Ev.kL (q3 x) ?_)
    refine Ev.bs (rdc hD L1 i0 i1 (by decide) (by decide)) ?_
    refine Ev.ite (fun q => absurd ((k0 (hs _).1 (hs _).2).mp q) h1) (fun _ => ?_)
    refine Ev.bs (rdc hD L1 i0 i1 (by decide) (by decide)) ?_
    refine Ev.xg (d12 hD) (Ev.kL (q4 x) ?_)
    exact Ev.ite (fun _ => hr) (fun q => absurd cmp0 q)
theorem op20 (hL : LSt b N M Q L sc n e C I z) (hs : ∀ j, -2147483648 ≤ sc j ∧ sc j < 2147483648) (hn : n ≤ 512) (L1 : L ≤ 2560) (i0 : 0 ≤ i) (i1 : i + 5 ≤ L) : ∃ e' C' I' z' x', LSt b N M Q L sc (n + 1) e' C' I' z' ∧ ∀ r, Ev (fun F => JL_law_23 F (some b) (some N) (some M) (some Q) (xk i + xk 5) (LG Q e' C' I' z' x')) r → Ev (fun F => LT_20 F (some b) (some N) (some M) (some Q) (xk i) (LG Q e C I z x)) r := by
  have hD := hL.2.1
  have r11 : rf e 11 0 = some N := by rw [rf_v (by decide), hD.2.2.2.1.2.2.2.1]
  have r12 : rf e 12 0 = some M := by rw [rf_v (by decide), hD.2.2.2.1.2.2.2.2]
  by_cases h4 : sc (i + 4) = 0
  · have hp : PR n e C I z (fun F s => J11_mount F (rf e 11 0) (xk (sc (i + 1))) (xk (sc (i + 2))) (xk (sc (i + 3))) (xk 0) s) (fun F s => J12_mount F (rf e 12 0) (xk (sc (i + 1))) (xk (sc (i + 2))) (xk (sc (i + 3))) (xk 0) s) ∨ PT n e C I z 51 1 (fun F s => J11_mount F (rf e 11 0) (xk (sc (i + 1))) (xk (sc (i + 2))) (xk (sc (i + 3))) (xk 0) s) (fun F s => J12_mount F (rf e 12 0) (xk (sc (i + 1))) (xk (sc (i + 2))) (xk (sc (i + 3))) (xk 0) s) := mount_pr hL.1 (by omega) (hs _).1 (hs _).2 (hs _).1 (hs _).2 (hs _).1 (hs _).2 (by decide) (by decide)
    rw [r11, r12] at hp
    have hp' : PR n e C I z (fun F s => J11_mount F (some N) (xk (sc (i + 1))) (xk (sc (i + 2))) (xk (sc (i + 3))) (xk 0) s) (fun F s => J12_mount F (some M) (xk (sc (i + 1))) (xk (sc (i + 2))) (xk (sc (i + 3))) (xk 0) s) ∨ ∃ E w, PT n e C I z E w (fun F s => J11_mount F (some N) (xk (sc (i + 1))) (xk (sc (i + 2))) (xk (sc (i + 3))) (xk 0) s) (fun F s => J12_mount F (some M) (xk (sc (i + 1))) (xk (sc (i + 2))) (xk (sc (i + 3))) (xk 0) s) ∧ (∀ q s, (fun e5 _ s3 => if e5 = 51 then (some (.inl (some (.inl (xk 1))), s3)) else none : Nat → Nat → XH → XR) E q s = some (.inl (some (.inl (xk w))), s)) ∧ (w = 1 ∨ w = 2) := by
      rcases hp with h | h
      · exact Or.inl h
      · exact Or.inr ⟨51, 1, h, fun q s => rfl, Or.inl rfl⟩
    obtain ⟨e', C', I', z', x', w, q1, q2, q3, q4⟩ := lawB (hd := fun e5 _ s3 => if e5 = 51 then (some (.inl (some (.inl (xk 1))), s3)) else none) (fc := (fun F s => J11_mount F (some N) (xk (sc (i + 1))) (xk (sc (i + 2))) (xk (sc (i + 3))) (xk 0) s)) (fr := (fun F s => J12_mount F (some M) (xk (sc (i + 1))) (xk (sc (i + 2))) (xk (sc (i + 3))) (xk 0) s)) (x := x) (i := i) hL hp' (fun o F σ h => RQ.run F _ _ _ _ _ h) (fun o F σ h => RQ.run F _ _ _ _ _ h)
    refine ⟨e', C', I', z', x', q1, fun r hr => ?_⟩
    unfold LT_20
    refine Ev.bs (rdc hD L1 i0 i1 (by decide) (by decide)) ?_
    refine Ev.bs (rdc hD L1 i0 i1 (by decide) (by decide)) ?_
    refine Ev.bs (rdc hD L1 i0 i1 (by decide) (by decide)) ?_
    refine Ev.bs (rdc hD L1 i0 i1 (by decide) (by decide)) ?_
    refine Ev.ite (fun _ => ?_) (fun q => absurd ((k0 (hs _).1 (hs _).2).mpr h4) q)
    refine Ev.kI (Ev.step (fun F => EL_mount F _ _ _ _ _ _ _) q3) ?_
    refine Ev.bs (rdc q2 L1 i0 i1 (by decide) (by decide)) ?_
    refine Ev.bs (rdc q2 L1 i0 i1 (by decide) (by decide)) ?_
    refine Ev.bs (rdc q2 L1 i0 i1 (by decide) (by decide)) ?_
    refine Ev.bs (rdc q2 L1 i0 i1 (by decide) (by decide)) ?_
    refine Ev.ite (fun _ => ?_) (fun q => absurd ((k0 (hs _).1 (hs _).2).mpr h4) q)
    exact q4 r hr
  · have hp : PR n e C I z (fun F s => J11_mount F (rf e 11 0) (xk (sc (i + 1))) (xk (sc (i + 2))) (xk (sc (i + 3))) (xk 1) s) (fun F s => J12_mount F (rf e 12 0) (xk (sc (i + 1))) (xk (sc (i + 2))) (xk (sc (i + 3))) (xk 1) s) ∨ PT n e C I z 51 1 (fun F s => J11_mount F (rf e 11 0) (xk (sc (i + 1))) (xk (sc (i + 2))) (xk (sc (i + 3))) (xk 1) s) (fun F s => J12_mount F (rf e 12 0) (xk (sc (i + 1))) (xk (sc (i + 2))) (xk (sc (i + 3))) (xk 1) s) := mount_pr hL.1 (by omega) (hs _).1 (hs _).2 (hs _).1 (hs _).2 (hs _).1 (hs _).2 (by decide) (by decide)
    rw [r11, r12] at hp
    have hp' : PR n e C I z (fun F s => J11_mount F (some N) (xk (sc (i + 1))) (xk (sc (i + 2))) (xk (sc (i + 3))) (xk 1) s) (fun F s => J12_mount F (some M) (xk (sc (i + 1))) (xk (sc (i + 2))) (xk (sc (i + 3))) (xk 1) s) ∨ ∃ E w, PT n e C I z E w (fun F s => J11_mount F (some N) (xk (sc (i + 1))) (xk (sc (i + 2))) (xk (sc (i + 3))) (xk 1) s) (fun F s => J12_mount F (some M) (xk (sc (i + 1))) (xk (sc (i + 2))) (xk (sc (i + 3))) (xk 1) s) ∧ (∀ q s, (fun e5 _ s3 => if e5 = 51 then (some (.inl (some (.inl (xk 1))), s3)) else none : Nat → Nat → XH → XR) E q s = some (.inl (some (.inl (xk w))), s)) ∧ (w = 1 ∨ w = 2) := by
      rcases hp with h | h
      · exact Or.inl h
      · exact Or.inr ⟨51, 1, h, fun q s => rfl, Or.inl rfl⟩
    obtain ⟨e', C', I', z', x', w, q1, q2, q3, q4⟩ := lawB (hd := fun e5 _ s3 => if e5 = 51 then (some (.inl (some (.inl (xk 1))), s3)) else none) (fc := (fun F s => J11_mount F (some N) (xk (sc (i + 1))) (xk (sc (i + 2))) (xk (sc (i + 3))) (xk 1) s)) (fr := (fun F s => J12_mount F (some M) (xk (sc (i + 1))) (xk (sc (i + 2))) (xk (sc (i + 3))) (xk 1) s)) (x := x) (i := i) hL hp' (fun o F σ h => RQ.run F _ _ _ _ _ h) (fun o F σ h => RQ.run F _ _ _ _ _ h)
    refine ⟨e', C', I', z', x', q1, fun r hr => ?_⟩
    unfold LT_20
    refine Ev.bs (rdc hD L1 i0 i1 (by decide) (by decide)) ?_
    refine Ev.bs (rdc hD L1 i0 i1 (by decide) (by decide)) ?_
    refine Ev.bs (rdc hD L1 i0 i1 (by decide) (by decide)) ?_
    refine Ev.bs (rdc hD L1 i0 i1 (by decide) (by decide)) ?_
    refine Ev.ite (fun q => absurd ((k0 (hs _).1 (hs _).2).mp q) h4) (fun _ => ?_)
    refine Ev.kI (Ev.step (fun F => EL_mount F _ _ _ _ _ _ _) q3) ?_
    refine Ev.bs (rdc q2 L1 i0 i1 (by decide) (by decide)) ?_
    refine Ev.bs (rdc q2 L1 i0 i1 (by decide) (by decide)) ?_
    refine Ev.bs (rdc q2 L1 i0 i1 (by decide) (by decide)) ?_
    refine Ev.bs (rdc q2 L1 i0 i1 (by decide) (by decide)) ?_
    refine Ev.ite (fun q => absurd ((k0 (hs _).1 (hs _).2).mp q) h4) (fun _ => ?_)
    exact q4 r hr
theorem op21 (hL : LSt b N M Q L sc n e C I z) (hs : ∀ j, -2147483648 ≤ sc j ∧ sc j < 2147483648) (hn : n ≤ 512) (L1 : L ≤ 2560) (i0 : 0 ≤ i) (i1 : i + 5 ≤ L) : ∃ e' C' I' z' x', LSt b N M Q L sc (n + 1) e' C' I' z' ∧ ∀ r, Ev (fun F => JL_law_23 F (some b) (some N) (some M) (some Q) (xk i + xk 5) (LG Q e' C' I' z' x')) r → Ev (fun F => LT_21 F (some b) (some N) (some M) (some Q) (xk i) (LG Q e C I z x)) r := by
  have hD := hL.2.1
  have r11 : rf e 11 0 = some N := by rw [rf_v (by decide), hD.2.2.2.1.2.2.2.1]
  have r12 : rf e 12 0 = some M := by rw [rf_v (by decide), hD.2.2.2.1.2.2.2.2]
  have hp : PR n e C I z (fun F s => J11_unmount F (rf e 11 0) (xk (sc (i + 1))) (xk (sc (i + 2))) s) (fun F s => J12_unmount F (rf e 12 0) (xk (sc (i + 1))) (xk (sc (i + 2))) s) := unmount_pr hL.1 (by omega) (hs _).1 (hs _).2 (hs _).1 (hs _).2
  rw [r11, r12] at hp
  obtain ⟨e', C', I', z', A, q1, q2, q3, q4, q5⟩ := lawA hL hp (fun o F σ h => RQ.run F _ _ _ _ _ h) (fun o F σ h => RQ.run F _ _ _ _ _ h)
  refine ⟨e', C', I', z', x, q1, fun r hr => ?_⟩
  unfold LT_21
  refine Ev.bs (rdc hD L1 i0 i1 (by decide) (by decide)) ?_
  refine Ev.bs (rdc hD L1 i0 i1 (by decide) (by decide)) ?_
  refine Ev.xg (d11 hD) (Ev.kI (q3 x) ?_)
  refine Ev.bs (rdc q2 L1 i0 i1 (by decide) (by decide)) ?_
  refine Ev.bs (rdc q2 L1 i0 i1 (by decide) (by decide)) ?_
  refine Ev.xg (d12 q2) (Ev.kI (q4 x) ?_)
  exact Ev.ite (fun _ => hr) (fun q => absurd rfl q)
theorem op22 (hL : LSt b N M Q L sc n e C I z) (hs : ∀ j, -2147483648 ≤ sc j ∧ sc j < 2147483648) (hn : n ≤ 512) (L1 : L ≤ 2560) (i0 : 0 ≤ i) (i1 : i + 5 ≤ L) : ∃ e' C' I' z' x', LSt b N M Q L sc (n + 1) e' C' I' z' ∧ ∀ r, Ev (fun F => JL_law_23 F (some b) (some N) (some M) (some Q) (xk i + xk 5) (LG Q e' C' I' z' x')) r → Ev (fun F => LT_22 F (some b) (some N) (some M) (some Q) (xk i) (LG Q e C I z x)) r := by
  have hD := hL.2.1
  have r11 : rf e 11 0 = some N := by rw [rf_v (by decide), hD.2.2.2.1.2.2.2.1]
  have r12 : rf e 12 0 = some M := by rw [rf_v (by decide), hD.2.2.2.1.2.2.2.2]
  have hp : PR n e C I z (fun F s => J11_at F (rf e 11 0) (xk (sc (i + 1))) (xk (sc (i + 2))) s) (fun F s => J12_at F (rf e 12 0) (xk (sc (i + 1))) (xk (sc (i + 2))) s) := at_pr hL.1 (hs _).1 (hs _).2 (hs _).1 (hs _).2
  rw [r11, r12] at hp
  obtain ⟨e', C', I', z', A, q1, q2, q3, q4, q5⟩ := lawA hL hp (fun o F σ h => RQ.run F _ _ _ _ _ h) (fun o F σ h => RQ.run F _ _ _ _ _ h)
  refine ⟨e', C', I', z', x, q1, fun r hr => ?_⟩
  unfold LT_22
  refine Ev.bs (rdc hD L1 i0 i1 (by decide) (by decide)) ?_
  refine Ev.bs (rdc hD L1 i0 i1 (by decide) (by decide)) ?_
  refine Ev.xg (d11 hD) (Ev.kI (q3 x) ?_)
  refine Ev.bs (rdc q2 L1 i0 i1 (by decide) (by decide)) ?_
  refine Ev.bs (rdc q2 L1 i0 i1 (by decide) (by decide)) ?_
  refine Ev.xg (d12 q2) (Ev.kI (q4 x) ?_)
  exact Ev.ite (fun _ => hr) (fun q => absurd rfl q)
theorem op23 (hL : LSt b N M Q L sc n e C I z) (hs : ∀ j, -2147483648 ≤ sc j ∧ sc j < 2147483648) (hn : n ≤ 512) (L1 : L ≤ 2560) (i0 : 0 ≤ i) (i1 : i + 5 ≤ L) : ∃ e' C' I' z' x', LSt b N M Q L sc (n + 1) e' C' I' z' ∧ ∀ r, Ev (fun F => JL_law_23 F (some b) (some N) (some M) (some Q) (xk i + xk 5) (LG Q e' C' I' z' x')) r → Ev (fun F => LT_23 F (some b) (some N) (some M) (some Q) (xk i) (LG Q e C I z x)) r := by
  have hD := hL.2.1
  have r11 : rf e 11 0 = some N := by rw [rf_v (by decide), hD.2.2.2.1.2.2.2.1]
  have r12 : rf e 12 0 = some M := by rw [rf_v (by decide), hD.2.2.2.1.2.2.2.2]
  by_cases h2 : sc (i + 2) = 0
  · have hp : PR n e C I z (fun F s => J11_share F (rf e 11 0) (xk (sc (i + 1))) (xk 0) s) (fun F s => J12_share F (rf e 12 0) (xk (sc (i + 1))) (xk 0) s) ∨ PT n e C I z 50 1 (fun F s => J11_share F (rf e 11 0) (xk (sc (i + 1))) (xk 0) s) (fun F s => J12_share F (rf e 12 0) (xk (sc (i + 1))) (xk 0) s) := share_pr hL.1 (by omega) (hs _).1 (hs _).2 (by decide) (by decide)
    rw [r11, r12] at hp
    have hp' : PR n e C I z (fun F s => J11_share F (some N) (xk (sc (i + 1))) (xk 0) s) (fun F s => J12_share F (some M) (xk (sc (i + 1))) (xk 0) s) ∨ ∃ E w, PT n e C I z E w (fun F s => J11_share F (some N) (xk (sc (i + 1))) (xk 0) s) (fun F s => J12_share F (some M) (xk (sc (i + 1))) (xk 0) s) ∧ (∀ q s, (fun e5 _ s3 => if e5 = 50 then (some (.inl (some (.inl (xk 1))), s3)) else none : Nat → Nat → XH → XR) E q s = some (.inl (some (.inl (xk w))), s)) ∧ (w = 1 ∨ w = 2) := by
      rcases hp with h | h
      · exact Or.inl h
      · exact Or.inr ⟨50, 1, h, fun q s => rfl, Or.inl rfl⟩
    obtain ⟨e', C', I', z', x', w, q1, q2, q3, q4⟩ := lawB (hd := fun e5 _ s3 => if e5 = 50 then (some (.inl (some (.inl (xk 1))), s3)) else none) (fc := (fun F s => J11_share F (some N) (xk (sc (i + 1))) (xk 0) s)) (fr := (fun F s => J12_share F (some M) (xk (sc (i + 1))) (xk 0) s)) (x := x) (i := i) hL hp' (fun o F σ h => RQ.run F _ _ _ _ _ h) (fun o F σ h => RQ.run F _ _ _ _ _ h)
    refine ⟨e', C', I', z', x', q1, fun r hr => ?_⟩
    unfold LT_23
    refine Ev.bs (rdc hD L1 i0 i1 (by decide) (by decide)) ?_
    refine Ev.bs (rdc hD L1 i0 i1 (by decide) (by decide)) ?_
    refine Ev.ite (fun _ => ?_) (fun q => absurd ((k0 (hs _).1 (hs _).2).mpr h2) q)
    refine Ev.kI (Ev.step (fun F => EL_share F _ _ _ _ _) q3) ?_
    refine Ev.bs (rdc q2 L1 i0 i1 (by decide) (by decide)) ?_
    refine Ev.bs (rdc q2 L1 i0 i1 (by decide) (by decide)) ?_
    refine Ev.ite (fun _ => ?_) (fun q => absurd ((k0 (hs _).1 (hs _).2).mpr h2) q)
    exact q4 r hr
  · have hp : PR n e C I z (fun F s => J11_share F (rf e 11 0) (xk (sc (i + 1))) (xk 1) s) (fun F s => J12_share F (rf e 12 0) (xk (sc (i + 1))) (xk 1) s) ∨ PT n e C I z 50 1 (fun F s => J11_share F (rf e 11 0) (xk (sc (i + 1))) (xk 1) s) (fun F s => J12_share F (rf e 12 0) (xk (sc (i + 1))) (xk 1) s) := share_pr hL.1 (by omega) (hs _).1 (hs _).2 (by decide) (by decide)
    rw [r11, r12] at hp
    have hp' : PR n e C I z (fun F s => J11_share F (some N) (xk (sc (i + 1))) (xk 1) s) (fun F s => J12_share F (some M) (xk (sc (i + 1))) (xk 1) s) ∨ ∃ E w, PT n e C I z E w (fun F s => J11_share F (some N) (xk (sc (i + 1))) (xk 1) s) (fun F s => J12_share F (some M) (xk (sc (i + 1))) (xk 1) s) ∧ (∀ q s, (fun e5 _ s3 => if e5 = 50 then (some (.inl (some (.inl (xk 1))), s3)) else none : Nat → Nat → XH → XR) E q s = some (.inl (some (.inl (xk w))), s)) ∧ (w = 1 ∨ w = 2) := by
      rcases hp with h | h
      · exact Or.inl h
      · exact Or.inr ⟨50, 1, h, fun q s => rfl, Or.inl rfl⟩
    obtain ⟨e', C', I', z', x', w, q1, q2, q3, q4⟩ := lawB (hd := fun e5 _ s3 => if e5 = 50 then (some (.inl (some (.inl (xk 1))), s3)) else none) (fc := (fun F s => J11_share F (some N) (xk (sc (i + 1))) (xk 1) s)) (fr := (fun F s => J12_share F (some M) (xk (sc (i + 1))) (xk 1) s)) (x := x) (i := i) hL hp' (fun o F σ h => RQ.run F _ _ _ _ _ h) (fun o F σ h => RQ.run F _ _ _ _ _ h)
    refine ⟨e', C', I', z', x', q1, fun r hr => ?_⟩
    unfold LT_23
    refine Ev.bs (rdc hD L1 i0 i1 (by decide) (by decide)) ?_
    refine Ev.bs (rdc hD L1 i0 i1 (by decide) (by decide)) ?_
    refine Ev.ite (fun q => absurd ((k0 (hs _).1 (hs _).2).mp q) h2) (fun _ => ?_)
    refine Ev.kI (Ev.step (fun F => EL_share F _ _ _ _ _) q3) ?_
    refine Ev.bs (rdc q2 L1 i0 i1 (by decide) (by decide)) ?_
    refine Ev.bs (rdc q2 L1 i0 i1 (by decide) (by decide)) ?_
    refine Ev.ite (fun q => absurd ((k0 (hs _).1 (hs _).2).mp q) h2) (fun _ => ?_)
    exact q4 r hr
theorem op24 (hL : LSt b N M Q L sc n e C I z) (hs : ∀ j, -2147483648 ≤ sc j ∧ sc j < 2147483648) (hn : n ≤ 512) (L1 : L ≤ 2560) (i0 : 0 ≤ i) (i1 : i + 5 ≤ L) : ∃ e' C' I' z' x', LSt b N M Q L sc (n + 1) e' C' I' z' ∧ ∀ r, Ev (fun F => JL_law_23 F (some b) (some N) (some M) (some Q) (xk i + xk 5) (LG Q e' C' I' z' x')) r → Ev (fun F => LT_24 F (some b) (some N) (some M) (some Q) (xk i) (LG Q e C I z x)) r := by
  have hD := hL.2.1
  have r11 : rf e 11 0 = some N := by rw [rf_v (by decide), hD.2.2.2.1.2.2.2.1]
  have r12 : rf e 12 0 = some M := by rw [rf_v (by decide), hD.2.2.2.1.2.2.2.2]
  have hp : PR n e C I z (fun F s => J11_mounted F (rf e 11 0) (xk (sc (i + 1))) (xk (sc (i + 2))) s) (fun F s => J12_mounted F (rf e 12 0) (xk (sc (i + 1))) (xk (sc (i + 2))) s) ∨ PT n e C I z 50 1 (fun F s => J11_mounted F (rf e 11 0) (xk (sc (i + 1))) (xk (sc (i + 2))) s) (fun F s => J12_mounted F (rf e 12 0) (xk (sc (i + 1))) (xk (sc (i + 2))) s) := mounted_pr hL.1 (hs _).1 (hs _).2 (hs _).1 (hs _).2
  rw [r11, r12] at hp
  have hp' : PR n e C I z (fun F s => J11_mounted F (some N) (xk (sc (i + 1))) (xk (sc (i + 2))) s) (fun F s => J12_mounted F (some M) (xk (sc (i + 1))) (xk (sc (i + 2))) s) ∨ ∃ E w, PT n e C I z E w (fun F s => J11_mounted F (some N) (xk (sc (i + 1))) (xk (sc (i + 2))) s) (fun F s => J12_mounted F (some M) (xk (sc (i + 1))) (xk (sc (i + 2))) s) ∧ (∀ q s, (fun e5 _ s3 => if e5 = 50 then (some (.inl (some (.inl (xk 1))), s3)) else none : Nat → Nat → XH → XR) E q s = some (.inl (some (.inl (xk w))), s)) ∧ (w = 1 ∨ w = 2) := by
    rcases hp with h | h
    · exact Or.inl h
    · exact Or.inr ⟨50, 1, h, fun q s => rfl, Or.inl rfl⟩
  obtain ⟨e', C', I', z', x', w, q1, q2, q3, q4⟩ := lawB (hd := fun e5 _ s3 => if e5 = 50 then (some (.inl (some (.inl (xk 1))), s3)) else none) (fc := (fun F s => J11_mounted F (some N) (xk (sc (i + 1))) (xk (sc (i + 2))) s)) (fr := (fun F s => J12_mounted F (some M) (xk (sc (i + 1))) (xk (sc (i + 2))) s)) (x := x) (i := i) hL hp' (fun o F σ h => RQ.run F _ _ _ _ _ h) (fun o F σ h => RQ.run F _ _ _ _ _ h)
  refine ⟨e', C', I', z', x', q1, fun r hr => ?_⟩
  unfold LT_24
  refine Ev.bs (rdc hD L1 i0 i1 (by decide) (by decide)) ?_
  refine Ev.bs (rdc hD L1 i0 i1 (by decide) (by decide)) ?_
  refine Ev.kI (Ev.step (fun F => EL_mounted F _ _ _ _ _) q3) ?_
  refine Ev.bs (rdc q2 L1 i0 i1 (by decide) (by decide)) ?_
  refine Ev.bs (rdc q2 L1 i0 i1 (by decide) (by decide)) ?_
  exact q4 r hr
end LAW
