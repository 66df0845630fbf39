/-! the static facts: classes -/
def XE3 (t : Nat) (r : vw_C) : Prop := (∀ w ∈ u_ws r.1 r.2.1 r.2.2, w ∈ xTs) ∧ (∀ k, k < r.2.2 → parseFieldDescriptor (r.2.1 k).2.2.1 = some (xtf t k)) ∧ (∀ a, a < r.2.2 → ∀ b, b < r.2.2 → a ≠ b → (r.2.1 a).2.1 ≠ (r.2.1 b).2.1) ∧ Cond.instantiable r.1 r.2.2 ∈ xTs ∧ Cond.initialized r.1 ∈ xTs ∧ (xdf t).length = r.2.2 ∧ (∀ j, j < r.2.2 → defaultValue (xtf t j) = vp_V ((xdf t).map xv) j) ∧ r.1 = xnm t
set_option maxRecDepth 100000 in
theorem c3_0 : XE3 0 (RX0, TX0, 3) := ⟨(show ∀ w ∈ [u_lay RX0 TX0 0, u_lay RX0 TX0 1, u_lay RX0 TX0 2], w ∈ xTs from List.forall_mem_cons.mpr ⟨xin_at 152 rfl rfl, List.forall_mem_cons.mpr ⟨xin_at 154 rfl rfl, List.forall_mem_cons.mpr ⟨xin_at 156 rfl rfl, fun _ h => absurd h List.not_mem_nil⟩⟩⟩), tyX0_ok, nmX0, xin_at 143 rfl rfl, xin_at 57 rfl rfl, rfl, fun j hj => (show ∀ j, j < 3 → defaultValue (tyX0 j) = vp_V ((xdf 0).map xv) j by decide +kernel) j hj, rfl⟩
set_option maxRecDepth 100000 in
theorem c3_1 : XE3 1 (RX1, TX1, 14) := ⟨(show ∀ w ∈ [u_lay RX1 TX1 0, u_lay RX1 TX1 1, u_lay RX1 TX1 2, u_lay RX1 TX1 3, u_lay RX1 TX1 4, u_lay RX1 TX1 5, u_lay RX1 TX1 6, u_lay RX1 TX1 7, u_lay RX1 TX1 8, u_lay RX1 TX1 9, u_lay RX1 TX1 10, u_lay RX1 TX1 11, u_lay RX1 TX1 12, u_lay RX1 TX1 13], w ∈ xTs from List.forall_mem_cons.mpr ⟨xin_at 323 rfl rfl, List.forall_mem_cons.mpr ⟨xin_at 325 rfl rfl, List.forall_mem_cons.mpr ⟨xin_at 327 rfl rfl, List.forall_mem_cons.mpr ⟨xin_at 329 rfl rfl, List.forall_mem_cons.mpr ⟨xin_at 331 rfl rfl, List.forall_mem_cons.mpr ⟨xin_at 333 rfl rfl, List.forall_mem_cons.mpr ⟨xin_at 335 rfl rfl, List.forall_mem_cons.mpr ⟨xin_at 337 rfl rfl, List.forall_mem_cons.mpr ⟨xin_at 339 rfl rfl, List.forall_mem_cons.mpr ⟨xin_at 341 rfl rfl, List.forall_mem_cons.mpr ⟨xin_at 343 rfl rfl, List.forall_mem_cons.mpr ⟨xin_at 345 rfl rfl, List.forall_mem_cons.mpr ⟨xin_at 347 rfl rfl, List.forall_mem_cons.mpr ⟨xin_at 349 rfl rfl, fun _ h => absurd h List.not_mem_nil⟩⟩⟩⟩⟩⟩⟩⟩⟩⟩⟩⟩⟩⟩), tyX1_ok, nmX1, xin_at 289 rfl rfl, xin_at 62 rfl rfl, rfl, fun j hj => (show ∀ j, j < 14 → defaultValue (tyX1 j) = vp_V ((xdf 1).map xv) j by decide +kernel) j hj, rfl⟩
set_option maxRecDepth 100000 in
theorem c3_2 : XE3 2 (RX2, TX2, 2) := ⟨(show ∀ w ∈ [u_lay RX2 TX2 0, u_lay RX2 TX2 1], w ∈ xTs from List.forall_mem_cons.mpr ⟨xin_at 93 rfl rfl, List.forall_mem_cons.mpr ⟨xin_at 95 rfl rfl, fun _ h => absurd h List.not_mem_nil⟩⟩), tyX2_ok, nmX2, xin_at 81 rfl rfl, xin_at 54 rfl rfl, rfl, fun j hj => (show ∀ j, j < 2 → defaultValue (tyX2 j) = vp_V ((xdf 2).map xv) j by decide +kernel) j hj, rfl⟩
set_option maxRecDepth 100000 in
theorem c3_3 : XE3 3 (RX3, TX3, 3) := ⟨(show ∀ w ∈ [u_lay RX3 TX3 0, u_lay RX3 TX3 1, u_lay RX3 TX3 2], w ∈ xTs from List.forall_mem_cons.mpr ⟨xin_at 135 rfl rfl, List.forall_mem_cons.mpr ⟨xin_at 137 rfl rfl, List.forall_mem_cons.mpr ⟨xin_at 139 rfl rfl, fun _ h => absurd h List.not_mem_nil⟩⟩⟩), tyX3_ok, nmX3, xin_at 126 rfl rfl, xin_at 56 rfl rfl, rfl, fun j hj => (show ∀ j, j < 3 → defaultValue (tyX3 j) = vp_V ((xdf 3).map xv) j by decide +kernel) j hj, rfl⟩
set_option maxRecDepth 100000 in
theorem c3_4 : XE3 4 (RX4, TX4, 9) := ⟨(show ∀ w ∈ [u_lay RX4 TX4 0, u_lay RX4 TX4 1, u_lay RX4 TX4 2, u_lay RX4 TX4 3, u_lay RX4 TX4 4, u_lay RX4 TX4 5, u_lay RX4 TX4 6, u_lay RX4 TX4 7, u_lay RX4 TX4 8], w ∈ xTs from List.forall_mem_cons.mpr ⟨xin_at 208 rfl rfl, List.forall_mem_cons.mpr ⟨xin_at 210 rfl rfl, List.forall_mem_cons.mpr ⟨xin_at 212 rfl rfl, List.forall_mem_cons.mpr ⟨xin_at 214 rfl rfl, List.forall_mem_cons.mpr ⟨xin_at 216 rfl rfl, List.forall_mem_cons.mpr ⟨xin_at 218 rfl rfl, List.forall_mem_cons.mpr ⟨xin_at 220 rfl rfl, List.forall_mem_cons.mpr ⟨xin_at 222 rfl rfl, List.forall_mem_cons.mpr ⟨xin_at 224 rfl rfl, fun _ h => absurd h List.not_mem_nil⟩⟩⟩⟩⟩⟩⟩⟩⟩), tyX4_ok, nmX4, xin_at 184 rfl rfl, xin_at 60 rfl rfl, rfl, fun j hj => (show ∀ j, j < 9 → defaultValue (tyX4 j) = vp_V ((xdf 4).map xv) j by decide +kernel) j hj, rfl⟩
set_option maxRecDepth 100000 in
theorem c3_5 : XE3 5 (RX5, TX5, 6) := ⟨(show ∀ w ∈ [u_lay RX5 TX5 0, u_lay RX5 TX5 1, u_lay RX5 TX5 2, u_lay RX5 TX5 3, u_lay RX5 TX5 4, u_lay RX5 TX5 5], w ∈ xTs from List.forall_mem_cons.mpr ⟨xin_at 236 rfl rfl, List.forall_mem_cons.mpr ⟨xin_at 238 rfl rfl, List.forall_mem_cons.mpr ⟨xin_at 240 rfl rfl, List.forall_mem_cons.mpr ⟨xin_at 242 rfl rfl, List.forall_mem_cons.mpr ⟨xin_at 244 rfl rfl, List.forall_mem_cons.mpr ⟨xin_at 246 rfl rfl, fun _ h => absurd h List.not_mem_nil⟩⟩⟩⟩⟩⟩), tyX5_ok, nmX5, xin_at 160 rfl rfl, xin_at 58 rfl rfl, rfl, fun j hj => (show ∀ j, j < 6 → defaultValue (tyX5 j) = vp_V ((xdf 5).map xv) j by decide +kernel) j hj, rfl⟩
set_option maxRecDepth 100000 in
theorem c3_6 : XE3 6 (RX6, TX6, 2) := ⟨(show ∀ w ∈ [u_lay RX6 TX6 0, u_lay RX6 TX6 1], w ∈ xTs from List.forall_mem_cons.mpr ⟨xin_at 179 rfl rfl, List.forall_mem_cons.mpr ⟨xin_at 181 rfl rfl, fun _ h => absurd h List.not_mem_nil⟩⟩), tyX6_ok, nmX6, xin_at 170 rfl rfl, xin_at 59 rfl rfl, rfl, fun j hj => (show ∀ j, j < 2 → defaultValue (tyX6 j) = vp_V ((xdf 6).map xv) j by decide +kernel) j hj, rfl⟩
set_option maxRecDepth 100000 in
theorem c3_7 : XE3 7 (RX7, TX7, 6) := ⟨(show ∀ w ∈ [u_lay RX7 TX7 0, u_lay RX7 TX7 1, u_lay RX7 TX7 2, u_lay RX7 TX7 3, u_lay RX7 TX7 4, u_lay RX7 TX7 5], w ∈ xTs from List.forall_mem_cons.mpr ⟨xin_at 272 rfl rfl, List.forall_mem_cons.mpr ⟨xin_at 274 rfl rfl, List.forall_mem_cons.mpr ⟨xin_at 276 rfl rfl, List.forall_mem_cons.mpr ⟨xin_at 278 rfl rfl, List.forall_mem_cons.mpr ⟨xin_at 280 rfl rfl, List.forall_mem_cons.mpr ⟨xin_at 282 rfl rfl, fun _ h => absurd h List.not_mem_nil⟩⟩⟩⟩⟩⟩), tyX7_ok, nmX7, xin_at 253 rfl rfl, xin_at 61 rfl rfl, rfl, fun j hj => (show ∀ j, j < 6 → defaultValue (tyX7 j) = vp_V ((xdf 7).map xv) j by decide +kernel) j hj, rfl⟩
set_option maxRecDepth 100000 in
theorem c3_8 : XE3 8 (RX8, TX8, 11) := ⟨(show ∀ w ∈ [u_lay RX8 TX8 0, u_lay RX8 TX8 1, u_lay RX8 TX8 2, u_lay RX8 TX8 3, u_lay RX8 TX8 4, u_lay RX8 TX8 5, u_lay RX8 TX8 6, u_lay RX8 TX8 7, u_lay RX8 TX8 8, u_lay RX8 TX8 9, u_lay RX8 TX8 10], w ∈ xTs from List.forall_mem_cons.mpr ⟨xin_at 425 rfl rfl, List.forall_mem_cons.mpr ⟨xin_at 427 rfl rfl, List.forall_mem_cons.mpr ⟨xin_at 429 rfl rfl, List.forall_mem_cons.mpr ⟨xin_at 431 rfl rfl, List.forall_mem_cons.mpr ⟨xin_at 433 rfl rfl, List.forall_mem_cons.mpr ⟨xin_at 435 rfl rfl, List.forall_mem_cons.mpr ⟨xin_at 437 rfl rfl, List.forall_mem_cons.mpr ⟨xin_at 439 rfl rfl, List.forall_mem_cons.mpr ⟨xin_at 441 rfl rfl, List.forall_mem_cons.mpr ⟨xin_at 443 rfl rfl, List.forall_mem_cons.mpr ⟨xin_at 445 rfl rfl, fun _ h => absurd h List.not_mem_nil⟩⟩⟩⟩⟩⟩⟩⟩⟩⟩⟩), tyX8_ok, nmX8, xin_at 388 rfl rfl, xin_at 64 rfl rfl, rfl, fun j hj => (show ∀ j, j < 11 → defaultValue (tyX8 j) = vp_V ((xdf 8).map xv) j by decide +kernel) j hj, rfl⟩
set_option maxRecDepth 100000 in
theorem c3_9 : XE3 9 (RX9, TX9, 4) := ⟨(show ∀ w ∈ [u_lay RX9 TX9 0, u_lay RX9 TX9 1, u_lay RX9 TX9 2, u_lay RX9 TX9 3], w ∈ xTs from List.forall_mem_cons.mpr ⟨xin_at 116 rfl rfl, List.forall_mem_cons.mpr ⟨xin_at 118 rfl rfl, List.forall_mem_cons.mpr ⟨xin_at 120 rfl rfl, List.forall_mem_cons.mpr ⟨xin_at 122 rfl rfl, fun _ h => absurd h List.not_mem_nil⟩⟩⟩⟩), tyX9_ok, nmX9, xin_at 99 rfl rfl, xin_at 55 rfl rfl, rfl, fun j hj => (show ∀ j, j < 4 → defaultValue (tyX9 j) = vp_V ((xdf 9).map xv) j by decide +kernel) j hj, rfl⟩
set_option maxRecDepth 100000 in
theorem c3_10 : XE3 10 (RX10, TX10, 2) := ⟨(show ∀ w ∈ [u_lay RX10 TX10 0, u_lay RX10 TX10 1], w ∈ xTs from List.forall_mem_cons.mpr ⟨xin_at 371 rfl rfl, List.forall_mem_cons.mpr ⟨xin_at 373 rfl rfl, fun _ h => absurd h List.not_mem_nil⟩⟩), tyX10_ok, nmX10, xin_at 360 rfl rfl, xin_at 63 rfl rfl, rfl, fun j hj => (show ∀ j, j < 2 → defaultValue (tyX10 j) = vp_V ((xdf 10).map xv) j by decide +kernel) j hj, rfl⟩
set_option maxRecDepth 100000 in
theorem c3_11 : XE3 11 (RX11, TX11, 5) := ⟨(show ∀ w ∈ [u_lay RX11 TX11 0, u_lay RX11 TX11 1, u_lay RX11 TX11 2, u_lay RX11 TX11 3, u_lay RX11 TX11 4], w ∈ xTs from List.forall_mem_cons.mpr ⟨xin_at 465 rfl rfl, List.forall_mem_cons.mpr ⟨xin_at 467 rfl rfl, List.forall_mem_cons.mpr ⟨xin_at 469 rfl rfl, List.forall_mem_cons.mpr ⟨xin_at 471 rfl rfl, List.forall_mem_cons.mpr ⟨xin_at 473 rfl rfl, fun _ h => absurd h List.not_mem_nil⟩⟩⟩⟩⟩), tyX11_ok, nmX11, xin_at 73 rfl rfl, xin_at 53 rfl rfl, rfl, fun j hj => (show ∀ j, j < 5 → defaultValue (tyX11 j) = vp_V ((xdf 11).map xv) j by decide +kernel) j hj, rfl⟩
set_option maxRecDepth 100000 in
theorem c3_12 : XE3 12 (RX12, TX12, 41) := ⟨(show ∀ w ∈ [u_lay RX12 TX12 0, u_lay RX12 TX12 1, u_lay RX12 TX12 2, u_lay RX12 TX12 3, u_lay RX12 TX12 4, u_lay RX12 TX12 5, u_lay RX12 TX12 6, u_lay RX12 TX12 7, u_lay RX12 TX12 8, u_lay RX12 TX12 9, u_lay RX12 TX12 10, u_lay RX12 TX12 11, u_lay RX12 TX12 12, u_lay RX12 TX12 13, u_lay RX12 TX12 14, u_lay RX12 TX12 15, u_lay RX12 TX12 16, u_lay RX12 TX12 17, u_lay RX12 TX12 18, u_lay RX12 TX12 19, u_lay RX12 TX12 20, u_lay RX12 TX12 21, u_lay RX12 TX12 22, u_lay RX12 TX12 23, u_lay RX12 TX12 24, u_lay RX12 TX12 25, u_lay RX12 TX12 26, u_lay RX12 TX12 27, u_lay RX12 TX12 28, u_lay RX12 TX12 29, u_lay RX12 TX12 30, u_lay RX12 TX12 31, u_lay RX12 TX12 32, u_lay RX12 TX12 33, u_lay RX12 TX12 34, u_lay RX12 TX12 35, u_lay RX12 TX12 36, u_lay RX12 TX12 37, u_lay RX12 TX12 38, u_lay RX12 TX12 39, u_lay RX12 TX12 40], w ∈ xTs from List.forall_mem_cons.mpr ⟨xin_at 1088 rfl rfl, List.forall_mem_cons.mpr ⟨xin_at 1090 rfl rfl, List.forall_mem_cons.mpr ⟨xin_at 1092 rfl rfl, List.forall_mem_cons.mpr ⟨xin_at 1094 rfl rfl, List.forall_mem_cons.mpr ⟨xin_at 1096 rfl rfl, List.forall_mem_cons.mpr ⟨xin_at 1098 rfl rfl, List.forall_mem_cons.mpr ⟨xin_at 1100 rfl rfl, List.forall_mem_cons.mpr ⟨xin_at 1102 rfl rfl, List.forall_mem_cons.mpr ⟨xin_at 1104 rfl rfl, List.forall_mem_cons.mpr ⟨xin_at 1106 rfl rfl, List.forall_mem_cons.mpr ⟨xin_at 1108 rfl rfl, List.forall_mem_cons.mpr ⟨xin_at 1110 rfl rfl, List.forall_mem_cons.mpr ⟨xin_at 1112 rfl rfl, List.forall_mem_cons.mpr ⟨xin_at 1114 rfl rfl, List.forall_mem_cons.mpr ⟨xin_at 1116 rfl rfl, List.forall_mem_cons.mpr ⟨xin_at 1118 rfl rfl, List.forall_mem_cons.mpr ⟨xin_at 1120 rfl rfl, List.forall_mem_cons.mpr ⟨xin_at 1122 rfl rfl, List.forall_mem_cons.mpr ⟨xin_at 1124 rfl rfl, List.forall_mem_cons.mpr ⟨xin_at 1126 rfl rfl, List.forall_mem_cons.mpr ⟨xin_at 1128 rfl rfl, List.forall_mem_cons.mpr ⟨xin_at 1130 rfl rfl, List.forall_mem_cons.mpr ⟨xin_at 1132 rfl rfl, List.forall_mem_cons.mpr ⟨xin_at 1134 rfl rfl, List.forall_mem_cons.mpr ⟨xin_at 1136 rfl rfl, List.forall_mem_cons.mpr ⟨xin_at 1138 rfl rfl, List.forall_mem_cons.mpr ⟨xin_at 1140 rfl rfl, List.forall_mem_cons.mpr ⟨xin_at 1142 rfl rfl, List.forall_mem_cons.mpr ⟨xin_at 1144 rfl rfl, List.forall_mem_cons.mpr ⟨xin_at 1146 rfl rfl, List.forall_mem_cons.mpr ⟨xin_at 1148 rfl rfl, List.forall_mem_cons.mpr ⟨xin_at 1150 rfl rfl, List.forall_mem_cons.mpr ⟨xin_at 1152 rfl rfl, List.forall_mem_cons.mpr ⟨xin_at 1154 rfl rfl, List.forall_mem_cons.mpr ⟨xin_at 1156 rfl rfl, List.forall_mem_cons.mpr ⟨xin_at 1158 rfl rfl, List.forall_mem_cons.mpr ⟨xin_at 1160 rfl rfl, List.forall_mem_cons.mpr ⟨xin_at 1162 rfl rfl, List.forall_mem_cons.mpr ⟨xin_at 1164 rfl rfl, List.forall_mem_cons.mpr ⟨xin_at 1166 rfl rfl, List.forall_mem_cons.mpr ⟨xin_at 1168 rfl rfl, fun _ h => absurd h List.not_mem_nil⟩⟩⟩⟩⟩⟩⟩⟩⟩⟩⟩⟩⟩⟩⟩⟩⟩⟩⟩⟩⟩⟩⟩⟩⟩⟩⟩⟩⟩⟩⟩⟩⟩⟩⟩⟩⟩⟩⟩⟩⟩), tyX12_ok, nmX12, xin_at 1033 rfl rfl, xin_at 65 rfl rfl, rfl, fun j hj => (show ∀ j, j < 41 → defaultValue (tyX12 j) = vp_V ((xdf 12).map xv) j by decide +kernel) j hj, rfl⟩
theorem xs3 : XS3 := by
  intro t C T N h
  have hl := xcl_lt h
  have key : ∀ r, vwCl[t]? = some r → XE3 t r := by
    intro r hr
    rcases (by omega : t = 0 ∨ t = 1 ∨ t = 2 ∨ t = 3 ∨ t = 4 ∨ t = 5 ∨ t = 6 ∨ t = 7 ∨ t = 8 ∨ t = 9 ∨ t = 10 ∨ t = 11 ∨ t = 12) with rfl | rfl | rfl | rfl | rfl | rfl | rfl | rfl | rfl | rfl | rfl | rfl | rfl
    · cases Option.some.inj ((show vwCl[0]? = some (RX0, TX0, 3) from rfl).symm.trans hr); exact c3_0
    · cases Option.some.inj ((show vwCl[1]? = some (RX1, TX1, 14) from rfl).symm.trans hr); exact c3_1
    · cases Option.some.inj ((show vwCl[2]? = some (RX2, TX2, 2) from rfl).symm.trans hr); exact c3_2
    · cases Option.some.inj ((show vwCl[3]? = some (RX3, TX3, 3) from rfl).symm.trans hr); exact c3_3
    · cases Option.some.inj ((show vwCl[4]? = some (RX4, TX4, 9) from rfl).symm.trans hr); exact c3_4
    · cases Option.some.inj ((show vwCl[5]? = some (RX5, TX5, 6) from rfl).symm.trans hr); exact c3_5
    · cases Option.some.inj ((show vwCl[6]? = some (RX6, TX6, 2) from rfl).symm.trans hr); exact c3_6
    · cases Option.some.inj ((show vwCl[7]? = some (RX7, TX7, 6) from rfl).symm.trans hr); exact c3_7
    · cases Option.some.inj ((show vwCl[8]? = some (RX8, TX8, 11) from rfl).symm.trans hr); exact c3_8
    · cases Option.some.inj ((show vwCl[9]? = some (RX9, TX9, 4) from rfl).symm.trans hr); exact c3_9
    · cases Option.some.inj ((show vwCl[10]? = some (RX10, TX10, 2) from rfl).symm.trans hr); exact c3_10
    · cases Option.some.inj ((show vwCl[11]? = some (RX11, TX11, 5) from rfl).symm.trans hr); exact c3_11
    · cases Option.some.inj ((show vwCl[12]? = some (RX12, TX12, 41) from rfl).symm.trans hr); exact c3_12
  exact key _ h
def XE4 (e : Nat × Nat) : Prop := (e.2 < 13 → Cond.classLink (xnm (e.1 / 1000)) (e.1 % 1000) (xnm e.2) ∈ xTs) ∧ (e.2 < 13 ∨ e.2 = 50 ∨ e.2 = 51)
set_option maxRecDepth 20000 in
theorem k4_2009 : XE4 (2009, 1) := ⟨fun _ => xin_at 86 rfl rfl, by decide⟩
set_option maxRecDepth 20000 in
theorem k4_4009 : XE4 (4009, 4) := ⟨fun _ => xin_at 189 rfl rfl, by decide⟩
set_option maxRecDepth 20000 in
theorem k4_5009 : XE4 (5009, 4) := ⟨fun _ => xin_at 165 rfl rfl, by decide⟩
set_option maxRecDepth 20000 in
theorem k4_5017 : XE4 (5017, 10) := ⟨fun _ => xin_at 167 rfl rfl, by decide⟩
set_option maxRecDepth 20000 in
theorem k4_5023 : XE4 (5023, 6) := ⟨fun _ => xin_at 169 rfl rfl, by decide⟩
set_option maxRecDepth 20000 in
theorem k4_7009 : XE4 (7009, 8) := ⟨fun _ => xin_at 258 rfl rfl, by decide⟩
set_option maxRecDepth 20000 in
theorem k4_9009 : XE4 (9009, 8) := ⟨fun _ => xin_at 104 rfl rfl, by decide⟩
set_option maxRecDepth 20000 in
theorem k4_9017 : XE4 (9017, 7) := ⟨fun _ => xin_at 106 rfl rfl, by decide⟩
set_option maxRecDepth 20000 in
theorem k4_11007 : XE4 (11007, 2) := ⟨fun _ => xin_at 80 rfl rfl, by decide⟩
set_option maxRecDepth 20000 in
theorem k4_11016 : XE4 (11016, 9) := ⟨fun _ => xin_at 98 rfl rfl, by decide⟩
set_option maxRecDepth 20000 in
theorem k4_11023 : XE4 (11023, 3) := ⟨fun _ => xin_at 125 rfl rfl, by decide⟩
set_option maxRecDepth 20000 in
theorem k4_11032 : XE4 (11032, 0) := ⟨fun _ => xin_at 142 rfl rfl, by decide⟩
set_option maxRecDepth 20000 in
theorem k4_11039 : XE4 (11039, 5) := ⟨fun _ => xin_at 159 rfl rfl, by decide⟩
theorem k4_11129 : XE4 (11129, 50) := ⟨fun h => absurd h (by decide), by decide⟩
theorem k4_11193 : XE4 (11193, 51) := ⟨fun h => absurd h (by decide), by decide⟩
set_option maxRecDepth 20000 in
theorem k4_13008 : XE4 (13008, 11) := ⟨fun _ => xin_at 72 rfl rfl, by decide⟩
set_option maxRecDepth 20000 in
theorem k4_13061 : XE4 (13061, 12) := ⟨fun _ => xin_at 1032 rfl rfl, by decide⟩
theorem xcd_all : ∀ e ∈ xcdL, XE4 e := List.forall_mem_cons.mpr ⟨k4_2009, List.forall_mem_cons.mpr ⟨k4_4009, List.forall_mem_cons.mpr ⟨k4_5009, List.forall_mem_cons.mpr ⟨k4_5017, List.forall_mem_cons.mpr ⟨k4_5023, List.forall_mem_cons.mpr ⟨k4_7009, List.forall_mem_cons.mpr ⟨k4_9009, List.forall_mem_cons.mpr ⟨k4_9017, List.forall_mem_cons.mpr ⟨k4_11007, List.forall_mem_cons.mpr ⟨k4_11016, List.forall_mem_cons.mpr ⟨k4_11023, List.forall_mem_cons.mpr ⟨k4_11032, List.forall_mem_cons.mpr ⟨k4_11039, List.forall_mem_cons.mpr ⟨k4_11129, List.forall_mem_cons.mpr ⟨k4_11193, List.forall_mem_cons.mpr ⟨k4_13008, List.forall_mem_cons.mpr ⟨k4_13061, fun _ h => absurd h List.not_mem_nil⟩⟩⟩⟩⟩⟩⟩⟩⟩⟩⟩⟩⟩⟩⟩⟩⟩
theorem xs4 : XS4 := by
  intro o x c h hc
  obtain ⟨h1, h2, h3⟩ := xlk_key (l := xcdL) h
  have h4 := (xcd_all _ h1).1 hc
  rw [show ((1000 * o + x, c) : Nat × Nat).1 = 1000 * o + x from rfl, h2, h3] at h4
  exact h4
theorem xs4b : XS4b := by
  intro o x c h
  obtain ⟨h1, h2, h3⟩ := xlk_key (l := xcdL) h
  exact (xcd_all _ h1).2
def XE5 (e : Nat × Int32) : Prop := Cond.constant (xnm (e.1 / 1000)) (e.1 % 1000) e.2 ∈ xTs
def XE5l (e : Nat × Int64) : Prop := Cond.constantLong (xnm (e.1 / 1000)) (e.1 % 1000) e.2 ∈ xTs
set_option maxRecDepth 20000 in
theorem xqi_all : ∀ e ∈ xqiL, XE5 e := List.forall_mem_cons.mpr ⟨xin_at 971 rfl rfl, List.forall_mem_cons.mpr ⟨xin_at 294 rfl rfl, List.forall_mem_cons.mpr ⟨xin_at 878 rfl rfl, List.forall_mem_cons.mpr ⟨xin_at 1042 rfl rfl, fun _ h => absurd h List.not_mem_nil⟩⟩⟩⟩
set_option maxRecDepth 20000 in
theorem xql_all : ∀ e ∈ xqlL, XE5l e := List.forall_mem_cons.mpr ⟨xin_at 970 rfl rfl, List.forall_mem_cons.mpr ⟨xin_at 548 rfl rfl, List.forall_mem_cons.mpr ⟨xin_at 664 rfl rfl, List.forall_mem_cons.mpr ⟨xin_at 1270 rfl rfl, List.forall_mem_cons.mpr ⟨xin_at 1283 rfl rfl, List.forall_mem_cons.mpr ⟨xin_at 1288 rfl rfl, List.forall_mem_cons.mpr ⟨xin_at 1301 rfl rfl, List.forall_mem_cons.mpr ⟨xin_at 1302 rfl rfl, List.forall_mem_cons.mpr ⟨xin_at 1303 rfl rfl, List.forall_mem_cons.mpr ⟨xin_at 1304 rfl rfl, List.forall_mem_cons.mpr ⟨xin_at 1305 rfl rfl, List.forall_mem_cons.mpr ⟨xin_at 1350 rfl rfl, List.forall_mem_cons.mpr ⟨xin_at 1351 rfl rfl, List.forall_mem_cons.mpr ⟨xin_at 1233 rfl rfl, List.forall_mem_cons.mpr ⟨xin_at 1361 rfl rfl, List.forall_mem_cons.mpr ⟨xin_at 1356 rfl rfl, List.forall_mem_cons.mpr ⟨xin_at 1378 rfl rfl, List.forall_mem_cons.mpr ⟨xin_at 1415 rfl rfl, List.forall_mem_cons.mpr ⟨xin_at 1416 rfl rfl, fun _ h => absurd h List.not_mem_nil⟩⟩⟩⟩⟩⟩⟩⟩⟩⟩⟩⟩⟩⟩⟩⟩⟩⟩⟩
set_option maxRecDepth 20000 in
theorem xs5 : XS5 := by
  refine ⟨fun o x v h => ?_, fun o x v h => ?_, xin_at 1171 rfl rfl, xin_at 1173 rfl rfl, xin_at 1172 rfl rfl⟩
  · obtain ⟨h1, h2, h3⟩ := xlk_key (l := xqiL) h
    have h4 := xqi_all _ h1
    unfold XE5 at h4
    rw [show ((1000 * o + x, v) : Nat × Int32).1 = 1000 * o + x from rfl, h2, h3] at h4
    exact h4
  · obtain ⟨h1, h2, h3⟩ := xlk_key (l := xqlL) h
    have h4 := xql_all _ h1
    unfold XE5l at h4
    rw [show ((1000 * o + x, v) : Nat × Int64).1 = 1000 * o + x from rfl, h2, h3] at h4
    exact h4
def XE6 (e : Nat × Nat) : Prop := (e.2 = 0 → Cond.fieldLink (xnm (e.1 / 1000)) (e.1 % 1000) "TaskTrees" "SET_LEAST" "[I" ∈ xTs) ∧ (e.2 ≠ 0 → Cond.fieldLink (xnm (e.1 / 1000)) (e.1 % 1000) "TaskTrees" "SET_MOST" "[I" ∈ xTs)
set_option maxRecDepth 20000 in
theorem xsd_all : ∀ e ∈ xsdL, XE6 e := List.forall_mem_cons.mpr ⟨⟨fun _ => xin_at 831 rfl rfl, fun h => absurd rfl h⟩, List.forall_mem_cons.mpr ⟨⟨fun h => absurd h (by decide), fun _ => xin_at 833 rfl rfl⟩, fun _ h => absurd h List.not_mem_nil⟩⟩
theorem xs6 : XS6 := by
  refine ⟨fun o x h => ?_, fun o x j h hj => ?_⟩
  · obtain ⟨h1, h2, h3⟩ := xlk_key (l := xsdL) h
    have h4 := (xsd_all _ h1).1 rfl
    rw [show ((1000 * o + x, 0) : Nat × Nat).1 = 1000 * o + x from rfl, h2, h3] at h4
    exact h4
  · obtain ⟨h1, h2, h3⟩ := xlk_key (l := xsdL) h
    have h4 := (xsd_all _ h1).2 hj
    rw [show ((1000 * o + x, j) : Nat × Nat).1 = 1000 * o + x from rfl, h2, h3] at h4
    exact h4
