/-! helpers: static facts, and what they catch -/
theorem xs9 : XS9 := by
  intro o x E h hE
  obtain ⟨h1, h2, h3⟩ := xlk_key (l := xcdL) h
  have key : ∀ e ∈ xcdL, e.2 = 50 ∨ e.2 = 51 → e.1 / 1000 = 11 := by decide
  have := key _ h1 hE
  rw [show ((1000 * o + x, E) : Nat × Nat).1 = 1000 * o + x from rfl, h2] at this
  exact this
theorem xhs_range {mi : Nat} (h : xhs mi = true) : 180 ≤ mi ∧ mi ≤ 193 := by
  unfold xhs at h
  cases hb : Nat.ble 180 mi with
  | false => rw [hb] at h; cases h
  | true =>
    rw [hb] at h
    exact ⟨Nat.le_of_ble_eq_true hb, Nat.le_of_ble_eq_true h⟩
def xnoinv (q : Nat × Instr × Nat) : Bool := match q.2.1 with
  | .invokestatic _ => false
  | .invokespecial _ => false
  | _ => true
def xvpc (n : Nat) (q : Nat × Instr × Nat) : Bool := match q.2.1 with
  | .invokevirtual _ => decide (q.1 = n)
  | _ => true
theorem nv_180 : T_180_0.all xnoinv = true := by decide
theorem vp_180 : T_180_0.all (xvpc 5) = true := by decide
theorem nv_181 : T_181_0.all xnoinv = true := by decide
theorem vp_181 : T_181_0.all (xvpc 5) = true := by decide
theorem nv_182 : T_182_0.all xnoinv = true := by decide
theorem vp_182 : T_182_0.all (xvpc 5) = true := by decide
theorem nv_183 : T_183_0.all xnoinv = true := by decide
theorem vp_183 : T_183_0.all (xvpc 4) = true := by decide
theorem nv_184 : T_184_0.all xnoinv = true := by decide
theorem vp_184 : T_184_0.all (xvpc 7) = true := by decide
theorem nv_185 : T_185_0.all xnoinv = true := by decide
theorem vp_185 : T_185_0.all (xvpc 5) = true := by decide
theorem nv_186 : T_186_0.all xnoinv = true := by decide
theorem vp_186 : T_186_0.all (xvpc 5) = true := by decide
theorem nv_187 : T_187_0.all xnoinv = true := by decide
theorem vp_187 : T_187_0.all (xvpc 5) = true := by decide
theorem nv_188 : T_188_0.all xnoinv = true := by decide
theorem vp_188 : T_188_0.all (xvpc 5) = true := by decide
theorem nv_189 : T_189_0.all xnoinv = true := by decide
theorem vp_189 : T_189_0.all (xvpc 5) = true := by decide
theorem nv_190 : T_190_0.all xnoinv = true := by decide
theorem vp_190 : T_190_0.all (xvpc 4) = true := by decide
theorem nv_191 : T_191_0.all xnoinv = true := by decide
theorem vp_191 : T_191_0.all (xvpc 9) = true := by decide
theorem nv_192 : T_192_0.all xnoinv = true := by decide
theorem vp_192 : T_192_0.all (xvpc 5) = true := by decide
theorem nv_193 : T_193_0.all xnoinv = true := by decide
theorem vp_193 : T_193_0.all (xvpc 5) = true := by decide
theorem xs10 : XS10 := by
  intro mi p i len hh h
  have h1 := xlk_mem _ _ _ h
  have key : xnoinv (p, i, len) = true := by
    rcases (by have := xhs_range hh; omega : mi = 180 ∨ mi = 181 ∨ mi = 182 ∨ mi = 183 ∨ mi = 184 ∨ mi = 185 ∨ mi = 186 ∨ mi = 187 ∨ mi = 188 ∨ mi = 189 ∨ mi = 190 ∨ mi = 191 ∨ mi = 192 ∨ mi = 193) with rfl | rfl | rfl | rfl | rfl | rfl | rfl | rfl | rfl | rfl | rfl | rfl | rfl | rfl
    · exact List.all_eq_true.mp nv_180 _ h1
    · exact List.all_eq_true.mp nv_181 _ h1
    · exact List.all_eq_true.mp nv_182 _ h1
    · exact List.all_eq_true.mp nv_183 _ h1
    · exact List.all_eq_true.mp nv_184 _ h1
    · exact List.all_eq_true.mp nv_185 _ h1
    · exact List.all_eq_true.mp nv_186 _ h1
    · exact List.all_eq_true.mp nv_187 _ h1
    · exact List.all_eq_true.mp nv_188 _ h1
    · exact List.all_eq_true.mp nv_189 _ h1
    · exact List.all_eq_true.mp nv_190 _ h1
    · exact List.all_eq_true.mp nv_191 _ h1
    · exact List.all_eq_true.mp nv_192 _ h1
    · exact List.all_eq_true.mp nv_193 _ h1
  constructor
  · rintro x rfl
    cases key
  · rintro x rfl
    cases key
set_option maxRecDepth 20000 in
theorem ch_180 : XCh 180 4 := ⟨xin_at 710 rfl rfl, by decide +kernel, by decide +kernel, by decide +kernel, by decide, by decide +kernel, rfl, fun h => absurd h (by decide), rfl, rfl⟩
set_option maxRecDepth 20000 in
theorem ch_181 : XCh 181 4 := ⟨xin_at 793 rfl rfl, by decide +kernel, by decide +kernel, by decide +kernel, by decide, by decide +kernel, rfl, fun h => absurd h (by decide), rfl, rfl⟩
set_option maxRecDepth 20000 in
theorem ch_182 : XCh 182 4 := ⟨xin_at 800 rfl rfl, by decide +kernel, by decide +kernel, by decide +kernel, by decide, by decide +kernel, rfl, fun h => absurd h (by decide), rfl, rfl⟩
set_option maxRecDepth 20000 in
theorem ch_183 : XCh 183 3 := ⟨xin_at 812 rfl rfl, by decide +kernel, by decide +kernel, by decide +kernel, by decide, by decide +kernel, rfl, fun h => absurd h (by decide), rfl, rfl⟩
set_option maxRecDepth 20000 in
theorem ch_184 : XCh 184 5 := ⟨xin_at 824 rfl rfl, by decide +kernel, by decide +kernel, by decide +kernel, by decide, by decide +kernel, rfl, fun h => absurd h (by decide), rfl, rfl⟩
set_option maxRecDepth 20000 in
theorem ch_185 : XCh 185 4 := ⟨xin_at 865 rfl rfl, by decide +kernel, by decide +kernel, by decide +kernel, by decide, by decide +kernel, rfl, fun h => absurd h (by decide), rfl, rfl⟩
set_option maxRecDepth 20000 in
theorem ch_186 : XCh 186 4 := ⟨xin_at 873 rfl rfl, by decide +kernel, by decide +kernel, by decide +kernel, by decide, by decide +kernel, rfl, fun h => absurd h (by decide), rfl, rfl⟩
set_option maxRecDepth 20000 in
theorem ch_187 : XCh 187 4 := ⟨xin_at 926 rfl rfl, by decide +kernel, by decide +kernel, by decide +kernel, by decide, by decide +kernel, rfl, fun h => absurd h (by decide), rfl, rfl⟩
set_option maxRecDepth 20000 in
theorem ch_188 : XCh 188 4 := ⟨xin_at 934 rfl rfl, by decide +kernel, by decide +kernel, by decide +kernel, by decide, by decide +kernel, rfl, fun h => absurd h (by decide), rfl, rfl⟩
set_option maxRecDepth 20000 in
theorem ch_189 : XCh 189 4 := ⟨xin_at 942 rfl rfl, by decide +kernel, by decide +kernel, by decide +kernel, by decide, by decide +kernel, rfl, fun h => absurd h (by decide), rfl, rfl⟩
set_option maxRecDepth 20000 in
theorem ch_190 : XCh 190 3 := ⟨xin_at 950 rfl rfl, by decide +kernel, by decide +kernel, by decide +kernel, by decide, by decide +kernel, rfl, fun h => absurd h (by decide), rfl, rfl⟩
set_option maxRecDepth 20000 in
theorem ch_191 : XCh 191 6 := ⟨xin_at 978 rfl rfl, by decide +kernel, by decide +kernel, by decide +kernel, by decide, by decide +kernel, rfl, fun h => absurd h (by decide), rfl, rfl⟩
set_option maxRecDepth 20000 in
theorem ch_192 : XCh 192 4 := ⟨xin_at 1002 rfl rfl, by decide +kernel, by decide +kernel, by decide +kernel, by decide, by decide +kernel, rfl, fun h => absurd h (by decide), rfl, rfl⟩
set_option maxRecDepth 20000 in
theorem ch_193 : XCh 193 4 := ⟨xin_at 1018 rfl rfl, by decide +kernel, by decide +kernel, by decide +kernel, by decide, by decide +kernel, rfl, fun h => absurd h (by decide), rfl, rfl⟩
def XE11 (e : Nat × Nat × Nat × Nat × Nat) : Prop := e.2.2.2.2 = 96 → XCh e.2.1 e.2.2.1 ∧ Cond.methodLink (xnm (e.1 / 1000)) (e.1 % 1000) (xyn e.2.1) ∈ xTs ∧ Cond.static (xyn e.2.1) ∈ xTs ∧ Cond.initialized (xyn e.2.1).cls ∈ xTs
set_option maxRecDepth 20000 in
theorem h11_13081 : XE11 (13081, 180, 4, 1, 96) := fun _ => ⟨ch_180, xin_at 708 rfl rfl, xin_at 709 rfl rfl, xin_at 52 rfl rfl⟩
set_option maxRecDepth 20000 in
theorem h11_13091 : XE11 (13091, 181, 4, 1, 96) := fun _ => ⟨ch_181, xin_at 791 rfl rfl, xin_at 792 rfl rfl, xin_at 52 rfl rfl⟩
set_option maxRecDepth 20000 in
theorem h11_13094 : XE11 (13094, 182, 4, 1, 96) := fun _ => ⟨ch_182, xin_at 798 rfl rfl, xin_at 799 rfl rfl, xin_at 52 rfl rfl⟩
set_option maxRecDepth 20000 in
theorem h11_13097 : XE11 (13097, 183, 3, 1, 96) := fun _ => ⟨ch_183, xin_at 810 rfl rfl, xin_at 811 rfl rfl, xin_at 52 rfl rfl⟩
set_option maxRecDepth 20000 in
theorem h11_13105 : XE11 (13105, 184, 5, 1, 96) := fun _ => ⟨ch_184, xin_at 822 rfl rfl, xin_at 823 rfl rfl, xin_at 52 rfl rfl⟩
set_option maxRecDepth 20000 in
theorem h11_13109 : XE11 (13109, 185, 4, 1, 96) := fun _ => ⟨ch_185, xin_at 863 rfl rfl, xin_at 864 rfl rfl, xin_at 52 rfl rfl⟩
set_option maxRecDepth 20000 in
theorem h11_13112 : XE11 (13112, 186, 4, 1, 96) := fun _ => ⟨ch_186, xin_at 871 rfl rfl, xin_at 872 rfl rfl, xin_at 52 rfl rfl⟩
set_option maxRecDepth 20000 in
theorem h11_13115 : XE11 (13115, 187, 4, 1, 96) := fun _ => ⟨ch_187, xin_at 924 rfl rfl, xin_at 925 rfl rfl, xin_at 52 rfl rfl⟩
set_option maxRecDepth 20000 in
theorem h11_13118 : XE11 (13118, 188, 4, 1, 96) := fun _ => ⟨ch_188, xin_at 932 rfl rfl, xin_at 933 rfl rfl, xin_at 52 rfl rfl⟩
set_option maxRecDepth 20000 in
theorem h11_13125 : XE11 (13125, 189, 4, 1, 96) := fun _ => ⟨ch_189, xin_at 940 rfl rfl, xin_at 941 rfl rfl, xin_at 52 rfl rfl⟩
set_option maxRecDepth 20000 in
theorem h11_13128 : XE11 (13128, 190, 3, 1, 96) := fun _ => ⟨ch_190, xin_at 948 rfl rfl, xin_at 949 rfl rfl, xin_at 52 rfl rfl⟩
set_option maxRecDepth 20000 in
theorem h11_13144 : XE11 (13144, 191, 6, 1, 96) := fun _ => ⟨ch_191, xin_at 976 rfl rfl, xin_at 977 rfl rfl, xin_at 52 rfl rfl⟩
set_option maxRecDepth 20000 in
theorem h11_13156 : XE11 (13156, 192, 4, 1, 96) := fun _ => ⟨ch_192, xin_at 1000 rfl rfl, xin_at 1001 rfl rfl, xin_at 52 rfl rfl⟩
set_option maxRecDepth 20000 in
theorem h11_13160 : XE11 (13160, 193, 4, 1, 96) := fun _ => ⟨ch_193, xin_at 1016 rfl rfl, xin_at 1017 rfl rfl, xin_at 52 rfl rfl⟩
set_option maxRecDepth 100000 in
theorem xmd11 : ∀ e ∈ xmdL, XE11 e := List.forall_mem_cons.mpr ⟨(fun h => absurd h (by decide) : XE11 (3, 0, 0, 0, 92)), List.forall_mem_cons.mpr ⟨(fun h => absurd h (by decide) : XE11 (19, 4, 1, 0, 0)), List.forall_mem_cons.mpr ⟨(fun h => absurd h (by decide) : XE11 (23, 7, 0, 3, 0)), List.forall_mem_cons.mpr ⟨(fun h => absurd h (by decide) : XE11 (27, 8, 1, 0, 0)), List.forall_mem_cons.mpr ⟨(fun h => absurd h (by decide) : XE11 (34, 9, 0, 0, 0)), List.forall_mem_cons.mpr ⟨(fun h => absurd h (by decide) : XE11 (43, 22, 0, 2, 1)), List.forall_mem_cons.mpr ⟨(fun h => absurd h (by decide) : XE11 (49, 0, 2, 2, 94)), List.forall_mem_cons.mpr ⟨(fun h => absurd h (by decide) : XE11 (85, 70, 0, 1, 8)), List.forall_mem_cons.mpr ⟨(fun h => absurd h (by decide) : XE11 (89, 5, 1, 0, 0)), List.forall_mem_cons.mpr ⟨(fun h => absurd h (by decide) : XE11 (92, 20, 0, 1, 1)), List.forall_mem_cons.mpr ⟨(fun h => absurd h (by decide) : XE11 (93, 6, 1, 0, 0)), List.forall_mem_cons.mpr ⟨(fun h => absurd h (by decide) : XE11 (97, 25, 1, 3, 2)), List.forall_mem_cons.mpr ⟨(fun h => absurd h (by decide) : XE11 (101, 21, 0, 1, 1)), List.forall_mem_cons.mpr ⟨(fun h => absurd h (by decide) : XE11 (1003, 0, 0, 0, 92)), List.forall_mem_cons.mpr ⟨(fun h => absurd h (by decide) : XE11 (1041, 12, 1, 0, 1)), List.forall_mem_cons.mpr ⟨(fun h => absurd h (by decide) : XE11 (1050, 11, 1, 1, 1)), List.forall_mem_cons.mpr ⟨(fun h => absurd h (by decide) : XE11 (1057, 15, 1, 1, 1)), List.forall_mem_cons.mpr ⟨(fun h => absurd h (by decide) : XE11 (1061, 23, 1, 1, 1)), List.forall_mem_cons.mpr ⟨(fun h => absurd h (by decide) : XE11 (1082, 21, 0, 1, 1)), List.forall_mem_cons.mpr ⟨(fun h => absurd h (by decide) : XE11 (2003, 0, 0, 0, 92)), List.forall_mem_cons.mpr ⟨(fun h => absurd h (by decide) : XE11 (2024, 10, 2, 0, 91)), List.forall_mem_cons.mpr ⟨(fun h => absurd h (by decide) : XE11 (2030, 11, 1, 1, 1)), List.forall_mem_cons.mpr ⟨(fun h => absurd h (by decide) : XE11 (3003, 0, 0, 0, 92)), List.forall_mem_cons.mpr ⟨(fun h => absurd h (by decide) : XE11 (3025, 31, 2, 0, 3)), List.forall_mem_cons.mpr ⟨(fun h => absurd h (by decide) : XE11 (3029, 32, 3, 1, 3)), List.forall_mem_cons.mpr ⟨(fun h => absurd h (by decide) : XE11 (3038, 15, 1, 1, 1)), List.forall_mem_cons.mpr ⟨(fun h => absurd h (by decide) : XE11 (3042, 28, 1, 3, 2)), List.forall_mem_cons.mpr ⟨(fun h => absurd h (by decide) : XE11 (3052, 0, 2, 1, 93)), List.forall_mem_cons.mpr ⟨(fun h => absurd h (by decide) : XE11 (3058, 14, 1, 0, 1)), List.forall_mem_cons.mpr ⟨(fun h => absurd h (by decide) : XE11 (3062, 92, 1, 3, 9)), List.forall_mem_cons.mpr ⟨(fun h => absurd h (by decide) : XE11 (3071, 87, 1, 1, 9)), List.forall_mem_cons.mpr ⟨(fun h => absurd h (by decide) : XE11 (4003, 0, 0, 0, 92)), List.forall_mem_cons.mpr ⟨(fun h => absurd h (by decide) : XE11 (4039, 36, 2, 0, 4)), List.forall_mem_cons.mpr ⟨(fun h => absurd h (by decide) : XE11 (5003, 0, 0, 0, 92)), List.forall_mem_cons.mpr ⟨(fun h => absurd h (by decide) : XE11 (5025, 57, 0, 0, 95)), List.forall_mem_cons.mpr ⟨(fun h => absurd h (by decide) : XE11 (5030, 33, 1, 0, 91)), List.forall_mem_cons.mpr ⟨(fun h => absurd h (by decide) : XE11 (5041, 44, 0, 3, 5)), List.forall_mem_cons.mpr ⟨(fun h => absurd h (by decide) : XE11 (5045, 45, 3, 3, 5)), List.forall_mem_cons.mpr ⟨(fun h => absurd h (by decide) : XE11 (5053, 93, 1, 0, 91)), List.forall_mem_cons.mpr ⟨(fun h => absurd h (by decide) : XE11 (5054, 34, 3, 0, 4)), List.forall_mem_cons.mpr ⟨(fun h => absurd h (by decide) : XE11 (5067, 46, 1, 1, 5)), List.forall_mem_cons.mpr ⟨(fun h => absurd h (by decide) : XE11 (5077, 50, 1, 0, 90)), List.forall_mem_cons.mpr ⟨(fun h => absurd h (by decide) : XE11 (5087, 37, 2, 0, 4)), List.forall_mem_cons.mpr ⟨(fun h => absurd h (by decide) : XE11 (5091, 53, 2, 1, 5)), List.forall_mem_cons.mpr ⟨(fun h => absurd h (by decide) : XE11 (5095, 52, 4, 1, 5)), List.forall_mem_cons.mpr ⟨(fun h => absurd h (by decide) : XE11 (5099, 54, 2, 1, 90)), List.forall_mem_cons.mpr ⟨(fun h => absurd h (by decide) : XE11 (5103, 35, 1, 3, 4)), List.forall_mem_cons.mpr ⟨(fun h => absurd h (by decide) : XE11 (5113, 56, 1, 0, 5)), List.forall_mem_cons.mpr ⟨(fun h => absurd h (by decide) : XE11 (5116, 38, 0, 0, 4)), List.forall_mem_cons.mpr ⟨(fun h => absurd h (by decide) : XE11 (6003, 0, 0, 0, 92)), List.forall_mem_cons.mpr ⟨(fun h => absurd h (by decide) : XE11 (6015, 60, 2, 0, 6)), List.forall_mem_cons.mpr ⟨(fun h => absurd h (by decide) : XE11 (6021, 59, 1, 1, 90)), List.forall_mem_cons.mpr ⟨(fun h => absurd h (by decide) : XE11 (6032, 35, 1, 3, 4)), List.forall_mem_cons.mpr ⟨(fun h => absurd h (by decide) : XE11 (7003, 0, 0, 0, 92)), List.forall_mem_cons.mpr ⟨(fun h => absurd h (by decide) : XE11 (7031, 64, 0, 1, 7)), List.forall_mem_cons.mpr ⟨(fun h => absurd h (by decide) : XE11 (8003, 0, 0, 0, 92)), List.forall_mem_cons.mpr ⟨(fun h => absurd h (by decide) : XE11 (8052, 12, 1, 0, 1)), List.forall_mem_cons.mpr ⟨(fun h => absurd h (by decide) : XE11 (8058, 13, 1, 0, 1)), List.forall_mem_cons.mpr ⟨(fun h => absurd h (by decide) : XE11 (8061, 66, 1, 0, 7)), List.forall_mem_cons.mpr ⟨(fun h => absurd h (by decide) : XE11 (9003, 0, 0, 0, 92)), List.forall_mem_cons.mpr ⟨(fun h => absurd h (by decide) : XE11 (9027, 80, 1, 3, 9)), List.forall_mem_cons.mpr ⟨(fun h => absurd h (by decide) : XE11 (9040, 64, 0, 1, 7)), List.forall_mem_cons.mpr ⟨(fun h => absurd h (by decide) : XE11 (9048, 62, 2, 0, 91)), List.forall_mem_cons.mpr ⟨(fun h => absurd h (by decide) : XE11 (9051, 69, 5, 0, 91)), List.forall_mem_cons.mpr ⟨(fun h => absurd h (by decide) : XE11 (9054, 65, 1, 0, 7)), List.forall_mem_cons.mpr ⟨(fun h => absurd h (by decide) : XE11 (9058, 13, 1, 0, 1)), List.forall_mem_cons.mpr ⟨(fun h => absurd h (by decide) : XE11 (9064, 88, 1, 0, 9)), List.forall_mem_cons.mpr ⟨(fun h => absurd h (by decide) : XE11 (9074, 89, 1, 1, 9)), List.forall_mem_cons.mpr ⟨(fun h => absurd h (by decide) : XE11 (9078, 90, 0, 0, 9)), List.forall_mem_cons.mpr ⟨(fun h => absurd h (by decide) : XE11 (9081, 74, 0, 3, 8)), List.forall_mem_cons.mpr ⟨(fun h => absurd h (by decide) : XE11 (9092, 12, 1, 0, 1)), List.forall_mem_cons.mpr ⟨(fun h => absurd h (by decide) : XE11 (9098, 63, 1, 1, 7)), List.forall_mem_cons.mpr ⟨(fun h => absurd h (by decide) : XE11 (9102, 77, 0, 0, 8)), List.forall_mem_cons.mpr ⟨(fun h => absurd h (by decide) : XE11 (9105, 73, 0, 1, 8)), List.forall_mem_cons.mpr ⟨(fun h => absurd h (by decide) : XE11 (9109, 67, 1, 3, 7)), List.forall_mem_cons.mpr ⟨(fun h => absurd h (by decide) : XE11 (9112, 71, 0, 1, 8)), List.forall_mem_cons.mpr ⟨(fun h => absurd h (by decide) : XE11 (9115, 11, 1, 1, 1)), List.forall_mem_cons.mpr ⟨(fun h => absurd h (by decide) : XE11 (9118, 72, 0, 1, 8)), List.forall_mem_cons.mpr ⟨(fun h => absurd h (by decide) : XE11 (10001, 0, 0, 0, 92)), List.forall_mem_cons.mpr ⟨(fun h => absurd h (by decide) : XE11 (11001, 0, 0, 0, 92)), List.forall_mem_cons.mpr ⟨(fun h => absurd h (by decide) : XE11 (11009, 24, 0, 0, 95)), List.forall_mem_cons.mpr ⟨(fun h => absurd h (by decide) : XE11 (11018, 79, 0, 0, 95)), List.forall_mem_cons.mpr ⟨(fun h => absurd h (by decide) : XE11 (11025, 29, 2, 0, 91)), List.forall_mem_cons.mpr ⟨(fun h => absurd h (by decide) : XE11 (11034, 0, 2, 0, 91)), List.forall_mem_cons.mpr ⟨(fun h => absurd h (by decide) : XE11 (11041, 40, 0, 0, 91)), List.forall_mem_cons.mpr ⟨(fun h => absurd h (by decide) : XE11 (11046, 85, 1, 3, 9)), List.forall_mem_cons.mpr ⟨(fun h => absurd h (by decide) : XE11 (11050, 27, 1, 3, 2)), List.forall_mem_cons.mpr ⟨(fun h => absurd h (by decide) : XE11 (11054, 43, 0, 3, 5)), List.forall_mem_cons.mpr ⟨(fun h => absurd h (by decide) : XE11 (11058, 86, 4, 3, 9)), List.forall_mem_cons.mpr ⟨(fun h => absurd h (by decide) : XE11 (11062, 81, 1, 3, 9)), List.forall_mem_cons.mpr ⟨(fun h => absurd h (by decide) : XE11 (11072, 16, 0, 1, 1)), List.forall_mem_cons.mpr ⟨(fun h => absurd h (by decide) : XE11 (11082, 84, 2, 1, 9)), List.forall_mem_cons.mpr ⟨(fun h => absurd h (by decide) : XE11 (11090, 48, 1, 1, 5)), List.forall_mem_cons.mpr ⟨(fun h => absurd h (by decide) : XE11 (11094, 49, 1, 3, 5)), List.forall_mem_cons.mpr ⟨(fun h => absurd h (by decide) : XE11 (11098, 2, 2, 0, 0)), List.forall_mem_cons.mpr ⟨(fun h => absurd h (by decide) : XE11 (11106, 87, 1, 1, 9)), List.forall_mem_cons.mpr ⟨(fun h => absurd h (by decide) : XE11 (11110, 91, 1, 1, 9)), List.forall_mem_cons.mpr ⟨(fun h => absurd h (by decide) : XE11 (11113, 67, 1, 3, 7)), List.forall_mem_cons.mpr ⟨(fun h => absurd h (by decide) : XE11 (11125, 82, 1, 3, 9)), List.forall_mem_cons.mpr ⟨(fun h => absurd h (by decide) : XE11 (11136, 80, 1, 3, 9)), List.forall_mem_cons.mpr ⟨(fun h => absurd h (by decide) : XE11 (11139, 68, 1, 1, 7)), List.forall_mem_cons.mpr ⟨(fun h => absurd h (by decide) : XE11 (11144, 78, 1, 1, 8)), List.forall_mem_cons.mpr ⟨(fun h => absurd h (by decide) : XE11 (11151, 83, 1, 1, 9)), List.forall_mem_cons.mpr ⟨(fun h => absurd h (by decide) : XE11 (11172, 25, 1, 3, 2)), List.forall_mem_cons.mpr ⟨(fun h => absurd h (by decide) : XE11 (11176, 26, 1, 1, 2)), List.forall_mem_cons.mpr ⟨(fun h => absurd h (by decide) : XE11 (11179, 3, 1, 0, 0)), List.forall_mem_cons.mpr ⟨(fun h => absurd h (by decide) : XE11 (11198, 18, 2, 1, 1)), List.forall_mem_cons.mpr ⟨(fun h => absurd h (by decide) : XE11 (11202, 19, 2, 1, 1)), List.forall_mem_cons.mpr ⟨(fun h => absurd h (by decide) : XE11 (11206, 23, 1, 1, 1)), List.forall_mem_cons.mpr ⟨(fun h => absurd h (by decide) : XE11 (11210, 30, 2, 1, 3)), List.forall_mem_cons.mpr ⟨(fun h => absurd h (by decide) : XE11 (11214, 75, 1, 0, 8)), List.forall_mem_cons.mpr ⟨(fun h => absurd h (by decide) : XE11 (11223, 14, 1, 0, 1)), List.forall_mem_cons.mpr ⟨(fun h => absurd h (by decide) : XE11 (11229, 17, 1, 1, 1)), List.forall_mem_cons.mpr ⟨(fun h => absurd h (by decide) : XE11 (11233, 76, 1, 0, 8)), List.forall_mem_cons.mpr ⟨(fun h => absurd h (by decide) : XE11 (11243, 1, 0, 3, 0)), List.forall_mem_cons.mpr ⟨(fun h => absurd h (by decide) : XE11 (11267, 58, 2, 1, 6)), List.forall_mem_cons.mpr ⟨(fun h => absurd h (by decide) : XE11 (11280, 51, 4, 1, 5)), List.forall_mem_cons.mpr ⟨(fun h => absurd h (by decide) : XE11 (11284, 55, 1, 1, 5)), List.forall_mem_cons.mpr ⟨(fun h => absurd h (by decide) : XE11 (11288, 61, 0, 1, 6)), List.forall_mem_cons.mpr ⟨(fun h => absurd h (by decide) : XE11 (11292, 41, 1, 3, 5)), List.forall_mem_cons.mpr ⟨(fun h => absurd h (by decide) : XE11 (11303, 47, 2, 1, 5)), List.forall_mem_cons.mpr ⟨(fun h => absurd h (by decide) : XE11 (11309, 42, 1, 3, 5)), List.forall_mem_cons.mpr ⟨(fun h => absurd h (by decide) : XE11 (11313, 39, 1, 1, 4)), List.forall_mem_cons.mpr ⟨(fun h => absurd h (by decide) : XE11 (12001, 0, 0, 0, 92)), List.forall_mem_cons.mpr ⟨(fun h => absurd h (by decide) : XE11 (12109, 144, 1, 1, 12)), List.forall_mem_cons.mpr ⟨(fun h => absurd h (by decide) : XE11 (12116, 168, 5, 1, 12)), List.forall_mem_cons.mpr ⟨(fun h => absurd h (by decide) : XE11 (12126, 122, 3, 1, 90)), List.forall_mem_cons.mpr ⟨(fun h => absurd h (by decide) : XE11 (12130, 123, 1, 1, 12)), List.forall_mem_cons.mpr ⟨(fun h => absurd h (by decide) : XE11 (12137, 128, 2, 1, 12)), List.forall_mem_cons.mpr ⟨(fun h => absurd h (by decide) : XE11 (12141, 124, 1, 1, 12)), List.forall_mem_cons.mpr ⟨(fun h => absurd h (by decide) : XE11 (12144, 145, 1, 1, 12)), List.forall_mem_cons.mpr ⟨(fun h => absurd h (by decide) : XE11 (12147, 130, 1, 1, 12)), List.forall_mem_cons.mpr ⟨(fun h => absurd h (by decide) : XE11 (12150, 132, 1, 1, 12)), List.forall_mem_cons.mpr ⟨(fun h => absurd h (by decide) : XE11 (12153, 131, 0, 1, 12)), List.forall_mem_cons.mpr ⟨(fun h => absurd h (by decide) : XE11 (12157, 129, 1, 1, 12)), List.forall_mem_cons.mpr ⟨(fun h => absurd h (by decide) : XE11 (12160, 169, 1, 1, 12)), List.forall_mem_cons.mpr ⟨(fun h => absurd h (by decide) : XE11 (12163, 162, 2, 0, 12)), List.forall_mem_cons.mpr ⟨(fun h => absurd h (by decide) : XE11 (12167, 135, 1, 0, 12)), List.forall_mem_cons.mpr ⟨(fun h => absurd h (by decide) : XE11 (12171, 126, 2, 1, 12)), List.forall_mem_cons.mpr ⟨(fun h => absurd h (by decide) : XE11 (12175, 134, 1, 0, 12)), List.forall_mem_cons.mpr ⟨(fun h => absurd h (by decide) : XE11 (12178, 136, 1, 1, 12)), List.forall_mem_cons.mpr ⟨(fun h => absurd h (by decide) : XE11 (12194, 127, 2, 1, 12)), List.forall_mem_cons.mpr ⟨(fun h => absurd h (by decide) : XE11 (12197, 125, 1, 1, 12)), List.forall_mem_cons.mpr ⟨(fun h => absurd h (by decide) : XE11 (12200, 161, 3, 2, 12)), List.forall_mem_cons.mpr ⟨(fun h => absurd h (by decide) : XE11 (12214, 146, 1, 1, 12)), List.forall_mem_cons.mpr ⟨(fun h => absurd h (by decide) : XE11 (12217, 150, 2, 1, 12)), List.forall_mem_cons.mpr ⟨(fun h => absurd h (by decide) : XE11 (12220, 151, 2, 0, 12)), List.forall_mem_cons.mpr ⟨(fun h => absurd h (by decide) : XE11 (12224, 152, 1, 1, 12)), List.forall_mem_cons.mpr ⟨(fun h => absurd h (by decide) : XE11 (12227, 153, 2, 1, 12)), List.forall_mem_cons.mpr ⟨(fun h => absurd h (by decide) : XE11 (12234, 159, 1, 1, 12)), List.forall_mem_cons.mpr ⟨(fun h => absurd h (by decide) : XE11 (12239, 160, 0, 0, 12)), List.forall_mem_cons.mpr ⟨(fun h => absurd h (by decide) : XE11 (12246, 163, 0, 1, 12)), List.forall_mem_cons.mpr ⟨(fun h => absurd h (by decide) : XE11 (12255, 170, 2, 1, 12)), List.forall_mem_cons.mpr ⟨(fun h => absurd h (by decide) : XE11 (12258, 171, 0, 0, 12)), List.forall_mem_cons.mpr ⟨(fun h => absurd h (by decide) : XE11 (12263, 172, 2, 1, 12)), List.forall_mem_cons.mpr ⟨(fun h => absurd h (by decide) : XE11 (12266, 174, 3, 1, 12)), List.forall_mem_cons.mpr ⟨(fun h => absurd h (by decide) : XE11 (12273, 175, 1, 1, 12)), List.forall_mem_cons.mpr ⟨(fun h => absurd h (by decide) : XE11 (13007, 99, 2, 1, 11)), List.forall_mem_cons.mpr ⟨(fun h => absurd h (by decide) : XE11 (13015, 100, 2, 1, 11)), List.forall_mem_cons.mpr ⟨(fun h => absurd h (by decide) : XE11 (13018, 101, 2, 1, 11)), List.forall_mem_cons.mpr ⟨(fun h => absurd h (by decide) : XE11 (13021, 102, 1, 1, 11)), List.forall_mem_cons.mpr ⟨(fun h => absurd h (by decide) : XE11 (13025, 104, 3, 1, 11)), List.forall_mem_cons.mpr ⟨(fun h => absurd h (by decide) : XE11 (13031, 105, 2, 1, 11)), List.forall_mem_cons.mpr ⟨(fun h => absurd h (by decide) : XE11 (13034, 106, 2, 1, 11)), List.forall_mem_cons.mpr ⟨(fun h => absurd h (by decide) : XE11 (13037, 107, 2, 1, 11)), List.forall_mem_cons.mpr ⟨(fun h => absurd h (by decide) : XE11 (13040, 108, 2, 1, 11)), List.forall_mem_cons.mpr ⟨(fun h => absurd h (by decide) : XE11 (13043, 110, 2, 1, 11)), List.forall_mem_cons.mpr ⟨(fun h => absurd h (by decide) : XE11 (13046, 111, 1, 1, 11)), List.forall_mem_cons.mpr ⟨(fun h => absurd h (by decide) : XE11 (13049, 115, 4, 1, 11)), List.forall_mem_cons.mpr ⟨(fun h => absurd h (by decide) : XE11 (13053, 118, 2, 1, 11)), List.forall_mem_cons.mpr ⟨(fun h => absurd h (by decide) : XE11 (13057, 119, 2, 1, 11)), List.forall_mem_cons.mpr ⟨(fun h => absurd h (by decide) : XE11 (13060, 94, 0, 0, 91)), List.forall_mem_cons.mpr ⟨(fun h => absurd h (by decide) : XE11 (13063, 120, 0, 0, 91)), List.forall_mem_cons.mpr ⟨(fun h => absurd h (by decide) : XE11 (13064, 95, 3, 1, 11)), List.forall_mem_cons.mpr ⟨(fun h => absurd h (by decide) : XE11 (13068, 133, 3, 1, 12)), List.forall_mem_cons.mpr ⟨(fun h => absurd h (by decide) : XE11 (13069, 96, 1, 1, 11)), List.forall_mem_cons.mpr ⟨(fun h => absurd h (by decide) : XE11 (13072, 137, 1, 1, 12)), List.forall_mem_cons.mpr ⟨(fun h => absurd h (by decide) : XE11 (13073, 97, 1, 1, 11)), List.forall_mem_cons.mpr ⟨(fun h => absurd h (by decide) : XE11 (13076, 138, 1, 1, 12)), List.forall_mem_cons.mpr ⟨(fun h => absurd h (by decide) : XE11 (13077, 98, 2, 1, 11)), List.forall_mem_cons.mpr ⟨(fun h => absurd h (by decide) : XE11 (13080, 139, 2, 1, 12)), List.forall_mem_cons.mpr ⟨h11_13081, List.forall_mem_cons.mpr ⟨(fun h => absurd h (by decide) : XE11 (13086, 140, 2, 1, 12)), List.forall_mem_cons.mpr ⟨(fun h => absurd h (by decide) : XE11 (13087, 121, 0, 1, 12)), List.forall_mem_cons.mpr ⟨h11_13091, List.forall_mem_cons.mpr ⟨(fun h => absurd h (by decide) : XE11 (13093, 141, 2, 1, 12)), List.forall_mem_cons.mpr ⟨h11_13094, List.forall_mem_cons.mpr ⟨(fun h => absurd h (by decide) : XE11 (13096, 142, 2, 1, 12)), List.forall_mem_cons.mpr ⟨h11_13097, List.forall_mem_cons.mpr ⟨(fun h => absurd h (by decide) : XE11 (13100, 143, 1, 1, 12)), List.forall_mem_cons.mpr ⟨(fun h => absurd h (by decide) : XE11 (13101, 103, 1, 1, 11)), List.forall_mem_cons.mpr ⟨(fun h => absurd h (by decide) : XE11 (13104, 147, 1, 1, 12)), List.forall_mem_cons.mpr ⟨h11_13105, List.forall_mem_cons.mpr ⟨(fun h => absurd h (by decide) : XE11 (13108, 148, 3, 1, 12)), List.forall_mem_cons.mpr ⟨h11_13109, List.forall_mem_cons.mpr ⟨(fun h => absurd h (by decide) : XE11 (13111, 149, 2, 1, 12)), List.forall_mem_cons.mpr ⟨h11_13112, List.forall_mem_cons.mpr ⟨(fun h => absurd h (by decide) : XE11 (13114, 154, 2, 1, 12)), List.forall_mem_cons.mpr ⟨h11_13115, List.forall_mem_cons.mpr ⟨(fun h => absurd h (by decide) : XE11 (13117, 155, 2, 1, 12)), List.forall_mem_cons.mpr ⟨h11_13118, List.forall_mem_cons.mpr ⟨(fun h => absurd h (by decide) : XE11 (13120, 156, 2, 1, 12)), List.forall_mem_cons.mpr ⟨(fun h => absurd h (by decide) : XE11 (13121, 109, 2, 1, 11)), List.forall_mem_cons.mpr ⟨(fun h => absurd h (by decide) : XE11 (13124, 157, 2, 1, 12)), List.forall_mem_cons.mpr ⟨h11_13125, List.forall_mem_cons.mpr ⟨(fun h => absurd h (by decide) : XE11 (13127, 158, 2, 1, 12)), List.forall_mem_cons.mpr ⟨h11_13128, List.forall_mem_cons.mpr ⟨(fun h => absurd h (by decide) : XE11 (13130, 164, 1, 1, 12)), List.forall_mem_cons.mpr ⟨(fun h => absurd h (by decide) : XE11 (13131, 112, 2, 1, 11)), List.forall_mem_cons.mpr ⟨(fun h => absurd h (by decide) : XE11 (13134, 165, 2, 1, 12)), List.forall_mem_cons.mpr ⟨(fun h => absurd h (by decide) : XE11 (13135, 113, 1, 1, 11)), List.forall_mem_cons.mpr ⟨(fun h => absurd h (by decide) : XE11 (13138, 166, 1, 1, 12)), List.forall_mem_cons.mpr ⟨(fun h => absurd h (by decide) : XE11 (13139, 114, 2, 2, 11)), List.forall_mem_cons.mpr ⟨(fun h => absurd h (by decide) : XE11 (13143, 167, 2, 2, 12)), List.forall_mem_cons.mpr ⟨h11_13144, List.forall_mem_cons.mpr ⟨(fun h => absurd h (by decide) : XE11 (13147, 173, 4, 1, 12)), List.forall_mem_cons.mpr ⟨(fun h => absurd h (by decide) : XE11 (13148, 116, 2, 1, 11)), List.forall_mem_cons.mpr ⟨(fun h => absurd h (by decide) : XE11 (13151, 176, 2, 1, 12)), List.forall_mem_cons.mpr ⟨(fun h => absurd h (by decide) : XE11 (13152, 117, 2, 1, 11)), List.forall_mem_cons.mpr ⟨(fun h => absurd h (by decide) : XE11 (13155, 177, 2, 1, 12)), List.forall_mem_cons.mpr ⟨h11_13156, List.forall_mem_cons.mpr ⟨(fun h => absurd h (by decide) : XE11 (13159, 178, 2, 1, 12)), List.forall_mem_cons.mpr ⟨h11_13160, List.forall_mem_cons.mpr ⟨(fun h => absurd h (by decide) : XE11 (13162, 179, 2, 1, 12)), fun _ h => absurd h List.not_mem_nil⟩⟩⟩⟩⟩⟩⟩⟩⟩⟩⟩⟩⟩⟩⟩⟩⟩⟩⟩⟩⟩⟩⟩⟩⟩⟩⟩⟩⟩⟩⟩⟩⟩⟩⟩⟩⟩⟩⟩⟩⟩⟩⟩⟩⟩⟩⟩⟩⟩⟩⟩⟩⟩⟩⟩⟩⟩⟩⟩⟩⟩⟩⟩⟩⟩⟩⟩⟩⟩⟩⟩⟩⟩⟩⟩⟩⟩⟩⟩⟩⟩⟩⟩⟩⟩⟩⟩⟩⟩⟩⟩⟩⟩⟩⟩⟩⟩⟩⟩⟩⟩⟩⟩⟩⟩⟩⟩⟩⟩⟩⟩⟩⟩⟩⟩⟩⟩⟩⟩⟩⟩⟩⟩⟩⟩⟩⟩⟩⟩⟩⟩⟩⟩⟩⟩⟩⟩⟩⟩⟩⟩⟩⟩⟩⟩⟩⟩⟩⟩⟩⟩⟩⟩⟩⟩⟩⟩⟩⟩⟩⟩⟩⟩⟩⟩⟩⟩⟩⟩⟩⟩⟩⟩⟩⟩⟩⟩⟩⟩⟩⟩⟩⟩⟩⟩⟩⟩⟩⟩⟩⟩⟩⟩⟩⟩⟩⟩⟩⟩⟩⟩⟩⟩⟩⟩⟩⟩⟩⟩⟩⟩⟩⟩⟩⟩⟩⟩⟩⟩⟩⟩⟩⟩⟩
theorem xs11 : XS11 := by
  intro o x mj n q h
  obtain ⟨h1, h2, h3⟩ := xlk_key (l := xmdL) h
  have h4 := xmd11 _ h1 rfl
  rw [show ((1000 * o + x, mj, n, q, 96) : Nat × Nat × Nat × Nat × Nat).1 = 1000 * o + x from rfl, h2, h3] at h4
  exact h4
theorem xs8 : XS8 := xs8a
set_option maxRecDepth 20000 in
theorem xlkI : Cond.classLink (xnm 13) 13 (xen 50) ∈ xTs := xin_at 711 rfl rfl
set_option maxRecDepth 20000 in
theorem xlkA : Cond.classLink (xnm 13) 29 (xen 51) ∈ xTs := xin_at 825 rfl rfl
/-- what the moving predicate says of the exceptions' classes -/
def XPc2 (P : State → Prop) : Prop := ∀ s, P s → (∀ args, (Cond.castable (xen 50) (xen 50)).before args s = true) ∧ (∀ args, (Cond.castable (xen 51) (xen 51)).before args s = true) ∧ va_Nc (xen 51) (xen 50) s
set_option maxHeartbeats 4000000 in
theorem xca {P : State → Prop} {l : Launch} {U : State} {D : va_G} (hPp : XPc2 P) : XCa P l U D := by
  intro mi p e R s m args below meth c hh K htab
  have hp0 : P s := K.2.2.2.2.2.2.2.2.2.2.2.2.2
  intro pc x E K' res htb h
  have h1 := xlk_mem _ _ _ htb
  rcases (by have := xhs_range hh; omega : mi = 180 ∨ mi = 181 ∨ mi = 182 ∨ mi = 183 ∨ mi = 184 ∨ mi = 185 ∨ mi = 186 ∨ mi = 187 ∨ mi = 188 ∨ mi = 189 ∨ mi = 190 ∨ mi = 191 ∨ mi = 192 ∨ mi = 193) with rfl | rfl | rfl | rfl | rfl | rfl | rfl | rfl | rfl | rfl | rfl | rfl | rfl | rfl
  · have htab : c.exceptionTable.toList = [⟨0, 10, 13, 13⟩] := htab
    have hv := List.all_eq_true.mp vp_180 _ h1
    have hv : pc = 5 := by simpa [xvpc] using hv
    subst hv
    have h : (if E = 50 then K' 15 4 else none) = some res := h
    split at h
    · next hE => subst hE; exact ⟨15, 4, h, fun H locs cells slots la ls rest q ce Q hL hc1 hc2 hc3 kk => xcatch (hp0 := 13) K [] ⟨0, 10, 13, 13⟩ [] htab (fun z hz => absurd hz List.not_mem_nil) (by decide) (by decide) xlkI ((hPp s hp0).1 _) rfl (Or.inl ⟨(xst.1 180 13 _ _ rfl).1, rfl⟩) (by decide) hL hc1 hc2 hc3 kk⟩
    · cases h
  · have htab : c.exceptionTable.toList = [⟨0, 10, 13, 13⟩] := htab
    have hv := List.all_eq_true.mp vp_181 _ h1
    have hv : pc = 5 := by simpa [xvpc] using hv
    subst hv
    have h : (if E = 50 then K' 15 4 else none) = some res := h
    split at h
    · next hE => subst hE; exact ⟨15, 4, h, fun H locs cells slots la ls rest q ce Q hL hc1 hc2 hc3 kk => xcatch (hp0 := 13) K [] ⟨0, 10, 13, 13⟩ [] htab (fun z hz => absurd hz List.not_mem_nil) (by decide) (by decide) xlkI ((hPp s hp0).1 _) rfl (Or.inl ⟨(xst.1 181 13 _ _ rfl).1, rfl⟩) (by decide) hL hc1 hc2 hc3 kk⟩
    · cases h
  · have htab : c.exceptionTable.toList = [⟨0, 10, 13, 13⟩] := htab
    have hv := List.all_eq_true.mp vp_182 _ h1
    have hv : pc = 5 := by simpa [xvpc] using hv
    subst hv
    have h : (if E = 50 then K' 15 4 else none) = some res := h
    split at h
    · next hE => subst hE; exact ⟨15, 4, h, fun H locs cells slots la ls rest q ce Q hL hc1 hc2 hc3 kk => xcatch (hp0 := 13) K [] ⟨0, 10, 13, 13⟩ [] htab (fun z hz => absurd hz List.not_mem_nil) (by decide) (by decide) xlkI ((hPp s hp0).1 _) rfl (Or.inl ⟨(xst.1 182 13 _ _ rfl).1, rfl⟩) (by decide) hL hc1 hc2 hc3 kk⟩
    · cases h
  · have htab : c.exceptionTable.toList = [⟨0, 9, 12, 13⟩] := htab
    have hv := List.all_eq_true.mp vp_183 _ h1
    have hv : pc = 4 := by simpa [xvpc] using hv
    subst hv
    have h : (if E = 50 then K' 13 3 else none) = some res := h
    split at h
    · next hE => subst hE; exact ⟨13, 3, h, fun H locs cells slots la ls rest q ce Q hL hc1 hc2 hc3 kk => xcatch (hp0 := 12) K [] ⟨0, 9, 12, 13⟩ [] htab (fun z hz => absurd hz List.not_mem_nil) (by decide) (by decide) xlkI ((hPp s hp0).1 _) rfl (Or.inr ⟨3, (xst.1 183 12 _ _ rfl).1, rfl, rfl⟩) (by decide) hL hc1 hc2 hc3 kk⟩
    · cases h
  · have htab : c.exceptionTable.toList = [⟨0, 12, 15, 13⟩, ⟨0, 12, 19, 29⟩] := htab
    have hv := List.all_eq_true.mp vp_184 _ h1
    have hv : pc = 7 := by simpa [xvpc] using hv
    subst hv
    have h : (if E = 50 then K' 17 5 else if E = 51 then K' 21 5 else none) = some res := h
    split at h
    · next hE => subst hE; exact ⟨17, 5, h, fun H locs cells slots la ls rest q ce Q hL hc1 hc2 hc3 kk => xcatch (hp0 := 15) K [] ⟨0, 12, 15, 13⟩ [⟨0, 12, 19, 29⟩] htab (fun z hz => absurd hz List.not_mem_nil) (by decide) (by decide) xlkI ((hPp s hp0).1 _) rfl (Or.inl ⟨(xst.1 184 15 _ _ rfl).1, rfl⟩) (by decide) hL hc1 hc2 hc3 kk⟩
    · split at h
      · next hE => subst hE; exact ⟨21, 5, h, fun H locs cells slots la ls rest q ce Q hL hc1 hc2 hc3 kk => xcatch (hp0 := 19) K [⟨0, 12, 15, 13⟩] ⟨0, 12, 19, 29⟩ [] htab (fun z hz => by rw [List.mem_singleton] at hz; subst hz; exact ⟨by decide, _, xlkI, (hPp s hp0).2.2⟩) (by decide) (by decide) xlkA ((hPp s hp0).2.1 _) rfl (Or.inl ⟨(xst.1 184 19 _ _ rfl).1, rfl⟩) (by decide) hL hc1 hc2 hc3 kk⟩
      · cases h
  · have htab : c.exceptionTable.toList = [⟨0, 10, 13, 13⟩] := htab
    have hv := List.all_eq_true.mp vp_185 _ h1
    have hv : pc = 5 := by simpa [xvpc] using hv
    subst hv
    have h : (if E = 50 then K' 15 4 else none) = some res := h
    split at h
    · next hE => subst hE; exact ⟨15, 4, h, fun H locs cells slots la ls rest q ce Q hL hc1 hc2 hc3 kk => xcatch (hp0 := 13) K [] ⟨0, 10, 13, 13⟩ [] htab (fun z hz => absurd hz List.not_mem_nil) (by decide) (by decide) xlkI ((hPp s hp0).1 _) rfl (Or.inl ⟨(xst.1 185 13 _ _ rfl).1, rfl⟩) (by decide) hL hc1 hc2 hc3 kk⟩
    · cases h
  · have htab : c.exceptionTable.toList = [⟨0, 10, 13, 29⟩] := htab
    have hv := List.all_eq_true.mp vp_186 _ h1
    have hv : pc = 5 := by simpa [xvpc] using hv
    subst hv
    have h : (if E = 51 then K' 15 4 else none) = some res := h
    split at h
    · next hE => subst hE; exact ⟨15, 4, h, fun H locs cells slots la ls rest q ce Q hL hc1 hc2 hc3 kk => xcatch (hp0 := 13) K [] ⟨0, 10, 13, 29⟩ [] htab (fun z hz => absurd hz List.not_mem_nil) (by decide) (by decide) xlkA ((hPp s hp0).2.1 _) rfl (Or.inl ⟨(xst.1 186 13 _ _ rfl).1, rfl⟩) (by decide) hL hc1 hc2 hc3 kk⟩
    · cases h
  · have htab : c.exceptionTable.toList = [⟨0, 10, 13, 29⟩] := htab
    have hv := List.all_eq_true.mp vp_187 _ h1
    have hv : pc = 5 := by simpa [xvpc] using hv
    subst hv
    have h : (if E = 51 then K' 15 4 else none) = some res := h
    split at h
    · next hE => subst hE; exact ⟨15, 4, h, fun H locs cells slots la ls rest q ce Q hL hc1 hc2 hc3 kk => xcatch (hp0 := 13) K [] ⟨0, 10, 13, 29⟩ [] htab (fun z hz => absurd hz List.not_mem_nil) (by decide) (by decide) xlkA ((hPp s hp0).2.1 _) rfl (Or.inl ⟨(xst.1 187 13 _ _ rfl).1, rfl⟩) (by decide) hL hc1 hc2 hc3 kk⟩
    · cases h
  · have htab : c.exceptionTable.toList = [⟨0, 10, 13, 29⟩] := htab
    have hv := List.all_eq_true.mp vp_188 _ h1
    have hv : pc = 5 := by simpa [xvpc] using hv
    subst hv
    have h : (if E = 51 then K' 15 4 else none) = some res := h
    split at h
    · next hE => subst hE; exact ⟨15, 4, h, fun H locs cells slots la ls rest q ce Q hL hc1 hc2 hc3 kk => xcatch (hp0 := 13) K [] ⟨0, 10, 13, 29⟩ [] htab (fun z hz => absurd hz List.not_mem_nil) (by decide) (by decide) xlkA ((hPp s hp0).2.1 _) rfl (Or.inl ⟨(xst.1 188 13 _ _ rfl).1, rfl⟩) (by decide) hL hc1 hc2 hc3 kk⟩
    · cases h
  · have htab : c.exceptionTable.toList = [⟨0, 10, 13, 29⟩] := htab
    have hv := List.all_eq_true.mp vp_189 _ h1
    have hv : pc = 5 := by simpa [xvpc] using hv
    subst hv
    have h : (if E = 51 then K' 15 4 else none) = some res := h
    split at h
    · next hE => subst hE; exact ⟨15, 4, h, fun H locs cells slots la ls rest q ce Q hL hc1 hc2 hc3 kk => xcatch (hp0 := 13) K [] ⟨0, 10, 13, 29⟩ [] htab (fun z hz => absurd hz List.not_mem_nil) (by decide) (by decide) xlkA ((hPp s hp0).2.1 _) rfl (Or.inl ⟨(xst.1 189 13 _ _ rfl).1, rfl⟩) (by decide) hL hc1 hc2 hc3 kk⟩
    · cases h
  · have htab : c.exceptionTable.toList = [⟨0, 9, 12, 29⟩] := htab
    have hv := List.all_eq_true.mp vp_190 _ h1
    have hv : pc = 4 := by simpa [xvpc] using hv
    subst hv
    have h : (if E = 51 then K' 13 3 else none) = some res := h
    split at h
    · next hE => subst hE; exact ⟨13, 3, h, fun H locs cells slots la ls rest q ce Q hL hc1 hc2 hc3 kk => xcatch (hp0 := 12) K [] ⟨0, 9, 12, 29⟩ [] htab (fun z hz => absurd hz List.not_mem_nil) (by decide) (by decide) xlkA ((hPp s hp0).2.1 _) rfl (Or.inr ⟨3, (xst.1 190 12 _ _ rfl).1, rfl, rfl⟩) (by decide) hL hc1 hc2 hc3 kk⟩
    · cases h
  · have htab : c.exceptionTable.toList = [⟨0, 14, 17, 29⟩] := htab
    have hv := List.all_eq_true.mp vp_191 _ h1
    have hv : pc = 9 := by simpa [xvpc] using hv
    subst hv
    have h : (if E = 51 then K' 19 6 else none) = some res := h
    split at h
    · next hE => subst hE; exact ⟨19, 6, h, fun H locs cells slots la ls rest q ce Q hL hc1 hc2 hc3 kk => xcatch (hp0 := 17) K [] ⟨0, 14, 17, 29⟩ [] htab (fun z hz => absurd hz List.not_mem_nil) (by decide) (by decide) xlkA ((hPp s hp0).2.1 _) rfl (Or.inl ⟨(xst.1 191 17 _ _ rfl).1, rfl⟩) (by decide) hL hc1 hc2 hc3 kk⟩
    · cases h
  · have htab : c.exceptionTable.toList = [⟨0, 10, 13, 13⟩] := htab
    have hv := List.all_eq_true.mp vp_192 _ h1
    have hv : pc = 5 := by simpa [xvpc] using hv
    subst hv
    have h : (if E = 50 then K' 15 4 else none) = some res := h
    split at h
    · next hE => subst hE; exact ⟨15, 4, h, fun H locs cells slots la ls rest q ce Q hL hc1 hc2 hc3 kk => xcatch (hp0 := 13) K [] ⟨0, 10, 13, 13⟩ [] htab (fun z hz => absurd hz List.not_mem_nil) (by decide) (by decide) xlkI ((hPp s hp0).1 _) rfl (Or.inl ⟨(xst.1 192 13 _ _ rfl).1, rfl⟩) (by decide) hL hc1 hc2 hc3 kk⟩
    · cases h
  · have htab : c.exceptionTable.toList = [⟨0, 10, 13, 13⟩] := htab
    have hv := List.all_eq_true.mp vp_193 _ h1
    have hv : pc = 5 := by simpa [xvpc] using hv
    subst hv
    have h : (if E = 50 then K' 15 4 else none) = some res := h
    split at h
    · next hE => subst hE; exact ⟨15, 4, h, fun H locs cells slots la ls rest q ce Q hL hc1 hc2 hc3 kk => xcatch (hp0 := 13) K [] ⟨0, 10, 13, 13⟩ [] htab (fun z hz => absurd hz List.not_mem_nil) (by decide) (by decide) xlkI ((hPp s hp0).1 _) rfl (Or.inl ⟨(xst.1 193 13 _ _ rfl).1, rfl⟩) (by decide) hL hc1 hc2 hc3 kk⟩
    · cases h
