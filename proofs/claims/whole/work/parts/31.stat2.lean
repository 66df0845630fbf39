/-! the static facts, printed by wip/genstat.py: words by their places in the tables -/
set_option maxRecDepth 20000 in
theorem xin_at {w : Cond} (i : Nat) (h : lw_tbl[i]? = some w) (g : goodWord w = true) : w ∈ xTs := List.mem_filter.mpr ⟨List.mem_of_getElem? h, g⟩
theorem xlk_mem {α : Type} : ∀ (l : List (Nat × α)) (k : Nat) (a : α), xlk l k = some a → (k, a) ∈ l
  | [], _, _, h => by cases h
  | q :: l, k, a, h => by
    have h : (bif Nat.beq q.1 k then some q.2 else xlk l k) = some a := h
    cases hb : Nat.beq q.1 k with
    | true =>
      rw [hb] at h
      have h : some q.2 = some a := h
      cases h
      have := Nat.eq_of_beq_eq_true hb
      subst this
      exact List.mem_cons_self
    | false =>
      rw [hb] at h
      exact List.mem_cons_of_mem _ (xlk_mem l k a h)
theorem xlk_key {α : Type} {l : List (Nat × α)} {o x : Nat} {a : α} (h : (bif Nat.ble x 999 then xlk l (1000 * o + x) else none) = some a) : (1000 * o + x, a) ∈ l ∧ (1000 * o + x) / 1000 = o ∧ (1000 * o + x) % 1000 = x := by
  cases hb : Nat.ble x 999 with
  | false => rw [hb] at h; cases h
  | true =>
    rw [hb] at h
    have := Nat.le_of_ble_eq_true hb
    exact ⟨xlk_mem _ _ _ h, by omega, by omega⟩
def XE2 (e : Nat × Nat × Nat × Nat) : Prop := ∃ (C : String) (T : u_T) (N : Nat), vwCl[e.2.1]? = some (C, T, N) ∧ e.2.2.1 < N ∧ Cond.fieldLink (xnm (e.1 / 1000)) (e.1 % 1000) (T e.2.2.1).1 (T e.2.2.1).2.1 (T e.2.2.1).2.2.1 ∈ xTs ∧ xkd e.2.2.2 (T e.2.2.1).2.2.1 = true

set_option maxRecDepth 20000 in
theorem f_9 : XE2 (9, 0, 0, 2) := ⟨RX0, TX0, 3, rfl, by decide, xin_at 148 rfl rfl, by decide +kernel⟩
set_option maxRecDepth 20000 in
theorem f_15 : XE2 (15, 0, 1, 2) := ⟨RX0, TX0, 3, rfl, by decide, xin_at 149 rfl rfl, by decide +kernel⟩
set_option maxRecDepth 20000 in
theorem f_30 : XE2 (30, 0, 2, 0) := ⟨RX0, TX0, 3, rfl, by decide, xin_at 150 rfl rfl, by decide +kernel⟩
set_option maxRecDepth 20000 in
theorem f_37 : XE2 (37, 8, 4, 2) := ⟨RX8, TX8, 11, rfl, by decide, xin_at 405 rfl rfl, by decide +kernel⟩
set_option maxRecDepth 20000 in
theorem f_55 : XE2 (55, 8, 10, 1) := ⟨RX8, TX8, 11, rfl, by decide, xin_at 422 rfl rfl, by decide +kernel⟩
set_option maxRecDepth 20000 in
theorem f_59 : XE2 (59, 1, 1, 2) := ⟨RX1, TX1, 14, rfl, by decide, xin_at 300 rfl rfl, by decide +kernel⟩
set_option maxRecDepth 20000 in
theorem f_62 : XE2 (62, 1, 11, 1) := ⟨RX1, TX1, 14, rfl, by decide, xin_at 316 rfl rfl, by decide +kernel⟩
set_option maxRecDepth 20000 in
theorem f_63 : XE2 (63, 2, 1, 0) := ⟨RX2, TX2, 2, rfl, by decide, xin_at 91 rfl rfl, by decide +kernel⟩
set_option maxRecDepth 20000 in
theorem f_68 : XE2 (68, 2, 0, 2) := ⟨RX2, TX2, 2, rfl, by decide, xin_at 89 rfl rfl, by decide +kernel⟩
set_option maxRecDepth 20000 in
theorem f_72 : XE2 (72, 1, 12, 2) := ⟨RX1, TX1, 14, rfl, by decide, xin_at 319 rfl rfl, by decide +kernel⟩
set_option maxRecDepth 20000 in
theorem f_76 : XE2 (76, 1, 13, 2) := ⟨RX1, TX1, 14, rfl, by decide, xin_at 321 rfl rfl, by decide +kernel⟩
set_option maxRecDepth 20000 in
theorem f_79 : XE2 (79, 9, 2, 0) := ⟨RX9, TX9, 4, rfl, by decide, xin_at 112 rfl rfl, by decide +kernel⟩
set_option maxRecDepth 20000 in
theorem f_82 : XE2 (82, 9, 0, 2) := ⟨RX9, TX9, 4, rfl, by decide, xin_at 109 rfl rfl, by decide +kernel⟩
set_option maxRecDepth 20000 in
theorem f_104 : XE2 (104, 8, 8, 0) := ⟨RX8, TX8, 11, rfl, by decide, xin_at 418 rfl rfl, by decide +kernel⟩
set_option maxRecDepth 20000 in
theorem f_109 : XE2 (109, 1, 10, 0) := ⟨RX1, TX1, 14, rfl, by decide, xin_at 314 rfl rfl, by decide +kernel⟩
set_option maxRecDepth 20000 in
theorem f_112 : XE2 (112, 1, 5, 0) := ⟨RX1, TX1, 14, rfl, by decide, xin_at 306 rfl rfl, by decide +kernel⟩
set_option maxRecDepth 20000 in
theorem f_1010 : XE2 (1010, 1, 3, 0) := ⟨RX1, TX1, 14, rfl, by decide, xin_at 303 rfl rfl, by decide +kernel⟩
set_option maxRecDepth 20000 in
theorem f_1016 : XE2 (1016, 1, 4, 0) := ⟨RX1, TX1, 14, rfl, by decide, xin_at 304 rfl rfl, by decide +kernel⟩
set_option maxRecDepth 20000 in
theorem f_1019 : XE2 (1019, 1, 5, 0) := ⟨RX1, TX1, 14, rfl, by decide, xin_at 305 rfl rfl, by decide +kernel⟩
set_option maxRecDepth 20000 in
theorem f_1022 : XE2 (1022, 1, 0, 0) := ⟨RX1, TX1, 14, rfl, by decide, xin_at 295 rfl rfl, by decide +kernel⟩
set_option maxRecDepth 20000 in
theorem f_1025 : XE2 (1025, 1, 1, 2) := ⟨RX1, TX1, 14, rfl, by decide, xin_at 298 rfl rfl, by decide +kernel⟩
set_option maxRecDepth 20000 in
theorem f_1029 : XE2 (1029, 1, 2, 0) := ⟨RX1, TX1, 14, rfl, by decide, xin_at 301 rfl rfl, by decide +kernel⟩
set_option maxRecDepth 20000 in
theorem f_1032 : XE2 (1032, 1, 7, 0) := ⟨RX1, TX1, 14, rfl, by decide, xin_at 308 rfl rfl, by decide +kernel⟩
set_option maxRecDepth 20000 in
theorem f_1035 : XE2 (1035, 1, 8, 0) := ⟨RX1, TX1, 14, rfl, by decide, xin_at 309 rfl rfl, by decide +kernel⟩
set_option maxRecDepth 20000 in
theorem f_1038 : XE2 (1038, 1, 9, 0) := ⟨RX1, TX1, 14, rfl, by decide, xin_at 311 rfl rfl, by decide +kernel⟩
set_option maxRecDepth 20000 in
theorem f_1045 : XE2 (1045, 8, 4, 2) := ⟨RX8, TX8, 11, rfl, by decide, xin_at 406 rfl rfl, by decide +kernel⟩
set_option maxRecDepth 20000 in
theorem f_1054 : XE2 (1054, 8, 6, 0) := ⟨RX8, TX8, 11, rfl, by decide, xin_at 413 rfl rfl, by decide +kernel⟩
set_option maxRecDepth 20000 in
theorem f_1064 : XE2 (1064, 1, 6, 0) := ⟨RX1, TX1, 14, rfl, by decide, xin_at 307 rfl rfl, by decide +kernel⟩
set_option maxRecDepth 20000 in
theorem f_1067 : XE2 (1067, 1, 12, 2) := ⟨RX1, TX1, 14, rfl, by decide, xin_at 320 rfl rfl, by decide +kernel⟩
set_option maxRecDepth 20000 in
theorem f_1071 : XE2 (1071, 1, 13, 2) := ⟨RX1, TX1, 14, rfl, by decide, xin_at 322 rfl rfl, by decide +kernel⟩
set_option maxRecDepth 20000 in
theorem f_1074 : XE2 (1074, 1, 10, 0) := ⟨RX1, TX1, 14, rfl, by decide, xin_at 315 rfl rfl, by decide +kernel⟩
set_option maxRecDepth 20000 in
theorem f_1077 : XE2 (1077, 1, 11, 1) := ⟨RX1, TX1, 14, rfl, by decide, xin_at 317 rfl rfl, by decide +kernel⟩
set_option maxRecDepth 20000 in
theorem f_1081 : XE2 (1081, 8, 10, 1) := ⟨RX8, TX8, 11, rfl, by decide, xin_at 423 rfl rfl, by decide +kernel⟩
set_option maxRecDepth 20000 in
theorem f_2011 : XE2 (2011, 2, 0, 2) := ⟨RX2, TX2, 2, rfl, by decide, xin_at 88 rfl rfl, by decide +kernel⟩
set_option maxRecDepth 20000 in
theorem f_2017 : XE2 (2017, 2, 1, 0) := ⟨RX2, TX2, 2, rfl, by decide, xin_at 90 rfl rfl, by decide +kernel⟩
set_option maxRecDepth 20000 in
theorem f_2021 : XE2 (2021, 1, 2, 0) := ⟨RX1, TX1, 14, rfl, by decide, xin_at 302 rfl rfl, by decide +kernel⟩
set_option maxRecDepth 20000 in
theorem f_2027 : XE2 (2027, 1, 9, 0) := ⟨RX1, TX1, 14, rfl, by decide, xin_at 312 rfl rfl, by decide +kernel⟩
set_option maxRecDepth 20000 in
theorem f_3009 : XE2 (3009, 3, 0, 2) := ⟨RX3, TX3, 3, rfl, by decide, xin_at 131 rfl rfl, by decide +kernel⟩
set_option maxRecDepth 20000 in
theorem f_3015 : XE2 (3015, 3, 1, 2) := ⟨RX3, TX3, 3, rfl, by decide, xin_at 132 rfl rfl, by decide +kernel⟩
set_option maxRecDepth 20000 in
theorem f_3019 : XE2 (3019, 8, 4, 2) := ⟨RX8, TX8, 11, rfl, by decide, xin_at 403 rfl rfl, by decide +kernel⟩
set_option maxRecDepth 20000 in
theorem f_3033 : XE2 (3033, 1, 1, 2) := ⟨RX1, TX1, 14, rfl, by decide, xin_at 299 rfl rfl, by decide +kernel⟩
set_option maxRecDepth 20000 in
theorem f_3048 : XE2 (3048, 1, 9, 0) := ⟨RX1, TX1, 14, rfl, by decide, xin_at 310 rfl rfl, by decide +kernel⟩
set_option maxRecDepth 20000 in
theorem f_3068 : XE2 (3068, 3, 2, 0) := ⟨RX3, TX3, 3, rfl, by decide, xin_at 133 rfl rfl, by decide +kernel⟩
set_option maxRecDepth 20000 in
theorem f_3075 : XE2 (3075, 8, 5, 0) := ⟨RX8, TX8, 11, rfl, by decide, xin_at 410 rfl rfl, by decide +kernel⟩
set_option maxRecDepth 20000 in
theorem f_4011 : XE2 (4011, 4, 1, 2) := ⟨RX4, TX4, 9, rfl, by decide, xin_at 193 rfl rfl, by decide +kernel⟩
set_option maxRecDepth 20000 in
theorem f_4015 : XE2 (4015, 4, 0, 0) := ⟨RX4, TX4, 9, rfl, by decide, xin_at 190 rfl rfl, by decide +kernel⟩
set_option maxRecDepth 20000 in
theorem f_4019 : XE2 (4019, 4, 2, 2) := ⟨RX4, TX4, 9, rfl, by decide, xin_at 194 rfl rfl, by decide +kernel⟩
set_option maxRecDepth 20000 in
theorem f_4023 : XE2 (4023, 4, 6, 0) := ⟨RX4, TX4, 9, rfl, by decide, xin_at 202 rfl rfl, by decide +kernel⟩
set_option maxRecDepth 20000 in
theorem f_4026 : XE2 (4026, 4, 7, 0) := ⟨RX4, TX4, 9, rfl, by decide, xin_at 205 rfl rfl, by decide +kernel⟩
set_option maxRecDepth 20000 in
theorem f_4029 : XE2 (4029, 4, 5, 0) := ⟨RX4, TX4, 9, rfl, by decide, xin_at 200 rfl rfl, by decide +kernel⟩
set_option maxRecDepth 20000 in
theorem f_4032 : XE2 (4032, 4, 3, 2) := ⟨RX4, TX4, 9, rfl, by decide, xin_at 196 rfl rfl, by decide +kernel⟩
set_option maxRecDepth 20000 in
theorem f_4036 : XE2 (4036, 4, 4, 0) := ⟨RX4, TX4, 9, rfl, by decide, xin_at 198 rfl rfl, by decide +kernel⟩
set_option maxRecDepth 20000 in
theorem f_4043 : XE2 (4043, 10, 0, 0) := ⟨RX10, TX10, 2, rfl, by decide, xin_at 366 rfl rfl, by decide +kernel⟩
set_option maxRecDepth 20000 in
theorem f_5011 : XE2 (5011, 5, 0, 2) := ⟨RX5, TX5, 6, rfl, by decide, xin_at 227 rfl rfl, by decide +kernel⟩
set_option maxRecDepth 20000 in
theorem f_5019 : XE2 (5019, 5, 1, 2) := ⟨RX5, TX5, 6, rfl, by decide, xin_at 228 rfl rfl, by decide +kernel⟩
set_option maxRecDepth 20000 in
theorem f_5026 : XE2 (5026, 5, 2, 2) := ⟨RX5, TX5, 6, rfl, by decide, xin_at 229 rfl rfl, by decide +kernel⟩
set_option maxRecDepth 20000 in
theorem f_5033 : XE2 (5033, 5, 4, 0) := ⟨RX5, TX5, 6, rfl, by decide, xin_at 233 rfl rfl, by decide +kernel⟩
set_option maxRecDepth 20000 in
theorem f_5037 : XE2 (5037, 4, 2, 2) := ⟨RX4, TX4, 9, rfl, by decide, xin_at 195 rfl rfl, by decide +kernel⟩
set_option maxRecDepth 20000 in
theorem f_5049 : XE2 (5049, 10, 1, 2) := ⟨RX10, TX10, 2, rfl, by decide, xin_at 369 rfl rfl, by decide +kernel⟩
set_option maxRecDepth 20000 in
theorem f_5058 : XE2 (5058, 5, 3, 0) := ⟨RX5, TX5, 6, rfl, by decide, xin_at 231 rfl rfl, by decide +kernel⟩
set_option maxRecDepth 20000 in
theorem f_5061 : XE2 (5061, 5, 5, 0) := ⟨RX5, TX5, 6, rfl, by decide, xin_at 235 rfl rfl, by decide +kernel⟩
set_option maxRecDepth 20000 in
theorem f_5064 : XE2 (5064, 4, 7, 0) := ⟨RX4, TX4, 9, rfl, by decide, xin_at 206 rfl rfl, by decide +kernel⟩
set_option maxRecDepth 20000 in
theorem f_5071 : XE2 (5071, 4, 6, 0) := ⟨RX4, TX4, 9, rfl, by decide, xin_at 204 rfl rfl, by decide +kernel⟩
set_option maxRecDepth 20000 in
theorem f_5074 : XE2 (5074, 4, 8, 2) := ⟨RX4, TX4, 9, rfl, by decide, xin_at 207 rfl rfl, by decide +kernel⟩
set_option maxRecDepth 20000 in
theorem f_5081 : XE2 (5081, 4, 3, 2) := ⟨RX4, TX4, 9, rfl, by decide, xin_at 197 rfl rfl, by decide +kernel⟩
set_option maxRecDepth 20000 in
theorem f_5084 : XE2 (5084, 4, 4, 0) := ⟨RX4, TX4, 9, rfl, by decide, xin_at 199 rfl rfl, by decide +kernel⟩
set_option maxRecDepth 20000 in
theorem f_5107 : XE2 (5107, 4, 0, 0) := ⟨RX4, TX4, 9, rfl, by decide, xin_at 192 rfl rfl, by decide +kernel⟩
set_option maxRecDepth 20000 in
theorem f_5110 : XE2 (5110, 4, 5, 0) := ⟨RX4, TX4, 9, rfl, by decide, xin_at 201 rfl rfl, by decide +kernel⟩
set_option maxRecDepth 20000 in
theorem f_6009 : XE2 (6009, 10, 1, 2) := ⟨RX10, TX10, 2, rfl, by decide, xin_at 368 rfl rfl, by decide +kernel⟩
set_option maxRecDepth 20000 in
theorem f_6025 : XE2 (6025, 6, 1, 0) := ⟨RX6, TX6, 2, rfl, by decide, xin_at 177 rfl rfl, by decide +kernel⟩
set_option maxRecDepth 20000 in
theorem f_6029 : XE2 (6029, 6, 0, 2) := ⟨RX6, TX6, 2, rfl, by decide, xin_at 175 rfl rfl, by decide +kernel⟩
set_option maxRecDepth 20000 in
theorem f_6038 : XE2 (6038, 4, 0, 0) := ⟨RX4, TX4, 9, rfl, by decide, xin_at 191 rfl rfl, by decide +kernel⟩
set_option maxRecDepth 20000 in
theorem f_6041 : XE2 (6041, 4, 6, 0) := ⟨RX4, TX4, 9, rfl, by decide, xin_at 203 rfl rfl, by decide +kernel⟩
set_option maxRecDepth 20000 in
theorem f_7011 : XE2 (7011, 7, 3, 2) := ⟨RX7, TX7, 6, rfl, by decide, xin_at 266 rfl rfl, by decide +kernel⟩
set_option maxRecDepth 20000 in
theorem f_7017 : XE2 (7017, 7, 0, 0) := ⟨RX7, TX7, 6, rfl, by decide, xin_at 259 rfl rfl, by decide +kernel⟩
set_option maxRecDepth 20000 in
theorem f_7021 : XE2 (7021, 7, 1, 2) := ⟨RX7, TX7, 6, rfl, by decide, xin_at 261 rfl rfl, by decide +kernel⟩
set_option maxRecDepth 20000 in
theorem f_7025 : XE2 (7025, 7, 2, 0) := ⟨RX7, TX7, 6, rfl, by decide, xin_at 264 rfl rfl, by decide +kernel⟩
set_option maxRecDepth 20000 in
theorem f_7028 : XE2 (7028, 7, 5, 0) := ⟨RX7, TX7, 6, rfl, by decide, xin_at 271 rfl rfl, by decide +kernel⟩
set_option maxRecDepth 20000 in
theorem f_7035 : XE2 (7035, 7, 4, 2) := ⟨RX7, TX7, 6, rfl, by decide, xin_at 267 rfl rfl, by decide +kernel⟩
set_option maxRecDepth 20000 in
theorem f_8009 : XE2 (8009, 8, 0, 0) := ⟨RX8, TX8, 11, rfl, by decide, xin_at 393 rfl rfl, by decide +kernel⟩
set_option maxRecDepth 20000 in
theorem f_8015 : XE2 (8015, 8, 3, 2) := ⟨RX8, TX8, 11, rfl, by decide, xin_at 400 rfl rfl, by decide +kernel⟩
set_option maxRecDepth 20000 in
theorem f_8019 : XE2 (8019, 8, 1, 2) := ⟨RX8, TX8, 11, rfl, by decide, xin_at 395 rfl rfl, by decide +kernel⟩
set_option maxRecDepth 20000 in
theorem f_8023 : XE2 (8023, 8, 4, 2) := ⟨RX8, TX8, 11, rfl, by decide, xin_at 402 rfl rfl, by decide +kernel⟩
set_option maxRecDepth 20000 in
theorem f_8027 : XE2 (8027, 8, 2, 2) := ⟨RX8, TX8, 11, rfl, by decide, xin_at 398 rfl rfl, by decide +kernel⟩
set_option maxRecDepth 20000 in
theorem f_8031 : XE2 (8031, 8, 5, 0) := ⟨RX8, TX8, 11, rfl, by decide, xin_at 408 rfl rfl, by decide +kernel⟩
set_option maxRecDepth 20000 in
theorem f_8034 : XE2 (8034, 8, 9, 3) := ⟨RX8, TX8, 11, rfl, by decide, xin_at 420 rfl rfl, by decide +kernel⟩
set_option maxRecDepth 20000 in
theorem f_8038 : XE2 (8038, 8, 7, 0) := ⟨RX8, TX8, 11, rfl, by decide, xin_at 416 rfl rfl, by decide +kernel⟩
set_option maxRecDepth 20000 in
theorem f_8041 : XE2 (8041, 8, 6, 0) := ⟨RX8, TX8, 11, rfl, by decide, xin_at 412 rfl rfl, by decide +kernel⟩
set_option maxRecDepth 20000 in
theorem f_8044 : XE2 (8044, 7, 4, 2) := ⟨RX7, TX7, 6, rfl, by decide, xin_at 269 rfl rfl, by decide +kernel⟩
set_option maxRecDepth 20000 in
theorem f_8049 : XE2 (8049, 7, 1, 2) := ⟨RX7, TX7, 6, rfl, by decide, xin_at 262 rfl rfl, by decide +kernel⟩
set_option maxRecDepth 20000 in
theorem f_8065 : XE2 (8065, 7, 0, 0) := ⟨RX7, TX7, 6, rfl, by decide, xin_at 260 rfl rfl, by decide +kernel⟩
set_option maxRecDepth 20000 in
theorem f_8066 : XE2 (8066, 1, 0, 0) := ⟨RX1, TX1, 14, rfl, by decide, xin_at 297 rfl rfl, by decide +kernel⟩
set_option maxRecDepth 20000 in
theorem f_8067 : XE2 (8067, 10, 0, 0) := ⟨RX10, TX10, 2, rfl, by decide, xin_at 367 rfl rfl, by decide +kernel⟩
set_option maxRecDepth 20000 in
theorem f_9011 : XE2 (9011, 9, 0, 2) := ⟨RX9, TX9, 4, rfl, by decide, xin_at 108 rfl rfl, by decide +kernel⟩
set_option maxRecDepth 20000 in
theorem f_9019 : XE2 (9019, 9, 1, 2) := ⟨RX9, TX9, 4, rfl, by decide, xin_at 110 rfl rfl, by decide +kernel⟩
set_option maxRecDepth 20000 in
theorem f_9023 : XE2 (9023, 9, 2, 0) := ⟨RX9, TX9, 4, rfl, by decide, xin_at 111 rfl rfl, by decide +kernel⟩
set_option maxRecDepth 20000 in
theorem f_9031 : XE2 (9031, 8, 5, 0) := ⟨RX8, TX8, 11, rfl, by decide, xin_at 409 rfl rfl, by decide +kernel⟩
set_option maxRecDepth 20000 in
theorem f_9034 : XE2 (9034, 9, 3, 0) := ⟨RX9, TX9, 4, rfl, by decide, xin_at 114 rfl rfl, by decide +kernel⟩
set_option maxRecDepth 20000 in
theorem f_9037 : XE2 (9037, 7, 2, 0) := ⟨RX7, TX7, 6, rfl, by decide, xin_at 265 rfl rfl, by decide +kernel⟩
set_option maxRecDepth 20000 in
theorem f_9044 : XE2 (9044, 7, 1, 2) := ⟨RX7, TX7, 6, rfl, by decide, xin_at 263 rfl rfl, by decide +kernel⟩
set_option maxRecDepth 20000 in
theorem f_9067 : XE2 (9067, 8, 1, 2) := ⟨RX8, TX8, 11, rfl, by decide, xin_at 397 rfl rfl, by decide +kernel⟩
set_option maxRecDepth 20000 in
theorem f_9070 : XE2 (9070, 7, 4, 2) := ⟨RX7, TX7, 6, rfl, by decide, xin_at 270 rfl rfl, by decide +kernel⟩
set_option maxRecDepth 20000 in
theorem f_9085 : XE2 (9085, 8, 4, 2) := ⟨RX8, TX8, 11, rfl, by decide, xin_at 407 rfl rfl, by decide +kernel⟩
set_option maxRecDepth 20000 in
theorem f_9089 : XE2 (9089, 8, 6, 0) := ⟨RX8, TX8, 11, rfl, by decide, xin_at 414 rfl rfl, by decide +kernel⟩
set_option maxRecDepth 20000 in
theorem f_9095 : XE2 (9095, 8, 3, 2) := ⟨RX8, TX8, 11, rfl, by decide, xin_at 401 rfl rfl, by decide +kernel⟩
set_option maxRecDepth 20000 in
theorem f_10007 : XE2 (10007, 10, 0, 0) := ⟨RX10, TX10, 2, rfl, by decide, xin_at 365 rfl rfl, by decide +kernel⟩
set_option maxRecDepth 20000 in
theorem f_11010 : XE2 (11010, 11, 0, 2) := ⟨RX11, TX11, 5, rfl, by decide, xin_at 460 rfl rfl, by decide +kernel⟩
set_option maxRecDepth 20000 in
theorem f_11019 : XE2 (11019, 11, 1, 2) := ⟨RX11, TX11, 5, rfl, by decide, xin_at 461 rfl rfl, by decide +kernel⟩
set_option maxRecDepth 20000 in
theorem f_11028 : XE2 (11028, 11, 2, 2) := ⟨RX11, TX11, 5, rfl, by decide, xin_at 462 rfl rfl, by decide +kernel⟩
set_option maxRecDepth 20000 in
theorem f_11035 : XE2 (11035, 11, 3, 2) := ⟨RX11, TX11, 5, rfl, by decide, xin_at 463 rfl rfl, by decide +kernel⟩
set_option maxRecDepth 20000 in
theorem f_11042 : XE2 (11042, 11, 4, 2) := ⟨RX11, TX11, 5, rfl, by decide, xin_at 464 rfl rfl, by decide +kernel⟩
set_option maxRecDepth 20000 in
theorem f_11066 : XE2 (11066, 8, 4, 2) := ⟨RX8, TX8, 11, rfl, by decide, xin_at 404 rfl rfl, by decide +kernel⟩
set_option maxRecDepth 20000 in
theorem f_11078 : XE2 (11078, 8, 1, 2) := ⟨RX8, TX8, 11, rfl, by decide, xin_at 396 rfl rfl, by decide +kernel⟩
set_option maxRecDepth 20000 in
theorem f_11086 : XE2 (11086, 8, 2, 2) := ⟨RX8, TX8, 11, rfl, by decide, xin_at 399 rfl rfl, by decide +kernel⟩
set_option maxRecDepth 20000 in
theorem f_11102 : XE2 (11102, 8, 0, 0) := ⟨RX8, TX8, 11, rfl, by decide, xin_at 394 rfl rfl, by decide +kernel⟩
set_option maxRecDepth 20000 in
theorem f_11118 : XE2 (11118, 7, 4, 2) := ⟨RX7, TX7, 6, rfl, by decide, xin_at 268 rfl rfl, by decide +kernel⟩
set_option maxRecDepth 20000 in
theorem f_11122 : XE2 (11122, 8, 5, 0) := ⟨RX8, TX8, 11, rfl, by decide, xin_at 411 rfl rfl, by decide +kernel⟩
set_option maxRecDepth 20000 in
theorem f_11148 : XE2 (11148, 9, 2, 0) := ⟨RX9, TX9, 4, rfl, by decide, xin_at 113 rfl rfl, by decide +kernel⟩
set_option maxRecDepth 20000 in
theorem f_11154 : XE2 (11154, 9, 3, 0) := ⟨RX9, TX9, 4, rfl, by decide, xin_at 115 rfl rfl, by decide +kernel⟩
set_option maxRecDepth 20000 in
theorem f_11157 : XE2 (11157, 2, 1, 0) := ⟨RX2, TX2, 2, rfl, by decide, xin_at 92 rfl rfl, by decide +kernel⟩
set_option maxRecDepth 20000 in
theorem f_11158 : XE2 (11158, 5, 4, 0) := ⟨RX5, TX5, 6, rfl, by decide, xin_at 234 rfl rfl, by decide +kernel⟩
set_option maxRecDepth 20000 in
theorem f_11161 : XE2 (11161, 5, 3, 0) := ⟨RX5, TX5, 6, rfl, by decide, xin_at 232 rfl rfl, by decide +kernel⟩
set_option maxRecDepth 20000 in
theorem f_11164 : XE2 (11164, 0, 2, 0) := ⟨RX0, TX0, 3, rfl, by decide, xin_at 151 rfl rfl, by decide +kernel⟩
set_option maxRecDepth 20000 in
theorem f_11167 : XE2 (11167, 3, 2, 0) := ⟨RX3, TX3, 3, rfl, by decide, xin_at 134 rfl rfl, by decide +kernel⟩
set_option maxRecDepth 20000 in
theorem f_11183 : XE2 (11183, 1, 0, 0) := ⟨RX1, TX1, 14, rfl, by decide, xin_at 296 rfl rfl, by decide +kernel⟩
set_option maxRecDepth 20000 in
theorem f_11218 : XE2 (11218, 8, 6, 0) := ⟨RX8, TX8, 11, rfl, by decide, xin_at 415 rfl rfl, by decide +kernel⟩
set_option maxRecDepth 20000 in
theorem f_11226 : XE2 (11226, 1, 9, 0) := ⟨RX1, TX1, 14, rfl, by decide, xin_at 313 rfl rfl, by decide +kernel⟩
set_option maxRecDepth 20000 in
theorem f_11238 : XE2 (11238, 8, 7, 0) := ⟨RX8, TX8, 11, rfl, by decide, xin_at 417 rfl rfl, by decide +kernel⟩
set_option maxRecDepth 20000 in
theorem f_11247 : XE2 (11247, 8, 9, 3) := ⟨RX8, TX8, 11, rfl, by decide, xin_at 421 rfl rfl, by decide +kernel⟩
set_option maxRecDepth 20000 in
theorem f_11251 : XE2 (11251, 8, 8, 0) := ⟨RX8, TX8, 11, rfl, by decide, xin_at 419 rfl rfl, by decide +kernel⟩
set_option maxRecDepth 20000 in
theorem f_11256 : XE2 (11256, 1, 11, 1) := ⟨RX1, TX1, 14, rfl, by decide, xin_at 318 rfl rfl, by decide +kernel⟩
set_option maxRecDepth 20000 in
theorem f_11260 : XE2 (11260, 8, 10, 1) := ⟨RX8, TX8, 11, rfl, by decide, xin_at 424 rfl rfl, by decide +kernel⟩
set_option maxRecDepth 20000 in
theorem f_11263 : XE2 (11263, 5, 2, 2) := ⟨RX5, TX5, 6, rfl, by decide, xin_at 230 rfl rfl, by decide +kernel⟩
set_option maxRecDepth 20000 in
theorem f_11273 : XE2 (11273, 6, 0, 2) := ⟨RX6, TX6, 2, rfl, by decide, xin_at 176 rfl rfl, by decide +kernel⟩
set_option maxRecDepth 20000 in
theorem f_11277 : XE2 (11277, 6, 1, 0) := ⟨RX6, TX6, 2, rfl, by decide, xin_at 178 rfl rfl, by decide +kernel⟩
set_option maxRecDepth 20000 in
theorem f_11298 : XE2 (11298, 10, 1, 2) := ⟨RX10, TX10, 2, rfl, by decide, xin_at 370 rfl rfl, by decide +kernel⟩
set_option maxRecDepth 20000 in
theorem f_12007 : XE2 (12007, 12, 2, 2) := ⟨RX12, TX12, 41, rfl, by decide, xin_at 1049 rfl rfl, by decide +kernel⟩
set_option maxRecDepth 20000 in
theorem f_12013 : XE2 (12013, 12, 3, 2) := ⟨RX12, TX12, 41, rfl, by decide, xin_at 1050 rfl rfl, by decide +kernel⟩
set_option maxRecDepth 20000 in
theorem f_12016 : XE2 (12016, 12, 4, 2) := ⟨RX12, TX12, 41, rfl, by decide, xin_at 1051 rfl rfl, by decide +kernel⟩
set_option maxRecDepth 20000 in
theorem f_12019 : XE2 (12019, 12, 5, 2) := ⟨RX12, TX12, 41, rfl, by decide, xin_at 1052 rfl rfl, by decide +kernel⟩
set_option maxRecDepth 20000 in
theorem f_12022 : XE2 (12022, 12, 6, 2) := ⟨RX12, TX12, 41, rfl, by decide, xin_at 1053 rfl rfl, by decide +kernel⟩
set_option maxRecDepth 20000 in
theorem f_12025 : XE2 (12025, 12, 7, 2) := ⟨RX12, TX12, 41, rfl, by decide, xin_at 1054 rfl rfl, by decide +kernel⟩
set_option maxRecDepth 20000 in
theorem f_12028 : XE2 (12028, 12, 8, 2) := ⟨RX12, TX12, 41, rfl, by decide, xin_at 1055 rfl rfl, by decide +kernel⟩
set_option maxRecDepth 20000 in
theorem f_12031 : XE2 (12031, 12, 9, 2) := ⟨RX12, TX12, 41, rfl, by decide, xin_at 1056 rfl rfl, by decide +kernel⟩
set_option maxRecDepth 20000 in
theorem f_12035 : XE2 (12035, 12, 10, 2) := ⟨RX12, TX12, 41, rfl, by decide, xin_at 1057 rfl rfl, by decide +kernel⟩
set_option maxRecDepth 20000 in
theorem f_12039 : XE2 (12039, 12, 11, 2) := ⟨RX12, TX12, 41, rfl, by decide, xin_at 1058 rfl rfl, by decide +kernel⟩
set_option maxRecDepth 20000 in
theorem f_12042 : XE2 (12042, 12, 12, 2) := ⟨RX12, TX12, 41, rfl, by decide, xin_at 1059 rfl rfl, by decide +kernel⟩
set_option maxRecDepth 20000 in
theorem f_12045 : XE2 (12045, 12, 14, 2) := ⟨RX12, TX12, 41, rfl, by decide, xin_at 1061 rfl rfl, by decide +kernel⟩
set_option maxRecDepth 20000 in
theorem f_12048 : XE2 (12048, 12, 15, 2) := ⟨RX12, TX12, 41, rfl, by decide, xin_at 1062 rfl rfl, by decide +kernel⟩
set_option maxRecDepth 20000 in
theorem f_12051 : XE2 (12051, 12, 16, 2) := ⟨RX12, TX12, 41, rfl, by decide, xin_at 1063 rfl rfl, by decide +kernel⟩
set_option maxRecDepth 20000 in
theorem f_12054 : XE2 (12054, 12, 18, 2) := ⟨RX12, TX12, 41, rfl, by decide, xin_at 1065 rfl rfl, by decide +kernel⟩
set_option maxRecDepth 20000 in
theorem f_12057 : XE2 (12057, 12, 19, 2) := ⟨RX12, TX12, 41, rfl, by decide, xin_at 1066 rfl rfl, by decide +kernel⟩
set_option maxRecDepth 20000 in
theorem f_12060 : XE2 (12060, 12, 20, 2) := ⟨RX12, TX12, 41, rfl, by decide, xin_at 1067 rfl rfl, by decide +kernel⟩
set_option maxRecDepth 20000 in
theorem f_12063 : XE2 (12063, 12, 21, 2) := ⟨RX12, TX12, 41, rfl, by decide, xin_at 1068 rfl rfl, by decide +kernel⟩
set_option maxRecDepth 20000 in
theorem f_12066 : XE2 (12066, 12, 22, 2) := ⟨RX12, TX12, 41, rfl, by decide, xin_at 1069 rfl rfl, by decide +kernel⟩
set_option maxRecDepth 20000 in
theorem f_12069 : XE2 (12069, 12, 23, 2) := ⟨RX12, TX12, 41, rfl, by decide, xin_at 1070 rfl rfl, by decide +kernel⟩
set_option maxRecDepth 20000 in
theorem f_12072 : XE2 (12072, 12, 24, 2) := ⟨RX12, TX12, 41, rfl, by decide, xin_at 1071 rfl rfl, by decide +kernel⟩
set_option maxRecDepth 20000 in
theorem f_12075 : XE2 (12075, 12, 25, 2) := ⟨RX12, TX12, 41, rfl, by decide, xin_at 1072 rfl rfl, by decide +kernel⟩
set_option maxRecDepth 20000 in
theorem f_12078 : XE2 (12078, 12, 29, 2) := ⟨RX12, TX12, 41, rfl, by decide, xin_at 1076 rfl rfl, by decide +kernel⟩
set_option maxRecDepth 20000 in
theorem f_12081 : XE2 (12081, 12, 30, 2) := ⟨RX12, TX12, 41, rfl, by decide, xin_at 1077 rfl rfl, by decide +kernel⟩
set_option maxRecDepth 20000 in
theorem f_12084 : XE2 (12084, 12, 31, 2) := ⟨RX12, TX12, 41, rfl, by decide, xin_at 1078 rfl rfl, by decide +kernel⟩
set_option maxRecDepth 20000 in
theorem f_12087 : XE2 (12087, 12, 32, 2) := ⟨RX12, TX12, 41, rfl, by decide, xin_at 1079 rfl rfl, by decide +kernel⟩
set_option maxRecDepth 20000 in
theorem f_12090 : XE2 (12090, 12, 33, 2) := ⟨RX12, TX12, 41, rfl, by decide, xin_at 1080 rfl rfl, by decide +kernel⟩
set_option maxRecDepth 20000 in
theorem f_12093 : XE2 (12093, 12, 34, 2) := ⟨RX12, TX12, 41, rfl, by decide, xin_at 1081 rfl rfl, by decide +kernel⟩
set_option maxRecDepth 20000 in
theorem f_12096 : XE2 (12096, 12, 35, 2) := ⟨RX12, TX12, 41, rfl, by decide, xin_at 1082 rfl rfl, by decide +kernel⟩
set_option maxRecDepth 20000 in
theorem f_12099 : XE2 (12099, 12, 39, 2) := ⟨RX12, TX12, 41, rfl, by decide, xin_at 1086 rfl rfl, by decide +kernel⟩
set_option maxRecDepth 20000 in
theorem f_12102 : XE2 (12102, 12, 40, 2) := ⟨RX12, TX12, 41, rfl, by decide, xin_at 1087 rfl rfl, by decide +kernel⟩
set_option maxRecDepth 20000 in
theorem f_12105 : XE2 (12105, 12, 13, 0) := ⟨RX12, TX12, 41, rfl, by decide, xin_at 1060 rfl rfl, by decide +kernel⟩
set_option maxRecDepth 20000 in
theorem f_12113 : XE2 (12113, 12, 28, 0) := ⟨RX12, TX12, 41, rfl, by decide, xin_at 1075 rfl rfl, by decide +kernel⟩
set_option maxRecDepth 20000 in
theorem f_12120 : XE2 (12120, 12, 1, 0) := ⟨RX12, TX12, 41, rfl, by decide, xin_at 1048 rfl rfl, by decide +kernel⟩
set_option maxRecDepth 20000 in
theorem f_12123 : XE2 (12123, 12, 0, 0) := ⟨RX12, TX12, 41, rfl, by decide, xin_at 1047 rfl rfl, by decide +kernel⟩
set_option maxRecDepth 20000 in
theorem f_12134 : XE2 (12134, 12, 17, 0) := ⟨RX12, TX12, 41, rfl, by decide, xin_at 1064 rfl rfl, by decide +kernel⟩
set_option maxRecDepth 20000 in
theorem f_12187 : XE2 (12187, 12, 26, 0) := ⟨RX12, TX12, 41, rfl, by decide, xin_at 1073 rfl rfl, by decide +kernel⟩
set_option maxRecDepth 20000 in
theorem f_12190 : XE2 (12190, 12, 27, 0) := ⟨RX12, TX12, 41, rfl, by decide, xin_at 1074 rfl rfl, by decide +kernel⟩
set_option maxRecDepth 20000 in
theorem f_12249 : XE2 (12249, 12, 37, 0) := ⟨RX12, TX12, 41, rfl, by decide, xin_at 1084 rfl rfl, by decide +kernel⟩
set_option maxRecDepth 20000 in
theorem f_12252 : XE2 (12252, 12, 38, 0) := ⟨RX12, TX12, 41, rfl, by decide, xin_at 1085 rfl rfl, by decide +kernel⟩
set_option maxRecDepth 20000 in
theorem f_12270 : XE2 (12270, 12, 36, 0) := ⟨RX12, TX12, 41, rfl, by decide, xin_at 1083 rfl rfl, by decide +kernel⟩
set_option maxRecDepth 100000 in
theorem xfd_all : ∀ e ∈ xfdL, XE2 e := List.forall_mem_cons.mpr ⟨f_9, List.forall_mem_cons.mpr ⟨f_15, List.forall_mem_cons.mpr ⟨f_30, List.forall_mem_cons.mpr ⟨f_37, List.forall_mem_cons.mpr ⟨f_55, List.forall_mem_cons.mpr ⟨f_59, List.forall_mem_cons.mpr ⟨f_62, List.forall_mem_cons.mpr ⟨f_63, List.forall_mem_cons.mpr ⟨f_68, List.forall_mem_cons.mpr ⟨f_72, List.forall_mem_cons.mpr ⟨f_76, List.forall_mem_cons.mpr ⟨f_79, List.forall_mem_cons.mpr ⟨f_82, List.forall_mem_cons.mpr ⟨f_104, List.forall_mem_cons.mpr ⟨f_109, List.forall_mem_cons.mpr ⟨f_112, List.forall_mem_cons.mpr ⟨f_1010, List.forall_mem_cons.mpr ⟨f_1016, List.forall_mem_cons.mpr ⟨f_1019, List.forall_mem_cons.mpr ⟨f_1022, List.forall_mem_cons.mpr ⟨f_1025, List.forall_mem_cons.mpr ⟨f_1029, List.forall_mem_cons.mpr ⟨f_1032, List.forall_mem_cons.mpr ⟨f_1035, List.forall_mem_cons.mpr ⟨f_1038, List.forall_mem_cons.mpr ⟨f_1045, List.forall_mem_cons.mpr ⟨f_1054, List.forall_mem_cons.mpr ⟨f_1064, List.forall_mem_cons.mpr ⟨f_1067, List.forall_mem_cons.mpr ⟨f_1071, List.forall_mem_cons.mpr ⟨f_1074, List.forall_mem_cons.mpr ⟨f_1077, List.forall_mem_cons.mpr ⟨f_1081, List.forall_mem_cons.mpr ⟨f_2011, List.forall_mem_cons.mpr ⟨f_2017, List.forall_mem_cons.mpr ⟨f_2021, List.forall_mem_cons.mpr ⟨f_2027, List.forall_mem_cons.mpr ⟨f_3009, List.forall_mem_cons.mpr ⟨f_3015, List.forall_mem_cons.mpr ⟨f_3019, List.forall_mem_cons.mpr ⟨f_3033, List.forall_mem_cons.mpr ⟨f_3048, List.forall_mem_cons.mpr ⟨f_3068, List.forall_mem_cons.mpr ⟨f_3075, List.forall_mem_cons.mpr ⟨f_4011, List.forall_mem_cons.mpr ⟨f_4015, List.forall_mem_cons.mpr ⟨f_4019, List.forall_mem_cons.mpr ⟨f_4023, List.forall_mem_cons.mpr ⟨f_4026, List.forall_mem_cons.mpr ⟨f_4029, List.forall_mem_cons.mpr ⟨f_4032, List.forall_mem_cons.mpr ⟨f_4036, List.forall_mem_cons.mpr ⟨f_4043, List.forall_mem_cons.mpr ⟨f_5011, List.forall_mem_cons.mpr ⟨f_5019, List.forall_mem_cons.mpr ⟨f_5026, List.forall_mem_cons.mpr ⟨f_5033, List.forall_mem_cons.mpr ⟨f_5037, List.forall_mem_cons.mpr ⟨f_5049, List.forall_mem_cons.mpr ⟨f_5058, List.forall_mem_cons.mpr ⟨f_5061, List.forall_mem_cons.mpr ⟨f_5064, List.forall_mem_cons.mpr ⟨f_5071, List.forall_mem_cons.mpr ⟨f_5074, List.forall_mem_cons.mpr ⟨f_5081, List.forall_mem_cons.mpr ⟨f_5084, List.forall_mem_cons.mpr ⟨f_5107, List.forall_mem_cons.mpr ⟨f_5110, List.forall_mem_cons.mpr ⟨f_6009, List.forall_mem_cons.mpr ⟨f_6025, List.forall_mem_cons.mpr ⟨f_6029, List.forall_mem_cons.mpr ⟨f_6038, List.forall_mem_cons.mpr ⟨f_6041, List.forall_mem_cons.mpr ⟨f_7011, List.forall_mem_cons.mpr ⟨f_7017, List.forall_mem_cons.mpr ⟨f_7021, List.forall_mem_cons.mpr ⟨f_7025, List.forall_mem_cons.mpr ⟨f_7028, List.forall_mem_cons.mpr ⟨f_7035, List.forall_mem_cons.mpr ⟨f_8009, List.forall_mem_cons.mpr ⟨f_8015, List.forall_mem_cons.mpr ⟨f_8019, List.forall_mem_cons.mpr ⟨f_8023, List.forall_mem_cons.mpr ⟨f_8027, List.forall_mem_cons.mpr ⟨f_8031, List.forall_mem_cons.mpr ⟨f_8034, List.forall_mem_cons.mpr ⟨f_8038, List.forall_mem_cons.mpr ⟨f_8041, List.forall_mem_cons.mpr ⟨f_8044, List.forall_mem_cons.mpr ⟨f_8049, List.forall_mem_cons.mpr ⟨f_8065, List.forall_mem_cons.mpr ⟨f_8066, List.forall_mem_cons.mpr ⟨f_8067, List.forall_mem_cons.mpr ⟨f_9011, List.forall_mem_cons.mpr ⟨f_9019, List.forall_mem_cons.mpr ⟨f_9023, List.forall_mem_cons.mpr ⟨f_9031, List.forall_mem_cons.mpr ⟨f_9034, List.forall_mem_cons.mpr ⟨f_9037, List.forall_mem_cons.mpr ⟨f_9044, List.forall_mem_cons.mpr ⟨f_9067, List.forall_mem_cons.mpr ⟨f_9070, List.forall_mem_cons.mpr ⟨f_9085, List.forall_mem_cons.mpr ⟨f_9089, List.forall_mem_cons.mpr ⟨f_9095, List.forall_mem_cons.mpr ⟨f_10007, List.forall_mem_cons.mpr ⟨f_11010, List.forall_mem_cons.mpr ⟨f_11019, List.forall_mem_cons.mpr ⟨f_11028, List.forall_mem_cons.mpr ⟨f_11035, List.forall_mem_cons.mpr ⟨f_11042, List.forall_mem_cons.mpr ⟨f_11066, List.forall_mem_cons.mpr ⟨f_11078, List.forall_mem_cons.mpr ⟨f_11086, List.forall_mem_cons.mpr ⟨f_11102, List.forall_mem_cons.mpr ⟨f_11118, List.forall_mem_cons.mpr ⟨f_11122, List.forall_mem_cons.mpr ⟨f_11148, List.forall_mem_cons.mpr ⟨f_11154, List.forall_mem_cons.mpr ⟨f_11157, List.forall_mem_cons.mpr ⟨f_11158, List.forall_mem_cons.mpr ⟨f_11161, List.forall_mem_cons.mpr ⟨f_11164, List.forall_mem_cons.mpr ⟨f_11167, List.forall_mem_cons.mpr ⟨f_11183, List.forall_mem_cons.mpr ⟨f_11218, List.forall_mem_cons.mpr ⟨f_11226, List.forall_mem_cons.mpr ⟨f_11238, List.forall_mem_cons.mpr ⟨f_11247, List.forall_mem_cons.mpr ⟨f_11251, List.forall_mem_cons.mpr ⟨f_11256, List.forall_mem_cons.mpr ⟨f_11260, List.forall_mem_cons.mpr ⟨f_11263, List.forall_mem_cons.mpr ⟨f_11273, List.forall_mem_cons.mpr ⟨f_11277, List.forall_mem_cons.mpr ⟨f_11298, List.forall_mem_cons.mpr ⟨f_12007, List.forall_mem_cons.mpr ⟨f_12013, List.forall_mem_cons.mpr ⟨f_12016, List.forall_mem_cons.mpr ⟨f_12019, List.forall_mem_cons.mpr ⟨f_12022, List.forall_mem_cons.mpr ⟨f_12025, List.forall_mem_cons.mpr ⟨f_12028, List.forall_mem_cons.mpr ⟨f_12031, List.forall_mem_cons.mpr ⟨f_12035, List.forall_mem_cons.mpr ⟨f_12039, List.forall_mem_cons.mpr ⟨f_12042, List.forall_mem_cons.mpr ⟨f_12045, List.forall_mem_cons.mpr ⟨f_12048, List.forall_mem_cons.mpr ⟨f_12051, List.forall_mem_cons.mpr ⟨f_12054, List.forall_mem_cons.mpr ⟨f_12057, List.forall_mem_cons.mpr ⟨f_12060, List.forall_mem_cons.mpr ⟨f_12063, List.forall_mem_cons.mpr ⟨f_12066, List.forall_mem_cons.mpr ⟨f_12069, List.forall_mem_cons.mpr ⟨f_12072, List.forall_mem_cons.mpr ⟨f_12075, List.forall_mem_cons.mpr ⟨f_12078, List.forall_mem_cons.mpr ⟨f_12081, List.forall_mem_cons.mpr ⟨f_12084, List.forall_mem_cons.mpr ⟨f_12087, List.forall_mem_cons.mpr ⟨f_12090, List.forall_mem_cons.mpr ⟨f_12093, List.forall_mem_cons.mpr ⟨f_12096, List.forall_mem_cons.mpr ⟨f_12099, List.forall_mem_cons.mpr ⟨f_12102, List.forall_mem_cons.mpr ⟨f_12105, List.forall_mem_cons.mpr ⟨f_12113, List.forall_mem_cons.mpr ⟨f_12120, List.forall_mem_cons.mpr ⟨f_12123, List.forall_mem_cons.mpr ⟨f_12134, List.forall_mem_cons.mpr ⟨f_12187, List.forall_mem_cons.mpr ⟨f_12190, List.forall_mem_cons.mpr ⟨f_12249, List.forall_mem_cons.mpr ⟨f_12252, List.forall_mem_cons.mpr ⟨f_12270, fun _ h => absurd h List.not_mem_nil⟩⟩⟩⟩⟩⟩⟩⟩⟩⟩⟩⟩⟩⟩⟩⟩⟩⟩⟩⟩⟩⟩⟩⟩⟩⟩⟩⟩⟩⟩⟩⟩⟩⟩⟩⟩⟩⟩⟩⟩⟩⟩⟩⟩⟩⟩⟩⟩⟩⟩⟩⟩⟩⟩⟩⟩⟩⟩⟩⟩⟩⟩⟩⟩⟩⟩⟩⟩⟩⟩⟩⟩⟩⟩⟩⟩⟩⟩⟩⟩⟩⟩⟩⟩⟩⟩⟩⟩⟩⟩⟩⟩⟩⟩⟩⟩⟩⟩⟩⟩⟩⟩⟩⟩⟩⟩⟩⟩⟩⟩⟩⟩⟩⟩⟩⟩⟩⟩⟩⟩⟩⟩⟩⟩⟩⟩⟩⟩⟩⟩⟩⟩⟩⟩⟩⟩⟩⟩⟩⟩⟩⟩⟩⟩⟩⟩⟩⟩⟩⟩⟩⟩⟩⟩⟩⟩⟩⟩⟩⟩⟩⟩⟩⟩⟩⟩⟩⟩⟩⟩⟩⟩⟩⟩⟩⟩⟩
theorem xs2 : XS2 := by
  intro o x t f q h
  obtain ⟨h1, h2, h3⟩ := xlk_key (l := xfdL) h
  have h4 := xfd_all _ h1
  unfold XE2 at h4
  rw [show ((1000 * o + x, t, f, q) : Nat × Nat × Nat × Nat).1 = 1000 * o + x from rfl, h2, h3] at h4
  exact h4
