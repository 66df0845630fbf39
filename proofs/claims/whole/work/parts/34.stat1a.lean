/-! the static facts: every instruction is what the bytes say -/
def xchk (mi : Nat) (q : Nat × Instr × Nat) : Bool := decide (decode (xcb mi) q.1 = .ok (q.2.1, q.2.2)) && xok mi q.1 q.2.1 q.2.2
theorem xcase {A B : List (Nat × Instr × Nat)} {P : List (Nat × Instr × Nat) → Prop} (b : Bool) (hA : b = true → P A) (hB : b = false → P B) : P (bif b then A else B) := by
  cases b with
  | true => exact hA rfl
  | false => exact hB rfl
theorem xleaf {i k : Nat} {A : List (Nat × Instr × Nat)} (h : ∀ q ∈ A, xchk k q = true) : ∀ q ∈ (bif Nat.beq i k then A else []), xchk i q = true := by
  cases hb : Nat.beq i k with
  | true =>
    have := Nat.eq_of_beq_eq_true hb
    subst this
    exact h
  | false => exact fun _ h => absurd h List.not_mem_nil
theorem xall_mem {mi : Nat} {l : List (Nat × Instr × Nat)} (h : l.all (xchk mi) = true) : ∀ q ∈ l, xchk mi q = true := List.all_eq_true.mp h
set_option maxRecDepth 100000 in
theorem C_0_0 : T_0_0.all (xchk 0) = true := by decide +kernel
set_option maxRecDepth 100000 in
theorem C_1_0 : T_1_0.all (xchk 1) = true := by decide +kernel
set_option maxRecDepth 100000 in
theorem C_2_0 : T_2_0.all (xchk 2) = true := by decide +kernel
set_option maxRecDepth 100000 in
theorem C_3_0 : T_3_0.all (xchk 3) = true := by decide +kernel
set_option maxRecDepth 100000 in
theorem C_4_0 : T_4_0.all (xchk 4) = true := by decide +kernel
set_option maxRecDepth 100000 in
theorem C_4_1 : T_4_1.all (xchk 4) = true := by decide +kernel
set_option maxRecDepth 100000 in
theorem C_4_2 : T_4_2.all (xchk 4) = true := by decide +kernel
set_option maxRecDepth 100000 in
theorem C_5_0 : T_5_0.all (xchk 5) = true := by decide +kernel
set_option maxRecDepth 100000 in
theorem C_6_0 : T_6_0.all (xchk 6) = true := by decide +kernel
set_option maxRecDepth 100000 in
theorem C_7_0 : T_7_0.all (xchk 7) = true := by decide +kernel
set_option maxRecDepth 100000 in
theorem C_8_0 : T_8_0.all (xchk 8) = true := by decide +kernel
set_option maxRecDepth 100000 in
theorem C_8_1 : T_8_1.all (xchk 8) = true := by decide +kernel
set_option maxRecDepth 100000 in
theorem C_9_0 : T_9_0.all (xchk 9) = true := by decide +kernel
set_option maxRecDepth 100000 in
theorem C_10_0 : T_10_0.all (xchk 10) = true := by decide +kernel
set_option maxRecDepth 100000 in
theorem C_11_0 : T_11_0.all (xchk 11) = true := by decide +kernel
set_option maxRecDepth 100000 in
theorem C_12_0 : T_12_0.all (xchk 12) = true := by decide +kernel
set_option maxRecDepth 100000 in
theorem C_13_0 : T_13_0.all (xchk 13) = true := by decide +kernel
set_option maxRecDepth 100000 in
theorem C_14_0 : T_14_0.all (xchk 14) = true := by decide +kernel
set_option maxRecDepth 100000 in
theorem C_15_0 : T_15_0.all (xchk 15) = true := by decide +kernel
set_option maxRecDepth 100000 in
theorem C_16_0 : T_16_0.all (xchk 16) = true := by decide +kernel
set_option maxRecDepth 100000 in
theorem C_17_0 : T_17_0.all (xchk 17) = true := by decide +kernel
set_option maxRecDepth 100000 in
theorem C_18_0 : T_18_0.all (xchk 18) = true := by decide +kernel
set_option maxRecDepth 100000 in
theorem C_19_0 : T_19_0.all (xchk 19) = true := by decide +kernel
set_option maxRecDepth 100000 in
theorem C_20_0 : T_20_0.all (xchk 20) = true := by decide +kernel
set_option maxRecDepth 100000 in
theorem C_21_0 : T_21_0.all (xchk 21) = true := by decide +kernel
set_option maxRecDepth 100000 in
theorem C_22_0 : T_22_0.all (xchk 22) = true := by decide +kernel
set_option maxRecDepth 100000 in
theorem C_23_0 : T_23_0.all (xchk 23) = true := by decide +kernel
set_option maxRecDepth 100000 in
theorem C_23_1 : T_23_1.all (xchk 23) = true := by decide +kernel
set_option maxRecDepth 100000 in
theorem C_24_0 : T_24_0.all (xchk 24) = true := by decide +kernel
set_option maxRecDepth 100000 in
theorem C_25_0 : T_25_0.all (xchk 25) = true := by decide +kernel
set_option maxRecDepth 100000 in
theorem C_26_0 : T_26_0.all (xchk 26) = true := by decide +kernel
set_option maxRecDepth 100000 in
theorem C_27_0 : T_27_0.all (xchk 27) = true := by decide +kernel
set_option maxRecDepth 100000 in
theorem C_28_0 : T_28_0.all (xchk 28) = true := by decide +kernel
set_option maxRecDepth 100000 in
theorem C_28_1 : T_28_1.all (xchk 28) = true := by decide +kernel
set_option maxRecDepth 100000 in
theorem C_29_0 : T_29_0.all (xchk 29) = true := by decide +kernel
set_option maxRecDepth 100000 in
theorem C_30_0 : T_30_0.all (xchk 30) = true := by decide +kernel
set_option maxRecDepth 100000 in
theorem C_31_0 : T_31_0.all (xchk 31) = true := by decide +kernel
set_option maxRecDepth 100000 in
theorem C_32_0 : T_32_0.all (xchk 32) = true := by decide +kernel
set_option maxRecDepth 100000 in
theorem C_32_1 : T_32_1.all (xchk 32) = true := by decide +kernel
set_option maxRecDepth 100000 in
theorem C_33_0 : T_33_0.all (xchk 33) = true := by decide +kernel
set_option maxRecDepth 100000 in
theorem C_34_0 : T_34_0.all (xchk 34) = true := by decide +kernel
set_option maxRecDepth 100000 in
theorem C_35_0 : T_35_0.all (xchk 35) = true := by decide +kernel
set_option maxRecDepth 100000 in
theorem C_36_0 : T_36_0.all (xchk 36) = true := by decide +kernel
set_option maxRecDepth 100000 in
theorem C_37_0 : T_37_0.all (xchk 37) = true := by decide +kernel
set_option maxRecDepth 100000 in
theorem C_38_0 : T_38_0.all (xchk 38) = true := by decide +kernel
set_option maxRecDepth 100000 in
theorem C_39_0 : T_39_0.all (xchk 39) = true := by decide +kernel
set_option maxRecDepth 100000 in
theorem C_40_0 : T_40_0.all (xchk 40) = true := by decide +kernel
set_option maxRecDepth 100000 in
theorem C_40_1 : T_40_1.all (xchk 40) = true := by decide +kernel
set_option maxRecDepth 100000 in
theorem C_41_0 : T_41_0.all (xchk 41) = true := by decide +kernel
set_option maxRecDepth 100000 in
theorem C_42_0 : T_42_0.all (xchk 42) = true := by decide +kernel
set_option maxRecDepth 100000 in
theorem C_43_0 : T_43_0.all (xchk 43) = true := by decide +kernel
set_option maxRecDepth 100000 in
theorem C_44_0 : T_44_0.all (xchk 44) = true := by decide +kernel
set_option maxRecDepth 100000 in
theorem C_45_0 : T_45_0.all (xchk 45) = true := by decide +kernel
set_option maxRecDepth 100000 in
theorem C_45_1 : T_45_1.all (xchk 45) = true := by decide +kernel
set_option maxRecDepth 100000 in
theorem C_46_0 : T_46_0.all (xchk 46) = true := by decide +kernel
set_option maxRecDepth 100000 in
theorem C_47_0 : T_47_0.all (xchk 47) = true := by decide +kernel
set_option maxRecDepth 100000 in
theorem C_48_0 : T_48_0.all (xchk 48) = true := by decide +kernel
set_option maxRecDepth 100000 in
theorem C_48_1 : T_48_1.all (xchk 48) = true := by decide +kernel
set_option maxRecDepth 100000 in
theorem C_49_0 : T_49_0.all (xchk 49) = true := by decide +kernel
set_option maxRecDepth 100000 in
theorem C_49_1 : T_49_1.all (xchk 49) = true := by decide +kernel
set_option maxRecDepth 100000 in
theorem C_49_2 : T_49_2.all (xchk 49) = true := by decide +kernel
set_option maxRecDepth 100000 in
theorem C_50_0 : T_50_0.all (xchk 50) = true := by decide +kernel
set_option maxRecDepth 100000 in
theorem C_51_0 : T_51_0.all (xchk 51) = true := by decide +kernel
set_option maxRecDepth 100000 in
theorem C_51_1 : T_51_1.all (xchk 51) = true := by decide +kernel
set_option maxRecDepth 100000 in
theorem C_52_0 : T_52_0.all (xchk 52) = true := by decide +kernel
set_option maxRecDepth 100000 in
theorem C_53_0 : T_53_0.all (xchk 53) = true := by decide +kernel
set_option maxRecDepth 100000 in
theorem C_54_0 : T_54_0.all (xchk 54) = true := by decide +kernel
set_option maxRecDepth 100000 in
theorem C_55_0 : T_55_0.all (xchk 55) = true := by decide +kernel
set_option maxRecDepth 100000 in
theorem C_55_1 : T_55_1.all (xchk 55) = true := by decide +kernel
set_option maxRecDepth 100000 in
theorem C_56_0 : T_56_0.all (xchk 56) = true := by decide +kernel
set_option maxRecDepth 100000 in
theorem C_57_0 : T_57_0.all (xchk 57) = true := by decide +kernel
set_option maxRecDepth 100000 in
theorem C_58_0 : T_58_0.all (xchk 58) = true := by decide +kernel
set_option maxRecDepth 100000 in
theorem C_58_1 : T_58_1.all (xchk 58) = true := by decide +kernel
set_option maxRecDepth 100000 in
theorem C_59_0 : T_59_0.all (xchk 59) = true := by decide +kernel
set_option maxRecDepth 100000 in
theorem C_60_0 : T_60_0.all (xchk 60) = true := by decide +kernel
