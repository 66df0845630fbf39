/-! null is written (printed) -/
section AC
variable {e : EN} {C I : ST} {z : Nat × Nat × Nat × Nat}
theorem pn_1_1 (hA : WA e z) {i : Int} (h0 : 0 ≤ i) (h1 : i < e.2.1 1) : xpt (HS e C I z) (rf e 1 i) 1 1 (.inr (.inr none)) = some (HS e (up C 1 i 1 (-1)) I z) := by
  have h := p_1_1 (C := C) (I := I) hA h0 h1 (v := -1)
  rw [rf_n (i := -1) (by decide)] at h
  exact h
theorem pn_1_12 (hA : WA e z) {i : Int} (h0 : 0 ≤ i) (h1 : i < e.2.1 1) : xpt (HS e C I z) (rf e 1 i) 1 12 (.inr (.inr none)) = some (HS e (up C 1 i 12 (-1)) I z) := by
  have h := p_1_12 (C := C) (I := I) hA h0 h1 (v := -1)
  rw [rf_n (i := -1) (by decide)] at h
  exact h
theorem pn_1_13 (hA : WA e z) {i : Int} (h0 : 0 ≤ i) (h1 : i < e.2.1 1) : xpt (HS e C I z) (rf e 1 i) 1 13 (.inr (.inr none)) = some (HS e (up C 1 i 13 (-1)) I z) := by
  have h := p_1_13 (C := C) (I := I) hA h0 h1 (v := -1)
  rw [rf_n (i := -1) (by decide)] at h
  exact h
theorem pn_4_2 (hA : WA e z) {i : Int} (h0 : 0 ≤ i) (h1 : i < e.2.1 4) : xpt (HS e C I z) (rf e 4 i) 4 2 (.inr (.inr none)) = some (HS e (up C 4 i 2 (-1)) I z) := by
  have h := p_4_2 (C := C) (I := I) hA h0 h1 (v := -1)
  rw [rf_n (i := -1) (by decide)] at h
  exact h
theorem pn_4_3 (hA : WA e z) {i : Int} (h0 : 0 ≤ i) (h1 : i < e.2.1 4) : xpt (HS e C I z) (rf e 4 i) 4 3 (.inr (.inr none)) = some (HS e (up C 4 i 3 (-1)) I z) := by
  have h := p_4_3 (C := C) (I := I) hA h0 h1 (v := -1)
  rw [rf_n (i := -1) (by decide)] at h
  exact h
theorem pn_4_8 (hA : WA e z) {i : Int} (h0 : 0 ≤ i) (h1 : i < e.2.1 4) : xpt (HS e C I z) (rf e 4 i) 4 8 (.inr (.inr none)) = some (HS e (up C 4 i 8 (-1)) I z) := by
  have h := p_4_8 (C := C) (I := I) hA h0 h1 (v := -1)
  rw [rf_n (i := -1) (by decide)] at h
  exact h
theorem pn_6_0 (hA : WA e z) : xpt (HS e C I z) (rf e 6 0) 6 0 (.inr (.inr none)) = some (HS e (up C 6 0 0 (-1)) I z) := by
  have h := p_6_0 (C := C) (I := I) hA (v := -1)
  rw [rf_n (i := -1) (by decide)] at h
  exact h
theorem pn_7_1 (hA : WA e z) {i : Int} (h0 : 0 ≤ i) (h1 : i < e.2.1 7) : xpt (HS e C I z) (rf e 7 i) 7 1 (.inr (.inr none)) = some (HS e (up C 7 i 1 (-1)) I z) := by
  have h := p_7_1 (C := C) (I := I) hA h0 h1 (v := -1)
  rw [rf_n (i := -1) (by decide)] at h
  exact h
theorem pn_7_4 (hA : WA e z) {i : Int} (h0 : 0 ≤ i) (h1 : i < e.2.1 7) : xpt (HS e C I z) (rf e 7 i) 7 4 (.inr (.inr none)) = some (HS e (up C 7 i 4 (-1)) I z) := by
  have h := p_7_4 (C := C) (I := I) hA h0 h1 (v := -1)
  rw [rf_n (i := -1) (by decide)] at h
  exact h
theorem pn_8_1 (hA : WA e z) {i : Int} (h0 : 0 ≤ i) (h1 : i < e.2.1 8) : xpt (HS e C I z) (rf e 8 i) 8 1 (.inr (.inr none)) = some (HS e (up C 8 i 1 (-1)) I z) := by
  have h := p_8_1 (C := C) (I := I) hA h0 h1 (v := -1)
  rw [rf_n (i := -1) (by decide)] at h
  exact h
theorem pn_8_2 (hA : WA e z) {i : Int} (h0 : 0 ≤ i) (h1 : i < e.2.1 8) : xpt (HS e C I z) (rf e 8 i) 8 2 (.inr (.inr none)) = some (HS e (up C 8 i 2 (-1)) I z) := by
  have h := p_8_2 (C := C) (I := I) hA h0 h1 (v := -1)
  rw [rf_n (i := -1) (by decide)] at h
  exact h
theorem pn_8_3 (hA : WA e z) {i : Int} (h0 : 0 ≤ i) (h1 : i < e.2.1 8) : xpt (HS e C I z) (rf e 8 i) 8 3 (.inr (.inr none)) = some (HS e (up C 8 i 3 (-1)) I z) := by
  have h := p_8_3 (C := C) (I := I) hA h0 h1 (v := -1)
  rw [rf_n (i := -1) (by decide)] at h
  exact h
theorem pn_8_4 (hA : WA e z) {i : Int} (h0 : 0 ≤ i) (h1 : i < e.2.1 8) : xpt (HS e C I z) (rf e 8 i) 8 4 (.inr (.inr none)) = some (HS e (up C 8 i 4 (-1)) I z) := by
  have h := p_8_4 (C := C) (I := I) hA h0 h1 (v := -1)
  rw [rf_n (i := -1) (by decide)] at h
  exact h
theorem pn_10_1 (hA : WA e z) {i : Int} (h0 : 0 ≤ i) (h1 : i < e.2.1 10) : xpt (HS e C I z) (rf e 10 i) 10 1 (.inr (.inr none)) = some (HS e (up C 10 i 1 (-1)) I z) := by
  have h := p_10_1 (C := C) (I := I) hA h0 h1 (v := -1)
  rw [rf_n (i := -1) (by decide)] at h
  exact h
theorem sn_15 (hA : WA e z) {i : Int} (h0 : 0 ≤ i) (h1 : i < e.2.1 15) (hf : -1 < e.2.1 8) {a : Int} (a0 : 0 ≤ a) (a1 : a < 41) : xsr (HS e C I z) (rf e 15 i) (xk a) none = some (HS e (up C 15 i a (-1)) I z) := by
  have h := s_15 (C := C) (I := I) hA h0 h1 a0 a1 (v := -1) hf
  rw [rf_n (k := 8) (i := -1) (by decide)] at h
  exact h
theorem sn_17 (hA : WA e z) {i : Int} (h0 : 0 ≤ i) (h1 : i < e.2.1 17) (hf : -1 < e.2.1 4) {a : Int} (a0 : 0 ≤ a) (a1 : a < 15) : xsr (HS e C I z) (rf e 17 i) (xk a) none = some (HS e (up C 17 i a (-1)) I z) := by
  have h := s_17 (C := C) (I := I) hA h0 h1 a0 a1 (v := -1) hf
  rw [rf_n (k := 4) (i := -1) (by decide)] at h
  exact h
end AC
