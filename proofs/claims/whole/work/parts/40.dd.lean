/-! ===== no quotient of a sum of contrasts is NaN ===== -/
theorem dd_1 : ∀ x : Nat, x < 2 → ∀ y : Nat, y < 50 → FP.ddiv (FP.i2d (I (50 * x + y : Nat))) (FP.i2d (I (1 : Nat))) &&& 0x7fffffffffffffff ≤ 0x7ff0000000000000 := by decide +kernel
theorem dd_2 : ∀ x : Nat, x < 4 → ∀ y : Nat, y < 50 → FP.ddiv (FP.i2d (I (50 * x + y : Nat))) (FP.i2d (I (2 : Nat))) &&& 0x7fffffffffffffff ≤ 0x7ff0000000000000 := by decide +kernel
theorem dd_3 : ∀ x : Nat, x < 6 → ∀ y : Nat, y < 50 → FP.ddiv (FP.i2d (I (50 * x + y : Nat))) (FP.i2d (I (3 : Nat))) &&& 0x7fffffffffffffff ≤ 0x7ff0000000000000 := by decide +kernel
theorem dd_4 : ∀ x : Nat, x < 8 → ∀ y : Nat, y < 50 → FP.ddiv (FP.i2d (I (50 * x + y : Nat))) (FP.i2d (I (4 : Nat))) &&& 0x7fffffffffffffff ≤ 0x7ff0000000000000 := by decide +kernel
theorem dd_5 : ∀ x : Nat, x < 10 → ∀ y : Nat, y < 50 → FP.ddiv (FP.i2d (I (50 * x + y : Nat))) (FP.i2d (I (5 : Nat))) &&& 0x7fffffffffffffff ≤ 0x7ff0000000000000 := by decide +kernel
theorem dd_6 : ∀ x : Nat, x < 12 → ∀ y : Nat, y < 50 → FP.ddiv (FP.i2d (I (50 * x + y : Nat))) (FP.i2d (I (6 : Nat))) &&& 0x7fffffffffffffff ≤ 0x7ff0000000000000 := by decide +kernel
theorem dd_7 : ∀ x : Nat, x < 14 → ∀ y : Nat, y < 50 → FP.ddiv (FP.i2d (I (50 * x + y : Nat))) (FP.i2d (I (7 : Nat))) &&& 0x7fffffffffffffff ≤ 0x7ff0000000000000 := by decide +kernel
theorem dd_8 : ∀ x : Nat, x < 16 → ∀ y : Nat, y < 50 → FP.ddiv (FP.i2d (I (50 * x + y : Nat))) (FP.i2d (I (8 : Nat))) &&& 0x7fffffffffffffff ≤ 0x7ff0000000000000 := by decide +kernel
theorem dd_9 : ∀ x : Nat, x < 18 → ∀ y : Nat, y < 50 → FP.ddiv (FP.i2d (I (50 * x + y : Nat))) (FP.i2d (I (9 : Nat))) &&& 0x7fffffffffffffff ≤ 0x7ff0000000000000 := by decide +kernel
theorem dd_10 : ∀ x : Nat, x < 20 → ∀ y : Nat, y < 50 → FP.ddiv (FP.i2d (I (50 * x + y : Nat))) (FP.i2d (I (10 : Nat))) &&& 0x7fffffffffffffff ≤ 0x7ff0000000000000 := by decide +kernel
theorem dd_11 : ∀ x : Nat, x < 22 → ∀ y : Nat, y < 50 → FP.ddiv (FP.i2d (I (50 * x + y : Nat))) (FP.i2d (I (11 : Nat))) &&& 0x7fffffffffffffff ≤ 0x7ff0000000000000 := by decide +kernel
theorem dd_12 : ∀ x : Nat, x < 24 → ∀ y : Nat, y < 50 → FP.ddiv (FP.i2d (I (50 * x + y : Nat))) (FP.i2d (I (12 : Nat))) &&& 0x7fffffffffffffff ≤ 0x7ff0000000000000 := by decide +kernel
theorem dd_13 : ∀ x : Nat, x < 26 → ∀ y : Nat, y < 50 → FP.ddiv (FP.i2d (I (50 * x + y : Nat))) (FP.i2d (I (13 : Nat))) &&& 0x7fffffffffffffff ≤ 0x7ff0000000000000 := by decide +kernel
theorem dd_14 : ∀ x : Nat, x < 28 → ∀ y : Nat, y < 50 → FP.ddiv (FP.i2d (I (50 * x + y : Nat))) (FP.i2d (I (14 : Nat))) &&& 0x7fffffffffffffff ≤ 0x7ff0000000000000 := by decide +kernel
theorem dd_15 : ∀ x : Nat, x < 30 → ∀ y : Nat, y < 50 → FP.ddiv (FP.i2d (I (50 * x + y : Nat))) (FP.i2d (I (15 : Nat))) &&& 0x7fffffffffffffff ≤ 0x7ff0000000000000 := by decide +kernel
theorem dd_16 : ∀ x : Nat, x < 32 → ∀ y : Nat, y < 50 → FP.ddiv (FP.i2d (I (50 * x + y : Nat))) (FP.i2d (I (16 : Nat))) &&& 0x7fffffffffffffff ≤ 0x7ff0000000000000 := by decide +kernel
theorem dd_17 : ∀ x : Nat, x < 34 → ∀ y : Nat, y < 50 → FP.ddiv (FP.i2d (I (50 * x + y : Nat))) (FP.i2d (I (17 : Nat))) &&& 0x7fffffffffffffff ≤ 0x7ff0000000000000 := by decide +kernel
theorem dd_18 : ∀ x : Nat, x < 36 → ∀ y : Nat, y < 50 → FP.ddiv (FP.i2d (I (50 * x + y : Nat))) (FP.i2d (I (18 : Nat))) &&& 0x7fffffffffffffff ≤ 0x7ff0000000000000 := by decide +kernel
theorem dd_19 : ∀ x : Nat, x < 38 → ∀ y : Nat, y < 50 → FP.ddiv (FP.i2d (I (50 * x + y : Nat))) (FP.i2d (I (19 : Nat))) &&& 0x7fffffffffffffff ≤ 0x7ff0000000000000 := by decide +kernel
theorem dd_20 : ∀ x : Nat, x < 40 → ∀ y : Nat, y < 50 → FP.ddiv (FP.i2d (I (50 * x + y : Nat))) (FP.i2d (I (20 : Nat))) &&& 0x7fffffffffffffff ≤ 0x7ff0000000000000 := by decide +kernel
theorem dd_21 : ∀ x : Nat, x < 42 → ∀ y : Nat, y < 50 → FP.ddiv (FP.i2d (I (50 * x + y : Nat))) (FP.i2d (I (21 : Nat))) &&& 0x7fffffffffffffff ≤ 0x7ff0000000000000 := by decide +kernel
theorem dd_22 : ∀ x : Nat, x < 44 → ∀ y : Nat, y < 50 → FP.ddiv (FP.i2d (I (50 * x + y : Nat))) (FP.i2d (I (22 : Nat))) &&& 0x7fffffffffffffff ≤ 0x7ff0000000000000 := by decide +kernel
theorem dd_23 : ∀ x : Nat, x < 46 → ∀ y : Nat, y < 50 → FP.ddiv (FP.i2d (I (50 * x + y : Nat))) (FP.i2d (I (23 : Nat))) &&& 0x7fffffffffffffff ≤ 0x7ff0000000000000 := by decide +kernel
theorem dd_24 : ∀ x : Nat, x < 48 → ∀ y : Nat, y < 50 → FP.ddiv (FP.i2d (I (50 * x + y : Nat))) (FP.i2d (I (24 : Nat))) &&& 0x7fffffffffffffff ≤ 0x7ff0000000000000 := by decide +kernel
theorem dd_ok {a b : Nat} (hb : b < 25) (h0 : b ≠ 0) (ha : a < 100 * b) : vf_n64 (FP.ddiv (FP.i2d (I a)) (FP.i2d (I b))) := by
  have e : 50 * (a / 50) + a % 50 = a := by omega
  have hb2 : b = 1 ∨ b = 2 ∨ b = 3 ∨ b = 4 ∨ b = 5 ∨ b = 6 ∨ b = 7 ∨ b = 8 ∨ b = 9 ∨ b = 10 ∨ b = 11 ∨ b = 12 ∨ b = 13 ∨ b = 14 ∨ b = 15 ∨ b = 16 ∨ b = 17 ∨ b = 18 ∨ b = 19 ∨ b = 20 ∨ b = 21 ∨ b = 22 ∨ b = 23 ∨ b = 24 := by omega
  rcases hb2 with rfl | rfl | rfl | rfl | rfl | rfl | rfl | rfl | rfl | rfl | rfl | rfl | rfl | rfl | rfl | rfl | rfl | rfl | rfl | rfl | rfl | rfl | rfl | rfl
  · have h := dd_1 (a / 50) (by omega) (a % 50) (by omega)
    rw [e] at h
    exact h
  · have h := dd_2 (a / 50) (by omega) (a % 50) (by omega)
    rw [e] at h
    exact h
  · have h := dd_3 (a / 50) (by omega) (a % 50) (by omega)
    rw [e] at h
    exact h
  · have h := dd_4 (a / 50) (by omega) (a % 50) (by omega)
    rw [e] at h
    exact h
  · have h := dd_5 (a / 50) (by omega) (a % 50) (by omega)
    rw [e] at h
    exact h
  · have h := dd_6 (a / 50) (by omega) (a % 50) (by omega)
    rw [e] at h
    exact h
  · have h := dd_7 (a / 50) (by omega) (a % 50) (by omega)
    rw [e] at h
    exact h
  · have h := dd_8 (a / 50) (by omega) (a % 50) (by omega)
    rw [e] at h
    exact h
  · have h := dd_9 (a / 50) (by omega) (a % 50) (by omega)
    rw [e] at h
    exact h
  · have h := dd_10 (a / 50) (by omega) (a % 50) (by omega)
    rw [e] at h
    exact h
  · have h := dd_11 (a / 50) (by omega) (a % 50) (by omega)
    rw [e] at h
    exact h
  · have h := dd_12 (a / 50) (by omega) (a % 50) (by omega)
    rw [e] at h
    exact h
  · have h := dd_13 (a / 50) (by omega) (a % 50) (by omega)
    rw [e] at h
    exact h
  · have h := dd_14 (a / 50) (by omega) (a % 50) (by omega)
    rw [e] at h
    exact h
  · have h := dd_15 (a / 50) (by omega) (a % 50) (by omega)
    rw [e] at h
    exact h
  · have h := dd_16 (a / 50) (by omega) (a % 50) (by omega)
    rw [e] at h
    exact h
  · have h := dd_17 (a / 50) (by omega) (a % 50) (by omega)
    rw [e] at h
    exact h
  · have h := dd_18 (a / 50) (by omega) (a % 50) (by omega)
    rw [e] at h
    exact h
  · have h := dd_19 (a / 50) (by omega) (a % 50) (by omega)
    rw [e] at h
    exact h
  · have h := dd_20 (a / 50) (by omega) (a % 50) (by omega)
    rw [e] at h
    exact h
  · have h := dd_21 (a / 50) (by omega) (a % 50) (by omega)
    rw [e] at h
    exact h
  · have h := dd_22 (a / 50) (by omega) (a % 50) (by omega)
    rw [e] at h
    exact h
  · have h := dd_23 (a / 50) (by omega) (a % 50) (by omega)
    rw [e] at h
    exact h
  · have h := dd_24 (a / 50) (by omega) (a % 50) (by omega)
    rw [e] at h
    exact h
