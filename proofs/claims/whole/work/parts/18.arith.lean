/-! ===== ints as integers ===== -/
theorem I_lit (a : Int) : Int32.ofInt a = I a := rfl
theorem I_toInt {a : Int} (h1 : -2147483648 ≤ a) (h2 : a < 2147483648) : (I a).toInt = a := by
  unfold I
  rw [Int32.toInt_ofInt]
  have h3 : Int32.size = 4294967296 := rfl
  exact Int.bmod_eq_of_le (by rw [h3]; omega) (by rw [h3]; omega)
theorem I_of (x : Int32) : x = I x.toInt := (Int32.ofInt_toInt x).symm
theorem I_add (a b : Int) : I a + I b = I (a + b) := (Int32.ofInt_add ..).symm
theorem I_mul (a b : Int) : I a * I b = I (a * b) := (Int32.ofInt_mul ..).symm
theorem I_neg (a : Int) : -I a = I (-a) := (Int32.ofInt_neg ..).symm
theorem I_sub (a b : Int) : I a - I b = I (a - b) := by
  rw [Int32.sub_eq_add_neg, I_neg, I_add]
  rfl
theorem I_lt {a b : Int} (h1 : -2147483648 ≤ a) (h2 : a < 2147483648) (h3 : -2147483648 ≤ b) (h4 : b < 2147483648) : (I a < I b) ↔ a < b := by
  rw [Int32.lt_iff_toInt_lt, I_toInt h1 h2, I_toInt h3 h4]
theorem I_le {a b : Int} (h1 : -2147483648 ≤ a) (h2 : a < 2147483648) (h3 : -2147483648 ≤ b) (h4 : b < 2147483648) : (I a ≤ I b) ↔ a ≤ b := by
  rw [Int32.le_iff_toInt_le, I_toInt h1 h2, I_toInt h3 h4]
theorem I_eq {a b : Int} (h1 : -2147483648 ≤ a) (h2 : a < 2147483648) (h3 : -2147483648 ≤ b) (h4 : b < 2147483648) : (I a = I b) ↔ a = b := by
  refine ⟨fun h => ?_, fun h => by rw [h]⟩
  rw [← I_toInt h1 h2, h, I_toInt h3 h4]
theorem I_nat {a : Int} (h1 : -2147483648 ≤ a) (h2 : a < 2147483648) : (I a).toNatClampNeg = a.toNat := by
  unfold Int32.toNatClampNeg
  rw [I_toInt h1 h2]
theorem I_in {a : Int} {L : Nat} (h1 : 0 ≤ a) (h2 : a < L) (h3 : L < 2147483648) : vp_in (I a) L := by
  unfold vp_in
  rw [I_nat (by omega) (by omega)]
  rw [show ((0 : Int32) = I 0) from rfl, I_lt (by omega) (by omega) (by omega) (by omega)]
  omega
theorem I_ofNat (n : Nat) : Int32.ofNat n = I n := by
  unfold I
  rw [Int32.ofInt_eq_ofNat]
theorem I_in0 {x : Int32} {n : Nat} (h0 : ¬ x < I 0) (h1 : x < I n) (h2 : n < 2147483648) : ∃ t : Nat, t < n ∧ x = I t := by
  rw [I_of x] at h0 h1 ⊢
  have b1 := Int32.le_toInt x
  have b2 := Int32.toInt_lt x
  rw [I_lt (by omega) (by omega) (by omega) (by omega)] at h0 h1
  exact ⟨x.toInt.toNat, by omega, by congr 1; omega⟩
theorem I_0 : (0 : Int32) = I 0 := rfl
theorem I_ite (c : Prop) [Decidable c] (a b : Int) : (if c then I a else I b) = I (if c then a else b) := by split <;> rfl
