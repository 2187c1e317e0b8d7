theorem zz_try : (1 : Nat) + 1 = 2 := rfl
theorem zz_try2 : (1 : Nat) + 2 = 3 := rfl
