theorem zz_a : (1 : Nat) = 1 := rfl
