theorem zz_test : (2:Nat) = 2 := rfl
