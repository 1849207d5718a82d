theorem zz_t1 : (1:Nat) + 1 = 2 := rfl
