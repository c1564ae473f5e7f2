theorem my_first : (1 : Nat) = 1 := rfl
