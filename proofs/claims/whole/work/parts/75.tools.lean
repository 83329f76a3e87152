theorem tools_begin : (1 : Nat) = 1 := rfl
