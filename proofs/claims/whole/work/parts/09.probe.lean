theorem probe1 : 1 = 1 := rfl
