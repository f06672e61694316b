theorem t_probe : 1 = 1 := rfl
