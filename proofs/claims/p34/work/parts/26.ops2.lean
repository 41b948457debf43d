theorem t_ar_5 : t_ar 5 = some (0, 21) := rfl
