theorem zz_1 : xsh 17 = (0, 9, [0,0,0,0,0,0,28,29,30]) := rfl
theorem zz_2 : xsh 155 = (9, 0, []) := rfl
