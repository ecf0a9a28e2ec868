theorem zq_37 : zq_G 1115 := sorry
