/-! standing(n), n from 0 to 60 -/
set_option maxRecDepth 100000 in
theorem zv_16_0 : zx_vs 692 0 0 = true := by decide +kernel
set_option maxRecDepth 100000 in
theorem zv_16_1 : zx_vs 692 1 1 = true := by decide +kernel
set_option maxRecDepth 100000 in
theorem zv_16_2 : zx_vs 692 2 2 = true := by decide +kernel
set_option maxRecDepth 100000 in
theorem zv_16_3 : zx_vs 692 3 3 = true := by decide +kernel
set_option maxRecDepth 100000 in
theorem zv_16_4 : zx_vs 692 4 4 = true := by decide +kernel
set_option maxRecDepth 100000 in
theorem zv_16_5 : zx_vs 692 5 5 = true := by decide +kernel
set_option maxRecDepth 100000 in
theorem zv_16_6 : zx_vs 692 6 6 = true := by decide +kernel
set_option maxRecDepth 100000 in
theorem zv_16_7 : zx_vs 692 7 7 = true := by decide +kernel
set_option maxRecDepth 100000 in
theorem zv_16_8 : zx_vs 692 8 8 = true := by decide +kernel
set_option maxRecDepth 100000 in
theorem zv_16_9 : zx_vs 692 9 9 = true := by decide +kernel
set_option maxRecDepth 100000 in
theorem zv_16_10 : zx_vs 692 10 10 = true := by decide +kernel
set_option maxRecDepth 100000 in
theorem zv_16_11 : zx_vs 692 11 11 = true := by decide +kernel
set_option maxRecDepth 100000 in
theorem zv_16_12 : zx_vs 692 12 12 = true := by decide +kernel
set_option maxRecDepth 100000 in
theorem zv_16_13 : zx_vs 692 13 13 = true := by decide +kernel
set_option maxRecDepth 100000 in
theorem zv_16_14 : zx_vs 692 14 14 = true := by decide +kernel
set_option maxRecDepth 100000 in
theorem zv_16_15 : zx_vs 692 15 15 = true := by decide +kernel
set_option maxRecDepth 100000 in
theorem zv_16_16 : zx_vs 692 16 16 = true := by decide +kernel
set_option maxRecDepth 100000 in
theorem zv_16_17 : zx_vs 692 17 17 = true := by decide +kernel
set_option maxRecDepth 100000 in
theorem zv_16_18 : zx_vs 692 18 18 = true := by decide +kernel
set_option maxRecDepth 100000 in
theorem zv_16_19 : zx_vs 692 19 19 = true := by decide +kernel
set_option maxRecDepth 100000 in
theorem zv_16_20 : zx_vs 692 20 20 = true := by decide +kernel
set_option maxRecDepth 100000 in
theorem zv_16_21 : zx_vs 692 21 21 = true := by decide +kernel
set_option maxRecDepth 100000 in
theorem zv_16_22 : zx_vs 692 22 22 = true := by decide +kernel
set_option maxRecDepth 100000 in
theorem zv_16_23 : zx_vs 692 23 23 = true := by decide +kernel
set_option maxRecDepth 100000 in
theorem zv_16_24 : zx_vs 692 24 24 = true := by decide +kernel
set_option maxRecDepth 100000 in
theorem zv_16_25 : zx_vs 692 25 25 = true := by decide +kernel
set_option maxRecDepth 100000 in
theorem zv_16_26 : zx_vs 692 26 26 = true := by decide +kernel
set_option maxRecDepth 100000 in
theorem zv_16_27 : zx_vs 692 27 27 = true := by decide +kernel
set_option maxRecDepth 100000 in
theorem zv_16_28 : zx_vs 692 28 28 = true := by decide +kernel
set_option maxRecDepth 100000 in
theorem zv_16_29 : zx_vs 692 29 29 = true := by decide +kernel
set_option maxRecDepth 100000 in
theorem zv_16_30 : zx_vs 692 30 30 = true := by decide +kernel
set_option maxRecDepth 100000 in
theorem zv_16_31 : zx_vs 692 31 31 = true := by decide +kernel
set_option maxRecDepth 100000 in
theorem zv_16_32 : zx_vs 692 32 32 = true := by decide +kernel
set_option maxRecDepth 100000 in
theorem zv_16_33 : zx_vs 692 33 33 = true := by decide +kernel
set_option maxRecDepth 100000 in
theorem zv_16_34 : zx_vs 692 34 34 = true := by decide +kernel
set_option maxRecDepth 100000 in
theorem zv_16_35 : zx_vs 692 35 35 = true := by decide +kernel
set_option maxRecDepth 100000 in
theorem zv_16_36 : zx_vs 692 36 36 = true := by decide +kernel
set_option maxRecDepth 100000 in
theorem zv_16_37 : zx_vs 692 37 37 = true := by decide +kernel
set_option maxRecDepth 100000 in
theorem zv_16_38 : zx_vs 692 38 38 = true := by decide +kernel
set_option maxRecDepth 100000 in
theorem zv_16_39 : zx_vs 692 39 39 = true := by decide +kernel
set_option maxRecDepth 100000 in
theorem zv_16_40 : zx_vs 692 40 40 = true := by decide +kernel
set_option maxRecDepth 100000 in
theorem zv_16_41 : zx_vs 692 41 41 = true := by decide +kernel
set_option maxRecDepth 100000 in
theorem zv_16_42 : zx_vs 692 42 42 = true := by decide +kernel
set_option maxRecDepth 100000 in
theorem zv_16_43 : zx_vs 692 43 43 = true := by decide +kernel
set_option maxRecDepth 100000 in
theorem zv_16_44 : zx_vs 692 44 44 = true := by decide +kernel
set_option maxRecDepth 100000 in
theorem zv_16_45 : zx_vs 692 45 45 = true := by decide +kernel
set_option maxRecDepth 100000 in
theorem zv_16_46 : zx_vs 692 46 46 = true := by decide +kernel
set_option maxRecDepth 100000 in
theorem zv_16_47 : zx_vs 692 47 47 = true := by decide +kernel
set_option maxRecDepth 100000 in
theorem zv_16_48 : zx_vs 692 48 48 = true := by decide +kernel
set_option maxRecDepth 100000 in
theorem zv_16_49 : zx_vs 692 49 49 = true := by decide +kernel
set_option maxRecDepth 100000 in
theorem zv_16_50 : zx_vs 692 50 50 = true := by decide +kernel
set_option maxRecDepth 100000 in
theorem zv_16_51 : zx_vs 692 51 51 = true := by decide +kernel
set_option maxRecDepth 100000 in
theorem zv_16_52 : zx_vs 692 52 52 = true := by decide +kernel
set_option maxRecDepth 100000 in
theorem zv_16_53 : zx_vs 692 53 53 = true := by decide +kernel
set_option maxRecDepth 100000 in
theorem zv_16_54 : zx_vs 692 54 54 = true := by decide +kernel
set_option maxRecDepth 100000 in
theorem zv_16_55 : zx_vs 692 55 55 = true := by decide +kernel
set_option maxRecDepth 100000 in
theorem zv_16_56 : zx_vs 692 56 56 = true := by decide +kernel
set_option maxRecDepth 100000 in
theorem zv_16_57 : zx_vs 692 57 57 = true := by decide +kernel
set_option maxRecDepth 100000 in
theorem zv_16_58 : zx_vs 692 58 58 = true := by decide +kernel
set_option maxRecDepth 100000 in
theorem zv_16_59 : zx_vs 692 59 59 = true := by decide +kernel
set_option maxRecDepth 100000 in
theorem zv_16_60 : zx_vs 692 60 60 = true := by decide +kernel
