/-! the calls on fresh objects, run by the kernel -/
def zx_gr (lo hi : Int) : zx_G := [zx_full, (lo, hi), zx_full, zx_full, zx_full, zx_full]
noncomputable def zx_vs (pc : Nat) (lo hi : Int) : Bool := zx_fin (zx_run zx_xa 100000 (30, 0, 1000000, 200, 20000) (zx_gr lo hi) zx_w0 109 19183 zx_l0 [] pc)
set_option maxRecDepth 100000 in
theorem zv_0_a : zx_vs 244 (-2147483648) 2147483647 = true := by decide +kernel
set_option maxRecDepth 100000 in
theorem zv_1_a : zx_vs 307 (-2147483648) 2147483647 = true := by decide +kernel
set_option maxRecDepth 100000 in
theorem zv_2_a : zx_vs 330 (-2147483648) 2147483647 = true := by decide +kernel
set_option maxRecDepth 100000 in
theorem zv_3_m : zx_vs 343 (-2147483648) (-1) = true := by decide +kernel
set_option maxRecDepth 100000 in
theorem zv_3_p : zx_vs 343 2 2147483647 = true := by decide +kernel
set_option maxRecDepth 100000 in
theorem zv_3_0 : zx_vs 343 0 0 = true := by decide +kernel
set_option maxRecDepth 100000 in
theorem zv_3_1 : zx_vs 343 1 1 = true := by decide +kernel
set_option maxRecDepth 100000 in
theorem zv_4_a : zx_vs 366 (-2147483648) 2147483647 = true := by decide +kernel
set_option maxRecDepth 100000 in
theorem zv_5_a : zx_vs 399 (-2147483648) 2147483647 = true := by decide +kernel
set_option maxRecDepth 100000 in
theorem zv_6_a : zx_vs 432 (-2147483648) 2147483647 = true := by decide +kernel
set_option maxRecDepth 100000 in
theorem zv_7_a : zx_vs 465 (-2147483648) 2147483647 = true := by decide +kernel
set_option maxRecDepth 100000 in
theorem zv_8_a : zx_vs 478 (-2147483648) 2147483647 = true := by decide +kernel
set_option maxRecDepth 100000 in
theorem zv_9_a : zx_vs 511 (-2147483648) 2147483647 = true := by decide +kernel
set_option maxRecDepth 100000 in
theorem zv_10_a : zx_vs 534 (-2147483648) 2147483647 = true := by decide +kernel
set_option maxRecDepth 100000 in
theorem zv_11_a : zx_vs 567 (-2147483648) 2147483647 = true := by decide +kernel
set_option maxRecDepth 100000 in
theorem zv_12_a : zx_vs 600 (-2147483648) 2147483647 = true := by decide +kernel
set_option maxRecDepth 100000 in
theorem zv_13_a : zx_vs 633 (-2147483648) 2147483647 = true := by decide +kernel
set_option maxRecDepth 100000 in
theorem zv_14_a : zx_vs 646 (-2147483648) 2147483647 = true := by decide +kernel
set_option maxRecDepth 100000 in
theorem zv_15_a : zx_vs 659 (-2147483648) 2147483647 = true := by decide +kernel
set_option maxRecDepth 100000 in
theorem zv_16_m : zx_vs 692 (-2147483648) (-1) = true := by decide +kernel
set_option maxRecDepth 100000 in
theorem zv_16_p : zx_vs 692 61 2147483647 = true := by decide +kernel
set_option maxRecDepth 100000 in
theorem zv_17_a : zx_vs 715 (-2147483648) 2147483647 = true := by decide +kernel
set_option maxRecDepth 100000 in
theorem zv_18_a : zx_vs 738 (-2147483648) 2147483647 = true := by decide +kernel
set_option maxRecDepth 100000 in
theorem zv_19_a : zx_vs 751 (-2147483648) 2147483647 = true := by decide +kernel
set_option maxRecDepth 100000 in
theorem zv_20_a : zx_vs 774 (-2147483648) 2147483647 = true := by decide +kernel
set_option maxRecDepth 100000 in
theorem zv_21_a : zx_vs 797 (-2147483648) 2147483647 = true := by decide +kernel
set_option maxRecDepth 100000 in
theorem zv_22_a : zx_vs 820 (-2147483648) 2147483647 = true := by decide +kernel
set_option maxRecDepth 100000 in
theorem zv_23_a : zx_vs 833 (-2147483648) 2147483647 = true := by decide +kernel
set_option maxRecDepth 100000 in
theorem zv_24_a : zx_vs 856 (-2147483648) 2147483647 = true := by decide +kernel
set_option maxRecDepth 100000 in
theorem zv_25_a : zx_vs 889 (-2147483648) 2147483647 = true := by decide +kernel
set_option maxRecDepth 100000 in
theorem zv_26_a : zx_vs 922 (-2147483648) 2147483647 = true := by decide +kernel
set_option maxRecDepth 100000 in
theorem zv_27_a : zx_vs 955 (-2147483648) 2147483647 = true := by decide +kernel
set_option maxRecDepth 100000 in
theorem zv_28_a : zx_vs 988 (-2147483648) 2147483647 = true := by decide +kernel
set_option maxRecDepth 100000 in
theorem zv_29_a : zx_vs 1001 (-2147483648) 2147483647 = true := by decide +kernel
set_option maxRecDepth 100000 in
theorem zv_30_a : zx_vs 1014 (-2147483648) 2147483647 = true := by decide +kernel
set_option maxRecDepth 100000 in
theorem zv_31_a : zx_vs 1027 (-2147483648) 2147483647 = true := by decide +kernel
set_option maxRecDepth 100000 in
theorem zv_32_a : zx_vs 1040 (-2147483648) 2147483647 = true := by decide +kernel
set_option maxRecDepth 100000 in
theorem zv_33_a : zx_vs 1053 (-2147483648) 2147483647 = true := by decide +kernel
set_option maxRecDepth 100000 in
theorem zv_34_a : zx_vs 1066 (-2147483648) 2147483647 = true := by decide +kernel
set_option maxRecDepth 100000 in
theorem zv_35_a : zx_vs 1079 (-2147483648) 2147483647 = true := by decide +kernel
set_option maxRecDepth 100000 in
theorem zv_36_a : zx_vs 1092 (-2147483648) 2147483647 = true := by decide +kernel
set_option maxRecDepth 100000 in
theorem zv_37_m : zx_vs 1115 (-2147483648) (-1) = true := by decide +kernel
set_option maxRecDepth 100000 in
theorem zv_37_p : zx_vs 1115 2 2147483647 = true := by decide +kernel
set_option maxRecDepth 100000 in
theorem zv_38_a : zx_vs 1138 (-2147483648) 2147483647 = true := by decide +kernel
set_option maxRecDepth 100000 in
theorem zv_39_a : zx_vs 1171 (-2147483648) 2147483647 = true := by decide +kernel
set_option maxRecDepth 100000 in
theorem zv_40_a : zx_vs 1194 (-2147483648) 2147483647 = true := by decide +kernel
set_option maxRecDepth 100000 in
theorem zv_41_a : zx_vs 1253 (-2147483648) 2147483647 = true := by decide +kernel
set_option maxRecDepth 100000 in
theorem zv_42_a : zx_vs 1276 (-2147483648) 2147483647 = true := by decide +kernel
set_option maxRecDepth 100000 in
theorem zv_43_a : zx_vs 1299 (-2147483648) 2147483647 = true := by decide +kernel
set_option maxRecDepth 100000 in
theorem zv_44_a : zx_vs 1322 (-2147483648) 2147483647 = true := by decide +kernel
set_option maxRecDepth 100000 in
theorem zv_45_a : zx_vs 1355 (-2147483648) 2147483647 = true := by decide +kernel
set_option maxRecDepth 100000 in
theorem zv_46_m : zx_vs 1388 (-2147483648) (-1) = true := by decide +kernel
set_option maxRecDepth 100000 in
theorem zv_46_p : zx_vs 1388 3 2147483647 = true := by decide +kernel
set_option maxRecDepth 100000 in
theorem zv_46_0 : zx_vs 1388 0 0 = true := by decide +kernel
set_option maxRecDepth 100000 in
theorem zv_46_1 : zx_vs 1388 1 1 = true := by decide +kernel
set_option maxRecDepth 100000 in
theorem zv_46_2 : zx_vs 1388 2 2 = true := by decide +kernel
set_option maxRecDepth 100000 in
theorem zv_47_m : zx_vs 1411 (-2147483648) (-1) = true := by decide +kernel
set_option maxRecDepth 100000 in
theorem zv_47_p : zx_vs 1411 3 2147483647 = true := by decide +kernel
set_option maxRecDepth 100000 in
theorem zv_47_0 : zx_vs 1411 0 0 = true := by decide +kernel
set_option maxRecDepth 100000 in
theorem zv_47_1 : zx_vs 1411 1 1 = true := by decide +kernel
set_option maxRecDepth 100000 in
theorem zv_47_2 : zx_vs 1411 2 2 = true := by decide +kernel
set_option maxRecDepth 100000 in
theorem zv_48_m : zx_vs 1434 (-2147483648) (-1) = true := by decide +kernel
set_option maxRecDepth 100000 in
theorem zv_48_p : zx_vs 1434 14 2147483647 = true := by decide +kernel
set_option maxRecDepth 100000 in
theorem zv_48_0 : zx_vs 1434 0 0 = true := by decide +kernel
set_option maxRecDepth 100000 in
theorem zv_48_1 : zx_vs 1434 1 1 = true := by decide +kernel
set_option maxRecDepth 100000 in
theorem zv_48_2 : zx_vs 1434 2 2 = true := by decide +kernel
set_option maxRecDepth 100000 in
theorem zv_48_3 : zx_vs 1434 3 3 = true := by decide +kernel
set_option maxRecDepth 100000 in
theorem zv_48_4 : zx_vs 1434 4 4 = true := by decide +kernel
set_option maxRecDepth 100000 in
theorem zv_48_5 : zx_vs 1434 5 5 = true := by decide +kernel
set_option maxRecDepth 100000 in
theorem zv_48_6 : zx_vs 1434 6 6 = true := by decide +kernel
set_option maxRecDepth 100000 in
theorem zv_48_7 : zx_vs 1434 7 7 = true := by decide +kernel
set_option maxRecDepth 100000 in
theorem zv_48_8 : zx_vs 1434 8 8 = true := by decide +kernel
set_option maxRecDepth 100000 in
theorem zv_48_9 : zx_vs 1434 9 9 = true := by decide +kernel
set_option maxRecDepth 100000 in
theorem zv_48_10 : zx_vs 1434 10 10 = true := by decide +kernel
set_option maxRecDepth 100000 in
theorem zv_48_11 : zx_vs 1434 11 11 = true := by decide +kernel
set_option maxRecDepth 100000 in
theorem zv_48_12 : zx_vs 1434 12 12 = true := by decide +kernel
set_option maxRecDepth 100000 in
theorem zv_48_13 : zx_vs 1434 13 13 = true := by decide +kernel
set_option maxRecDepth 100000 in
theorem zv_49_a : zx_vs 1457 (-2147483648) 2147483647 = true := by decide +kernel
