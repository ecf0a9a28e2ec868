/-! the tables are checked, by program (wip/p44/gen2.py) -/
set_option maxRecDepth 100000 in
theorem zk_m0_0 : zx_okL 0 zx_c0_0 0 := zx_okB_ok (by decide +kernel)
set_option maxRecDepth 100000 in
theorem zk_m0_1 : zx_okL 0 zx_c0_1 64 := zx_okB_ok (by decide +kernel)
set_option maxRecDepth 100000 in
theorem zk_m0_2 : zx_okL 0 zx_c0_2 128 := zx_okB_ok (by decide +kernel)
set_option maxRecDepth 100000 in
theorem zk_m0_3 : zx_okL 0 zx_c0_3 192 := zx_okB_ok (by decide +kernel)
set_option maxRecDepth 100000 in
theorem zk_m0_4 : zx_okL 0 zx_c0_4 256 := zx_okB_ok (by decide +kernel)
set_option maxRecDepth 100000 in
theorem zk_m0_5 : zx_okL 0 zx_c0_5 320 := zx_okB_ok (by decide +kernel)
set_option maxRecDepth 100000 in
theorem zk_m0_6 : zx_okL 0 zx_c0_6 384 := zx_okB_ok (by decide +kernel)
set_option maxRecDepth 100000 in
theorem zk_m0_7 : zx_okL 0 zx_c0_7 448 := zx_okB_ok (by decide +kernel)
set_option maxRecDepth 100000 in
theorem zk_m0_8 : zx_okL 0 zx_c0_8 512 := zx_okB_ok (by decide +kernel)
set_option maxRecDepth 100000 in
theorem zk_m0_9 : zx_okL 0 zx_c0_9 576 := zx_okB_ok (by decide +kernel)
set_option maxRecDepth 100000 in
theorem zk_m0_10 : zx_okL 0 zx_c0_10 640 := zx_okB_ok (by decide +kernel)
set_option maxRecDepth 100000 in
theorem zk_m0_11 : zx_okL 0 zx_c0_11 704 := zx_okB_ok (by decide +kernel)
set_option maxRecDepth 100000 in
theorem zk_m0_12 : zx_okL 0 zx_c0_12 768 := zx_okB_ok (by decide +kernel)
set_option maxRecDepth 100000 in
theorem zk_m0_13 : zx_okL 0 zx_c0_13 832 := zx_okB_ok (by decide +kernel)
set_option maxRecDepth 100000 in
theorem zk_m0_14 : zx_okL 0 zx_c0_14 896 := zx_okB_ok (by decide +kernel)
set_option maxRecDepth 100000 in
theorem zk_m0_15 : zx_okL 0 zx_c0_15 960 := zx_okB_ok (by decide +kernel)
set_option maxRecDepth 100000 in
theorem zk_m0_16 : zx_okL 0 zx_c0_16 1024 := zx_okB_ok (by decide +kernel)
set_option maxRecDepth 100000 in
theorem zk_m0_17 : zx_okL 0 zx_c0_17 1088 := zx_okB_ok (by decide +kernel)
set_option maxRecDepth 100000 in
theorem zk_m0_18 : zx_okL 0 zx_c0_18 1152 := zx_okB_ok (by decide +kernel)
set_option maxRecDepth 100000 in
theorem zk_m0_19 : zx_okL 0 zx_c0_19 1216 := zx_okB_ok (by decide +kernel)
set_option maxRecDepth 100000 in
theorem zk_m0_20 : zx_okL 0 zx_c0_20 1280 := zx_okB_ok (by decide +kernel)
set_option maxRecDepth 100000 in
theorem zk_m0_21 : zx_okL 0 zx_c0_21 1344 := zx_okB_ok (by decide +kernel)
set_option maxRecDepth 100000 in
theorem zk_m0_22 : zx_okL 0 zx_c0_22 1408 := zx_okB_ok (by decide +kernel)
theorem zk_m0 : zx_okL 0 zx_c0 0 := zx_okL_ap zk_m0_0 rfl (zx_okL_ap zk_m0_1 rfl (zx_okL_ap zk_m0_2 rfl (zx_okL_ap zk_m0_3 rfl (zx_okL_ap zk_m0_4 rfl (zx_okL_ap zk_m0_5 rfl (zx_okL_ap zk_m0_6 rfl (zx_okL_ap zk_m0_7 rfl (zx_okL_ap zk_m0_8 rfl (zx_okL_ap zk_m0_9 rfl (zx_okL_ap zk_m0_10 rfl (zx_okL_ap zk_m0_11 rfl (zx_okL_ap zk_m0_12 rfl (zx_okL_ap zk_m0_13 rfl (zx_okL_ap zk_m0_14 rfl (zx_okL_ap zk_m0_15 rfl (zx_okL_ap zk_m0_16 rfl (zx_okL_ap zk_m0_17 rfl (zx_okL_ap zk_m0_18 rfl (zx_okL_ap zk_m0_19 rfl (zx_okL_ap zk_m0_20 rfl (zx_okL_ap zk_m0_21 rfl (zk_m0_22))))))))))))))))))))))
set_option maxRecDepth 100000 in
theorem zk_m1 : zx_okL 1 zx_c1 0 := zx_okB_ok (by decide +kernel)
set_option maxRecDepth 100000 in
theorem zk_m2 : zx_okL 2 zx_c2 0 := zx_okB_ok (by decide +kernel)
set_option maxRecDepth 100000 in
theorem zk_m3 : zx_okL 3 zx_c3 0 := zx_okB_ok (by decide +kernel)
set_option maxRecDepth 100000 in
theorem zk_m4 : zx_okL 4 zx_c4 0 := zx_okB_ok (by decide +kernel)
set_option maxRecDepth 100000 in
theorem zk_m5 : zx_okL 5 zx_c5 0 := zx_okB_ok (by decide +kernel)
set_option maxRecDepth 100000 in
theorem zk_m6 : zx_okL 6 zx_c6 0 := zx_okB_ok (by decide +kernel)
set_option maxRecDepth 100000 in
theorem zk_m7 : zx_okL 7 zx_c7 0 := zx_okB_ok (by decide +kernel)
set_option maxRecDepth 100000 in
theorem zk_m8 : zx_okL 8 zx_c8 0 := zx_okB_ok (by decide +kernel)
set_option maxRecDepth 100000 in
theorem zk_m9 : zx_okL 9 zx_c9 0 := zx_okB_ok (by decide +kernel)
set_option maxRecDepth 100000 in
theorem zk_m10 : zx_okL 10 zx_c10 0 := zx_okB_ok (by decide +kernel)
set_option maxRecDepth 100000 in
theorem zk_m11 : zx_okL 11 zx_c11 0 := zx_okB_ok (by decide +kernel)
set_option maxRecDepth 100000 in
theorem zk_m12 : zx_okL 12 zx_c12 0 := zx_okB_ok (by decide +kernel)
set_option maxRecDepth 100000 in
theorem zk_m13 : zx_okL 13 zx_c13 0 := zx_okB_ok (by decide +kernel)
set_option maxRecDepth 100000 in
theorem zk_m14 : zx_okL 14 zx_c14 0 := zx_okB_ok (by decide +kernel)
set_option maxRecDepth 100000 in
theorem zk_m15 : zx_okL 15 zx_c15 0 := zx_okB_ok (by decide +kernel)
set_option maxRecDepth 100000 in
theorem zk_m16 : zx_okL 16 zx_c16 0 := zx_okB_ok (by decide +kernel)
set_option maxRecDepth 100000 in
theorem zk_m17 : zx_okL 17 zx_c17 0 := zx_okB_ok (by decide +kernel)
set_option maxRecDepth 100000 in
theorem zk_m18 : zx_okL 18 zx_c18 0 := zx_okB_ok (by decide +kernel)
set_option maxRecDepth 100000 in
theorem zk_m19 : zx_okL 19 zx_c19 0 := zx_okB_ok (by decide +kernel)
set_option maxRecDepth 100000 in
theorem zk_m20 : zx_okL 20 zx_c20 0 := zx_okB_ok (by decide +kernel)
set_option maxRecDepth 100000 in
theorem zk_m21 : zx_okL 21 zx_c21 0 := zx_okB_ok (by decide +kernel)
set_option maxRecDepth 100000 in
theorem zk_m22 : zx_okL 22 zx_c22 0 := zx_okB_ok (by decide +kernel)
set_option maxRecDepth 100000 in
theorem zk_m23 : zx_okL 23 zx_c23 0 := zx_okB_ok (by decide +kernel)
set_option maxRecDepth 100000 in
theorem zk_m24 : zx_okL 24 zx_c24 0 := zx_okB_ok (by decide +kernel)
set_option maxRecDepth 100000 in
theorem zk_m25 : zx_okL 25 zx_c25 0 := zx_okB_ok (by decide +kernel)
set_option maxRecDepth 100000 in
theorem zk_m26 : zx_okL 26 zx_c26 0 := zx_okB_ok (by decide +kernel)
set_option maxRecDepth 100000 in
theorem zk_m27 : zx_okL 27 zx_c27 0 := zx_okB_ok (by decide +kernel)
set_option maxRecDepth 100000 in
theorem zk_m28 : zx_okL 28 zx_c28 0 := zx_okB_ok (by decide +kernel)
set_option maxRecDepth 100000 in
theorem zk_m29 : zx_okL 29 zx_c29 0 := zx_okB_ok (by decide +kernel)
set_option maxRecDepth 100000 in
theorem zk_m30 : zx_okL 30 zx_c30 0 := zx_okB_ok (by decide +kernel)
set_option maxRecDepth 100000 in
theorem zk_m31 : zx_okL 31 zx_c31 0 := zx_okB_ok (by decide +kernel)
set_option maxRecDepth 100000 in
theorem zk_m32 : zx_okL 32 zx_c32 0 := zx_okB_ok (by decide +kernel)
set_option maxRecDepth 100000 in
theorem zk_m33 : zx_okL 33 zx_c33 0 := zx_okB_ok (by decide +kernel)
set_option maxRecDepth 100000 in
theorem zk_m34 : zx_okL 34 zx_c34 0 := zx_okB_ok (by decide +kernel)
set_option maxRecDepth 100000 in
theorem zk_m35 : zx_okL 35 zx_c35 0 := zx_okB_ok (by decide +kernel)
set_option maxRecDepth 100000 in
theorem zk_m36 : zx_okL 36 zx_c36 0 := zx_okB_ok (by decide +kernel)
