/-! the tables are checked, by program (wip/p44/gen2.py) -/
set_option maxRecDepth 100000 in
theorem zk_m37 : zx_okL 37 zx_c37 0 := zx_okB_ok (by decide +kernel)
set_option maxRecDepth 100000 in
theorem zk_m38 : zx_okL 38 zx_c38 0 := zx_okB_ok (by decide +kernel)
set_option maxRecDepth 100000 in
theorem zk_m39 : zx_okL 39 zx_c39 0 := zx_okB_ok (by decide +kernel)
set_option maxRecDepth 100000 in
theorem zk_m40 : zx_okL 40 zx_c40 0 := zx_okB_ok (by decide +kernel)
set_option maxRecDepth 100000 in
theorem zk_m41 : zx_okL 41 zx_c41 0 := zx_okB_ok (by decide +kernel)
set_option maxRecDepth 100000 in
theorem zk_m42 : zx_okL 42 zx_c42 0 := zx_okB_ok (by decide +kernel)
set_option maxRecDepth 100000 in
theorem zk_m43 : zx_okL 43 zx_c43 0 := zx_okB_ok (by decide +kernel)
set_option maxRecDepth 100000 in
theorem zk_m44 : zx_okL 44 zx_c44 0 := zx_okB_ok (by decide +kernel)
set_option maxRecDepth 100000 in
theorem zk_m45 : zx_okL 45 zx_c45 0 := zx_okB_ok (by decide +kernel)
set_option maxRecDepth 100000 in
theorem zk_m46 : zx_okL 46 zx_c46 0 := zx_okB_ok (by decide +kernel)
set_option maxRecDepth 100000 in
theorem zk_m47 : zx_okL 47 zx_c47 0 := zx_okB_ok (by decide +kernel)
set_option maxRecDepth 100000 in
theorem zk_m48 : zx_okL 48 zx_c48 0 := zx_okB_ok (by decide +kernel)
set_option maxRecDepth 100000 in
theorem zk_m49 : zx_okL 49 zx_c49 0 := zx_okB_ok (by decide +kernel)
set_option maxRecDepth 100000 in
theorem zk_m50 : zx_okL 50 zx_c50 0 := zx_okB_ok (by decide +kernel)
set_option maxRecDepth 100000 in
theorem zk_m51 : zx_okL 51 zx_c51 0 := zx_okB_ok (by decide +kernel)
set_option maxRecDepth 100000 in
theorem zk_m52 : zx_okL 52 zx_c52 0 := zx_okB_ok (by decide +kernel)
set_option maxRecDepth 100000 in
theorem zk_m53 : zx_okL 53 zx_c53 0 := zx_okB_ok (by decide +kernel)
set_option maxRecDepth 100000 in
theorem zk_m54 : zx_okL 54 zx_c54 0 := zx_okB_ok (by decide +kernel)
set_option maxRecDepth 100000 in
theorem zk_m55 : zx_okL 55 zx_c55 0 := zx_okB_ok (by decide +kernel)
set_option maxRecDepth 100000 in
theorem zk_m56 : zx_okL 56 zx_c56 0 := zx_okB_ok (by decide +kernel)
set_option maxRecDepth 100000 in
theorem zk_m57 : zx_okL 57 zx_c57 0 := zx_okB_ok (by decide +kernel)
set_option maxRecDepth 100000 in
theorem zk_m58 : zx_okL 58 zx_c58 0 := zx_okB_ok (by decide +kernel)
set_option maxRecDepth 100000 in
theorem zk_m59 : zx_okL 59 zx_c59 0 := zx_okB_ok (by decide +kernel)
set_option maxRecDepth 100000 in
theorem zk_m60 : zx_okL 60 zx_c60 0 := zx_okB_ok (by decide +kernel)
set_option maxRecDepth 100000 in
theorem zk_m61 : zx_okL 61 zx_c61 0 := zx_okB_ok (by decide +kernel)
set_option maxRecDepth 100000 in
theorem zk_m62 : zx_okL 62 zx_c62 0 := zx_okB_ok (by decide +kernel)
set_option maxRecDepth 100000 in
theorem zk_m63 : zx_okL 63 zx_c63 0 := zx_okB_ok (by decide +kernel)
set_option maxRecDepth 100000 in
theorem zk_m64 : zx_okL 64 zx_c64 0 := zx_okB_ok (by decide +kernel)
set_option maxRecDepth 100000 in
theorem zk_m65 : zx_okL 65 zx_c65 0 := zx_okB_ok (by decide +kernel)
set_option maxRecDepth 100000 in
theorem zk_m66 : zx_okL 66 zx_c66 0 := zx_okB_ok (by decide +kernel)
set_option maxRecDepth 100000 in
theorem zk_m67 : zx_okL 67 zx_c67 0 := zx_okB_ok (by decide +kernel)
set_option maxRecDepth 100000 in
theorem zk_m68 : zx_okL 68 zx_c68 0 := zx_okB_ok (by decide +kernel)
set_option maxRecDepth 100000 in
theorem zk_m69 : zx_okL 69 zx_c69 0 := zx_okB_ok (by decide +kernel)
set_option maxRecDepth 100000 in
theorem zk_m70 : zx_okL 70 zx_c70 0 := zx_okB_ok (by decide +kernel)
set_option maxRecDepth 100000 in
theorem zk_m71 : zx_okL 71 zx_c71 0 := zx_okB_ok (by decide +kernel)
set_option maxRecDepth 100000 in
theorem zk_m72 : zx_okL 72 zx_c72 0 := zx_okB_ok (by decide +kernel)
set_option maxRecDepth 100000 in
theorem zk_m73 : zx_okL 73 zx_c73 0 := zx_okB_ok (by decide +kernel)
set_option maxRecDepth 100000 in
theorem zk_m74 : zx_okL 74 zx_c74 0 := zx_okB_ok (by decide +kernel)
set_option maxRecDepth 100000 in
theorem zk_m75 : zx_okL 75 zx_c75 0 := zx_okB_ok (by decide +kernel)
set_option maxRecDepth 100000 in
theorem zk_m76 : zx_okL 76 zx_c76 0 := zx_okB_ok (by decide +kernel)
set_option maxRecDepth 100000 in
theorem zk_m77 : zx_okL 77 zx_c77 0 := zx_okB_ok (by decide +kernel)
set_option maxRecDepth 100000 in
theorem zk_m78 : zx_okL 78 zx_c78 0 := zx_okB_ok (by decide +kernel)
set_option maxRecDepth 100000 in
theorem zk_m79 : zx_okL 79 zx_c79 0 := zx_okB_ok (by decide +kernel)
set_option maxRecDepth 100000 in
theorem zk_m80 : zx_okL 80 zx_c80 0 := zx_okB_ok (by decide +kernel)
set_option maxRecDepth 100000 in
theorem zk_m81 : zx_okL 81 zx_c81 0 := zx_okB_ok (by decide +kernel)
set_option maxRecDepth 100000 in
theorem zk_m82 : zx_okL 82 zx_c82 0 := zx_okB_ok (by decide +kernel)
set_option maxRecDepth 100000 in
theorem zk_m83 : zx_okL 83 zx_c83 0 := zx_okB_ok (by decide +kernel)
set_option maxRecDepth 100000 in
theorem zk_m84 : zx_okL 84 zx_c84 0 := zx_okB_ok (by decide +kernel)
set_option maxRecDepth 100000 in
theorem zk_m85 : zx_okL 85 zx_c85 0 := zx_okB_ok (by decide +kernel)
set_option maxRecDepth 100000 in
theorem zk_m86 : zx_okL 86 zx_c86 0 := zx_okB_ok (by decide +kernel)
set_option maxRecDepth 100000 in
theorem zk_m87 : zx_okL 87 zx_c87 0 := zx_okB_ok (by decide +kernel)
set_option maxRecDepth 100000 in
theorem zk_m88 : zx_okL 88 zx_c88 0 := zx_okB_ok (by decide +kernel)
set_option maxRecDepth 100000 in
theorem zk_m89 : zx_okL 89 zx_c89 0 := zx_okB_ok (by decide +kernel)
set_option maxRecDepth 100000 in
theorem zk_m90 : zx_okL 90 zx_c90 0 := zx_okB_ok (by decide +kernel)
set_option maxRecDepth 100000 in
theorem zk_m91 : zx_okL 91 zx_c91 0 := zx_okB_ok (by decide +kernel)
set_option maxRecDepth 100000 in
theorem zk_m92 : zx_okL 92 zx_c92 0 := zx_okB_ok (by decide +kernel)
set_option maxRecDepth 100000 in
theorem zk_m93 : zx_okL 93 zx_c93 0 := zx_okB_ok (by decide +kernel)
set_option maxRecDepth 100000 in
theorem zk_m94 : zx_okL 94 zx_c94 0 := zx_okB_ok (by decide +kernel)
set_option maxRecDepth 100000 in
theorem zk_m95 : zx_okL 95 zx_c95 0 := zx_okB_ok (by decide +kernel)
set_option maxRecDepth 100000 in
theorem zk_m96 : zx_okL 96 zx_c96 0 := zx_okB_ok (by decide +kernel)
