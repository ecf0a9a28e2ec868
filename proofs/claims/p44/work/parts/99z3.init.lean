/-! the constructors, run by the kernel -/
set_option maxRecDepth 100000 in
theorem zv_init : zx_pz (zx_run zx_xa0 100000 (30, 0, 18, 200, 20000) zx_g0 [] 0 0 [(0, .inr (.inr (.inr (.inr (.inl 1)))))] [] 0) zx_g0 zx_w0 109 19183 zx_l0 [] = true := by decide +kernel
