/-! the constructors, run by the kernel -/
noncomputable def zx_wc : zx_Wd := zx_w0_0 ++ (zx_w0_1 ++ (zx_w0_2 ++ (zx_w0_3 ++ (zx_w0_4 ++ (zx_w0_5 ++ (zx_w0_6 ++ [.inl (0, List.replicate 30 (.inl 0)), .inl (0, List.replicate 100 (.inl 0)), .inl (0, List.replicate 64 (.inl 0))]))))))
def zx_lc : zx_L := [(1, .inr (.inl (some 0))), (0, .inr (.inr (.inr (.inr (.inl 1)))))]
set_option maxRecDepth 100000 in
theorem zv_i2 : zx_pz (zx_run zx_xa0 100000 (30, 0, 18, 200, 20000) zx_g0 zx_wc 73 11339 zx_lc [] 8) zx_g0 zx_w0 109 19183 zx_l0 [] = true := by decide +kernel
