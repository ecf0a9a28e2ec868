theorem zk_cls : ∀ ci C T N, zx_cl[ci]? = some (C, T, N) → zk_cl ci := sorry
theorem zk_tt : zk_t := sorry
theorem zk_aa : zk_a := sorry
