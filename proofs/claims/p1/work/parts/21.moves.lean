/-! layMoves, a round of its outer loop at a time -/
set_option maxRecDepth 100000 in
theorem zl_0 : zx_pz (zx_ent zx_xa 150 33 (zx_run zx_xa 100000) (28, 150, 33, 0, 0) [] (zx_wt zx_t0) 0 0 [(1, .inl 0), (0, .inr (.inl (some 73)))] [] 33) [] (zx_wt zx_t1) 0 0 [(1, .inl 1), (2, .inl 64), (3, .inl 4), (0, .inr (.inl (some 73)))] [] = true := by decide +kernel
set_option maxRecDepth 100000 in
theorem zl_1 : zx_pz (zx_ent zx_xa 150 33 (zx_run zx_xa 100000) (28, 150, 33, 0, 0) [] (zx_wt zx_t1) 0 0 [(1, .inl 1), (2, .inl 64), (3, .inl 4), (0, .inr (.inl (some 73)))] [] 33) [] (zx_wt zx_t2) 0 0 [(1, .inl 2), (2, .inl 64), (3, .inl 4), (0, .inr (.inl (some 73)))] [] = true := by decide +kernel
set_option maxRecDepth 100000 in
theorem zl_2 : zx_pz (zx_ent zx_xa 150 33 (zx_run zx_xa 100000) (28, 150, 33, 0, 0) [] (zx_wt zx_t2) 0 0 [(1, .inl 2), (2, .inl 64), (3, .inl 4), (0, .inr (.inl (some 73)))] [] 33) [] (zx_wt zx_t3) 0 0 [(1, .inl 3), (2, .inl 64), (3, .inl 4), (0, .inr (.inl (some 73)))] [] = true := by decide +kernel
set_option maxRecDepth 100000 in
theorem zl_3 : zx_pz (zx_ent zx_xa 150 33 (zx_run zx_xa 100000) (28, 150, 33, 0, 0) [] (zx_wt zx_t3) 0 0 [(1, .inl 3), (2, .inl 64), (3, .inl 4), (0, .inr (.inl (some 73)))] [] 33) [] (zx_wt zx_t4) 0 0 [(1, .inl 4), (2, .inl 64), (3, .inl 4), (0, .inr (.inl (some 73)))] [] = true := by decide +kernel
set_option maxRecDepth 100000 in
theorem zl_4 : zx_pz (zx_ent zx_xa 150 33 (zx_run zx_xa 100000) (28, 150, 33, 0, 0) [] (zx_wt zx_t4) 0 0 [(1, .inl 4), (2, .inl 64), (3, .inl 4), (0, .inr (.inl (some 73)))] [] 33) [] (zx_wt zx_t5) 0 0 [(1, .inl 5), (2, .inl 64), (3, .inl 4), (0, .inr (.inl (some 73)))] [] = true := by decide +kernel
set_option maxRecDepth 100000 in
theorem zl_5 : zx_pz (zx_ent zx_xa 150 33 (zx_run zx_xa 100000) (28, 150, 33, 0, 0) [] (zx_wt zx_t5) 0 0 [(1, .inl 5), (2, .inl 64), (3, .inl 4), (0, .inr (.inl (some 73)))] [] 33) [] (zx_wt zx_t6) 0 0 [(1, .inl 6), (2, .inl 64), (3, .inl 4), (0, .inr (.inl (some 73)))] [] = true := by decide +kernel
set_option maxRecDepth 100000 in
theorem zl_6 : zx_pz (zx_ent zx_xa 150 33 (zx_run zx_xa 100000) (28, 150, 33, 0, 0) [] (zx_wt zx_t6) 0 0 [(1, .inl 6), (2, .inl 64), (3, .inl 4), (0, .inr (.inl (some 73)))] [] 33) [] (zx_wt zx_t6) 0 0 [(1, .inl 7), (2, .inl 64), (3, .inl 4), (0, .inr (.inl (some 73)))] [] = true := by decide +kernel
set_option maxRecDepth 100000 in
theorem zl_7 : zx_pz (zx_ent zx_xa 150 33 (zx_run zx_xa 100000) (28, 150, 33, 0, 0) [] (zx_wt zx_t6) 0 0 [(1, .inl 7), (2, .inl 64), (3, .inl 4), (0, .inr (.inl (some 73)))] [] 33) [] (zx_wt zx_t6) 0 0 [(1, .inl 8), (2, .inl 64), (3, .inl 4), (0, .inr (.inl (some 73)))] [] = true := by decide +kernel
set_option maxRecDepth 100000 in
theorem zl_8 : zx_pz (zx_ent zx_xa 150 33 (zx_run zx_xa 100000) (28, 150, 33, 0, 0) [] (zx_wt zx_t6) 0 0 [(1, .inl 8), (2, .inl 64), (3, .inl 4), (0, .inr (.inl (some 73)))] [] 33) [] (zx_wt zx_t6) 0 0 [(1, .inl 9), (2, .inl 64), (3, .inl 4), (0, .inr (.inl (some 73)))] [] = true := by decide +kernel
set_option maxRecDepth 100000 in
theorem zl_9 : zx_pz (zx_ent zx_xa 150 33 (zx_run zx_xa 100000) (28, 150, 33, 0, 0) [] (zx_wt zx_t6) 0 0 [(1, .inl 9), (2, .inl 64), (3, .inl 4), (0, .inr (.inl (some 73)))] [] 33) [] (zx_wt zx_t6) 0 0 [(1, .inl 10), (2, .inl 64), (3, .inl 4), (0, .inr (.inl (some 73)))] [] = true := by decide +kernel
set_option maxRecDepth 100000 in
theorem zl_10 : zx_pz (zx_ent zx_xa 150 33 (zx_run zx_xa 100000) (28, 150, 33, 0, 0) [] (zx_wt zx_t6) 0 0 [(1, .inl 10), (2, .inl 64), (3, .inl 4), (0, .inr (.inl (some 73)))] [] 33) [] (zx_wt zx_t6) 0 0 [(1, .inl 11), (2, .inl 64), (3, .inl 4), (0, .inr (.inl (some 73)))] [] = true := by decide +kernel
set_option maxRecDepth 100000 in
theorem zl_11 : zx_pz (zx_ent zx_xa 150 33 (zx_run zx_xa 100000) (28, 150, 33, 0, 0) [] (zx_wt zx_t6) 0 0 [(1, .inl 11), (2, .inl 64), (3, .inl 4), (0, .inr (.inl (some 73)))] [] 33) [] (zx_wt zx_t6) 0 0 [(1, .inl 12), (2, .inl 64), (3, .inl 4), (0, .inr (.inl (some 73)))] [] = true := by decide +kernel
set_option maxRecDepth 100000 in
theorem zl_12 : zx_pz (zx_ent zx_xa 150 33 (zx_run zx_xa 100000) (28, 150, 33, 0, 0) [] (zx_wt zx_t6) 0 0 [(1, .inl 12), (2, .inl 64), (3, .inl 4), (0, .inr (.inl (some 73)))] [] 33) [] (zx_wt zx_t6) 0 0 [(1, .inl 13), (2, .inl 64), (3, .inl 4), (0, .inr (.inl (some 73)))] [] = true := by decide +kernel
set_option maxRecDepth 100000 in
theorem zl_13 : zx_pz (zx_ent zx_xa 150 33 (zx_run zx_xa 100000) (28, 150, 33, 0, 0) [] (zx_wt zx_t6) 0 0 [(1, .inl 13), (2, .inl 64), (3, .inl 4), (0, .inr (.inl (some 73)))] [] 33) [] (zx_wt zx_t6) 0 0 [(1, .inl 14), (2, .inl 64), (3, .inl 4), (0, .inr (.inl (some 73)))] [] = true := by decide +kernel
set_option maxRecDepth 100000 in
theorem zl_14 : zx_pz (zx_ent zx_xa 150 33 (zx_run zx_xa 100000) (28, 150, 33, 0, 0) [] (zx_wt zx_t6) 0 0 [(1, .inl 14), (2, .inl 64), (3, .inl 4), (0, .inr (.inl (some 73)))] [] 33) [] (zx_wt zx_t6) 0 0 [(1, .inl 15), (2, .inl 64), (3, .inl 4), (0, .inr (.inl (some 73)))] [] = true := by decide +kernel
set_option maxRecDepth 100000 in
theorem zl_15 : zx_pz (zx_ent zx_xa 150 33 (zx_run zx_xa 100000) (28, 150, 33, 0, 0) [] (zx_wt zx_t6) 0 0 [(1, .inl 15), (2, .inl 64), (3, .inl 4), (0, .inr (.inl (some 73)))] [] 33) [] (zx_wt zx_t6) 0 0 [(1, .inl 16), (2, .inl 64), (3, .inl 4), (0, .inr (.inl (some 73)))] [] = true := by decide +kernel
