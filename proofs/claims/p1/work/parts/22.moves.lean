/-! layMoves, a round of its outer loop at a time -/
set_option maxRecDepth 100000 in
theorem zl_16 : zx_pz (zx_ent zx_xa 150 33 (zx_run zx_xa 100000) (28, 150, 33, 0, 0) [] (zx_wt zx_t6) 0 0 [(1, .inl 16), (2, .inl 64), (3, .inl 4), (0, .inr (.inl (some 73)))] [] 33) [] (zx_wt zx_t6) 0 0 [(1, .inl 17), (2, .inl 64), (3, .inl 4), (0, .inr (.inl (some 73)))] [] = true := by decide +kernel
set_option maxRecDepth 100000 in
theorem zl_17 : zx_pz (zx_ent zx_xa 150 33 (zx_run zx_xa 100000) (28, 150, 33, 0, 0) [] (zx_wt zx_t6) 0 0 [(1, .inl 17), (2, .inl 64), (3, .inl 4), (0, .inr (.inl (some 73)))] [] 33) [] (zx_wt zx_t6) 0 0 [(1, .inl 18), (2, .inl 64), (3, .inl 4), (0, .inr (.inl (some 73)))] [] = true := by decide +kernel
set_option maxRecDepth 100000 in
theorem zl_18 : zx_pz (zx_ent zx_xa 150 33 (zx_run zx_xa 100000) (28, 150, 33, 0, 0) [] (zx_wt zx_t6) 0 0 [(1, .inl 18), (2, .inl 64), (3, .inl 4), (0, .inr (.inl (some 73)))] [] 33) [] (zx_wt zx_t6) 0 0 [(1, .inl 19), (2, .inl 64), (3, .inl 4), (0, .inr (.inl (some 73)))] [] = true := by decide +kernel
set_option maxRecDepth 100000 in
theorem zl_19 : zx_pz (zx_ent zx_xa 150 33 (zx_run zx_xa 100000) (28, 150, 33, 0, 0) [] (zx_wt zx_t6) 0 0 [(1, .inl 19), (2, .inl 64), (3, .inl 4), (0, .inr (.inl (some 73)))] [] 33) [] (zx_wt zx_t6) 0 0 [(1, .inl 20), (2, .inl 64), (3, .inl 4), (0, .inr (.inl (some 73)))] [] = true := by decide +kernel
set_option maxRecDepth 100000 in
theorem zl_20 : zx_pz (zx_ent zx_xa 150 33 (zx_run zx_xa 100000) (28, 150, 33, 0, 0) [] (zx_wt zx_t6) 0 0 [(1, .inl 20), (2, .inl 64), (3, .inl 4), (0, .inr (.inl (some 73)))] [] 33) [] (zx_wt zx_t6) 0 0 [(1, .inl 21), (2, .inl 64), (3, .inl 4), (0, .inr (.inl (some 73)))] [] = true := by decide +kernel
set_option maxRecDepth 100000 in
theorem zl_21 : zx_pz (zx_ent zx_xa 150 33 (zx_run zx_xa 100000) (28, 150, 33, 0, 0) [] (zx_wt zx_t6) 0 0 [(1, .inl 21), (2, .inl 64), (3, .inl 4), (0, .inr (.inl (some 73)))] [] 33) [] (zx_wt zx_t6) 0 0 [(1, .inl 22), (2, .inl 64), (3, .inl 4), (0, .inr (.inl (some 73)))] [] = true := by decide +kernel
set_option maxRecDepth 100000 in
theorem zl_22 : zx_pz (zx_ent zx_xa 150 33 (zx_run zx_xa 100000) (28, 150, 33, 0, 0) [] (zx_wt zx_t6) 0 0 [(1, .inl 22), (2, .inl 64), (3, .inl 4), (0, .inr (.inl (some 73)))] [] 33) [] (zx_wt zx_t6) 0 0 [(1, .inl 23), (2, .inl 64), (3, .inl 4), (0, .inr (.inl (some 73)))] [] = true := by decide +kernel
set_option maxRecDepth 100000 in
theorem zl_23 : zx_pz (zx_ent zx_xa 150 33 (zx_run zx_xa 100000) (28, 150, 33, 0, 0) [] (zx_wt zx_t6) 0 0 [(1, .inl 23), (2, .inl 64), (3, .inl 4), (0, .inr (.inl (some 73)))] [] 33) [] (zx_wt zx_t6) 0 0 [(1, .inl 24), (2, .inl 64), (3, .inl 4), (0, .inr (.inl (some 73)))] [] = true := by decide +kernel
set_option maxRecDepth 100000 in
theorem zl_24 : zx_pz (zx_ent zx_xa 150 33 (zx_run zx_xa 100000) (28, 150, 33, 0, 0) [] (zx_wt zx_t6) 0 0 [(1, .inl 24), (2, .inl 64), (3, .inl 4), (0, .inr (.inl (some 73)))] [] 33) [] (zx_wt zx_t6) 0 0 [(1, .inl 25), (2, .inl 64), (3, .inl 4), (0, .inr (.inl (some 73)))] [] = true := by decide +kernel
set_option maxRecDepth 100000 in
theorem zl_25 : zx_pz (zx_ent zx_xa 150 33 (zx_run zx_xa 100000) (28, 150, 33, 0, 0) [] (zx_wt zx_t6) 0 0 [(1, .inl 25), (2, .inl 64), (3, .inl 4), (0, .inr (.inl (some 73)))] [] 33) [] (zx_wt zx_t6) 0 0 [(1, .inl 26), (2, .inl 64), (3, .inl 4), (0, .inr (.inl (some 73)))] [] = true := by decide +kernel
set_option maxRecDepth 100000 in
theorem zl_26 : zx_pz (zx_ent zx_xa 150 33 (zx_run zx_xa 100000) (28, 150, 33, 0, 0) [] (zx_wt zx_t6) 0 0 [(1, .inl 26), (2, .inl 64), (3, .inl 4), (0, .inr (.inl (some 73)))] [] 33) [] (zx_wt zx_t6) 0 0 [(1, .inl 27), (2, .inl 64), (3, .inl 4), (0, .inr (.inl (some 73)))] [] = true := by decide +kernel
set_option maxRecDepth 100000 in
theorem zl_27 : zx_pz (zx_ent zx_xa 150 33 (zx_run zx_xa 100000) (28, 150, 33, 0, 0) [] (zx_wt zx_t6) 0 0 [(1, .inl 27), (2, .inl 64), (3, .inl 4), (0, .inr (.inl (some 73)))] [] 33) [] (zx_wt zx_t6) 0 0 [(1, .inl 28), (2, .inl 64), (3, .inl 4), (0, .inr (.inl (some 73)))] [] = true := by decide +kernel
set_option maxRecDepth 100000 in
theorem zl_28 : zx_pz (zx_ent zx_xa 150 33 (zx_run zx_xa 100000) (28, 150, 33, 0, 0) [] (zx_wt zx_t6) 0 0 [(1, .inl 28), (2, .inl 64), (3, .inl 4), (0, .inr (.inl (some 73)))] [] 33) [] (zx_wt zx_t6) 0 0 [(1, .inl 29), (2, .inl 64), (3, .inl 4), (0, .inr (.inl (some 73)))] [] = true := by decide +kernel
set_option maxRecDepth 100000 in
theorem zl_29 : zx_pz (zx_ent zx_xa 150 33 (zx_run zx_xa 100000) (28, 150, 33, 0, 0) [] (zx_wt zx_t6) 0 0 [(1, .inl 29), (2, .inl 64), (3, .inl 4), (0, .inr (.inl (some 73)))] [] 33) [] (zx_wt zx_t6) 0 0 [(1, .inl 30), (2, .inl 64), (3, .inl 4), (0, .inr (.inl (some 73)))] [] = true := by decide +kernel
set_option maxRecDepth 100000 in
theorem zl_30 : zx_pz (zx_ent zx_xa 150 33 (zx_run zx_xa 100000) (28, 150, 33, 0, 0) [] (zx_wt zx_t6) 0 0 [(1, .inl 30), (2, .inl 64), (3, .inl 4), (0, .inr (.inl (some 73)))] [] 33) [] (zx_wt zx_t6) 0 0 [(1, .inl 31), (2, .inl 64), (3, .inl 4), (0, .inr (.inl (some 73)))] [] = true := by decide +kernel
set_option maxRecDepth 100000 in
theorem zl_31 : zx_pz (zx_ent zx_xa 150 33 (zx_run zx_xa 100000) (28, 150, 33, 0, 0) [] (zx_wt zx_t6) 0 0 [(1, .inl 31), (2, .inl 64), (3, .inl 4), (0, .inr (.inl (some 73)))] [] 33) [] (zx_wt zx_t6) 0 0 [(1, .inl 32), (2, .inl 64), (3, .inl 4), (0, .inr (.inl (some 73)))] [] = true := by decide +kernel
