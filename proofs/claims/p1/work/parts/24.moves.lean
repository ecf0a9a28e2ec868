/-! layMoves, a round of its outer loop at a time -/
set_option maxRecDepth 100000 in
theorem zl_48 : zx_pz (zx_ent zx_xa 150 33 (zx_run zx_xa 100000) (28, 150, 33, 0, 0) [] (zx_wt zx_t6) 0 0 [(1, .inl 48), (2, .inl 64), (3, .inl 4), (0, .inr (.inl (some 73)))] [] 33) [] (zx_wt zx_t6) 0 0 [(1, .inl 49), (2, .inl 64), (3, .inl 4), (0, .inr (.inl (some 73)))] [] = true := by decide +kernel
set_option maxRecDepth 100000 in
theorem zl_49 : zx_pz (zx_ent zx_xa 150 33 (zx_run zx_xa 100000) (28, 150, 33, 0, 0) [] (zx_wt zx_t6) 0 0 [(1, .inl 49), (2, .inl 64), (3, .inl 4), (0, .inr (.inl (some 73)))] [] 33) [] (zx_wt zx_t6) 0 0 [(1, .inl 50), (2, .inl 64), (3, .inl 4), (0, .inr (.inl (some 73)))] [] = true := by decide +kernel
set_option maxRecDepth 100000 in
theorem zl_50 : zx_pz (zx_ent zx_xa 150 33 (zx_run zx_xa 100000) (28, 150, 33, 0, 0) [] (zx_wt zx_t6) 0 0 [(1, .inl 50), (2, .inl 64), (3, .inl 4), (0, .inr (.inl (some 73)))] [] 33) [] (zx_wt zx_t6) 0 0 [(1, .inl 51), (2, .inl 64), (3, .inl 4), (0, .inr (.inl (some 73)))] [] = true := by decide +kernel
set_option maxRecDepth 100000 in
theorem zl_51 : zx_pz (zx_ent zx_xa 150 33 (zx_run zx_xa 100000) (28, 150, 33, 0, 0) [] (zx_wt zx_t6) 0 0 [(1, .inl 51), (2, .inl 64), (3, .inl 4), (0, .inr (.inl (some 73)))] [] 33) [] (zx_wt zx_t6) 0 0 [(1, .inl 52), (2, .inl 64), (3, .inl 4), (0, .inr (.inl (some 73)))] [] = true := by decide +kernel
set_option maxRecDepth 100000 in
theorem zl_52 : zx_pz (zx_ent zx_xa 150 33 (zx_run zx_xa 100000) (28, 150, 33, 0, 0) [] (zx_wt zx_t6) 0 0 [(1, .inl 52), (2, .inl 64), (3, .inl 4), (0, .inr (.inl (some 73)))] [] 33) [] (zx_wt zx_t6) 0 0 [(1, .inl 53), (2, .inl 64), (3, .inl 4), (0, .inr (.inl (some 73)))] [] = true := by decide +kernel
set_option maxRecDepth 100000 in
theorem zl_53 : zx_pz (zx_ent zx_xa 150 33 (zx_run zx_xa 100000) (28, 150, 33, 0, 0) [] (zx_wt zx_t6) 0 0 [(1, .inl 53), (2, .inl 64), (3, .inl 4), (0, .inr (.inl (some 73)))] [] 33) [] (zx_wt zx_t6) 0 0 [(1, .inl 54), (2, .inl 64), (3, .inl 4), (0, .inr (.inl (some 73)))] [] = true := by decide +kernel
set_option maxRecDepth 100000 in
theorem zl_54 : zx_pz (zx_ent zx_xa 150 33 (zx_run zx_xa 100000) (28, 150, 33, 0, 0) [] (zx_wt zx_t6) 0 0 [(1, .inl 54), (2, .inl 64), (3, .inl 4), (0, .inr (.inl (some 73)))] [] 33) [] (zx_wt zx_t6) 0 0 [(1, .inl 55), (2, .inl 64), (3, .inl 4), (0, .inr (.inl (some 73)))] [] = true := by decide +kernel
set_option maxRecDepth 100000 in
theorem zl_55 : zx_pz (zx_ent zx_xa 150 33 (zx_run zx_xa 100000) (28, 150, 33, 0, 0) [] (zx_wt zx_t6) 0 0 [(1, .inl 55), (2, .inl 64), (3, .inl 4), (0, .inr (.inl (some 73)))] [] 33) [] (zx_wt zx_t6) 0 0 [(1, .inl 56), (2, .inl 64), (3, .inl 4), (0, .inr (.inl (some 73)))] [] = true := by decide +kernel
set_option maxRecDepth 100000 in
theorem zl_56 : zx_pz (zx_ent zx_xa 150 33 (zx_run zx_xa 100000) (28, 150, 33, 0, 0) [] (zx_wt zx_t6) 0 0 [(1, .inl 56), (2, .inl 64), (3, .inl 4), (0, .inr (.inl (some 73)))] [] 33) [] (zx_wt zx_t6) 0 0 [(1, .inl 57), (2, .inl 64), (3, .inl 4), (0, .inr (.inl (some 73)))] [] = true := by decide +kernel
set_option maxRecDepth 100000 in
theorem zl_57 : zx_pz (zx_ent zx_xa 150 33 (zx_run zx_xa 100000) (28, 150, 33, 0, 0) [] (zx_wt zx_t6) 0 0 [(1, .inl 57), (2, .inl 64), (3, .inl 4), (0, .inr (.inl (some 73)))] [] 33) [] (zx_wt zx_t6) 0 0 [(1, .inl 58), (2, .inl 64), (3, .inl 4), (0, .inr (.inl (some 73)))] [] = true := by decide +kernel
set_option maxRecDepth 100000 in
theorem zl_58 : zx_pz (zx_ent zx_xa 150 33 (zx_run zx_xa 100000) (28, 150, 33, 0, 0) [] (zx_wt zx_t6) 0 0 [(1, .inl 58), (2, .inl 64), (3, .inl 4), (0, .inr (.inl (some 73)))] [] 33) [] (zx_wt zx_t6) 0 0 [(1, .inl 59), (2, .inl 64), (3, .inl 4), (0, .inr (.inl (some 73)))] [] = true := by decide +kernel
set_option maxRecDepth 100000 in
theorem zl_59 : zx_pz (zx_ent zx_xa 150 33 (zx_run zx_xa 100000) (28, 150, 33, 0, 0) [] (zx_wt zx_t6) 0 0 [(1, .inl 59), (2, .inl 64), (3, .inl 4), (0, .inr (.inl (some 73)))] [] 33) [] (zx_wt zx_t6) 0 0 [(1, .inl 60), (2, .inl 64), (3, .inl 4), (0, .inr (.inl (some 73)))] [] = true := by decide +kernel
set_option maxRecDepth 100000 in
theorem zl_60 : zx_pz (zx_ent zx_xa 150 33 (zx_run zx_xa 100000) (28, 150, 33, 0, 0) [] (zx_wt zx_t6) 0 0 [(1, .inl 60), (2, .inl 64), (3, .inl 4), (0, .inr (.inl (some 73)))] [] 33) [] (zx_wt zx_t6) 0 0 [(1, .inl 61), (2, .inl 64), (3, .inl 4), (0, .inr (.inl (some 73)))] [] = true := by decide +kernel
set_option maxRecDepth 100000 in
theorem zl_61 : zx_pz (zx_ent zx_xa 150 33 (zx_run zx_xa 100000) (28, 150, 33, 0, 0) [] (zx_wt zx_t6) 0 0 [(1, .inl 61), (2, .inl 64), (3, .inl 4), (0, .inr (.inl (some 73)))] [] 33) [] (zx_wt zx_t6) 0 0 [(1, .inl 62), (2, .inl 64), (3, .inl 4), (0, .inr (.inl (some 73)))] [] = true := by decide +kernel
set_option maxRecDepth 100000 in
theorem zl_62 : zx_pz (zx_ent zx_xa 150 33 (zx_run zx_xa 100000) (28, 150, 33, 0, 0) [] (zx_wt zx_t6) 0 0 [(1, .inl 62), (2, .inl 64), (3, .inl 4), (0, .inr (.inl (some 73)))] [] 33) [] (zx_wt zx_t6) 0 0 [(1, .inl 63), (2, .inl 64), (3, .inl 4), (0, .inr (.inl (some 73)))] [] = true := by decide +kernel
set_option maxRecDepth 100000 in
theorem zl_63 : zx_pz (zx_ent zx_xa 150 33 (zx_run zx_xa 100000) (28, 150, 33, 0, 0) [] (zx_wt zx_t6) 0 0 [(1, .inl 63), (2, .inl 64), (3, .inl 4), (0, .inr (.inl (some 73)))] [] 33) [] (zx_wt zx_t6) 0 0 [(1, .inl 64), (2, .inl 64), (3, .inl 4), (0, .inr (.inl (some 73)))] [] = true := by decide +kernel
