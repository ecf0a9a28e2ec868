/-! layMoves, a round of its outer loop at a time -/
set_option maxRecDepth 100000 in
theorem zl_32 : zx_pz (zx_ent zx_xa 150 33 (zx_run zx_xa 100000) (28, 150, 33, 0, 0) [] (zx_wt zx_t6) 0 0 [(1, .inl 32), (2, .inl 64), (3, .inl 4), (0, .inr (.inl (some 73)))] [] 33) [] (zx_wt zx_t6) 0 0 [(1, .inl 33), (2, .inl 64), (3, .inl 4), (0, .inr (.inl (some 73)))] [] = true := by decide +kernel
set_option maxRecDepth 100000 in
theorem zl_33 : zx_pz (zx_ent zx_xa 150 33 (zx_run zx_xa 100000) (28, 150, 33, 0, 0) [] (zx_wt zx_t6) 0 0 [(1, .inl 33), (2, .inl 64), (3, .inl 4), (0, .inr (.inl (some 73)))] [] 33) [] (zx_wt zx_t6) 0 0 [(1, .inl 34), (2, .inl 64), (3, .inl 4), (0, .inr (.inl (some 73)))] [] = true := by decide +kernel
set_option maxRecDepth 100000 in
theorem zl_34 : zx_pz (zx_ent zx_xa 150 33 (zx_run zx_xa 100000) (28, 150, 33, 0, 0) [] (zx_wt zx_t6) 0 0 [(1, .inl 34), (2, .inl 64), (3, .inl 4), (0, .inr (.inl (some 73)))] [] 33) [] (zx_wt zx_t6) 0 0 [(1, .inl 35), (2, .inl 64), (3, .inl 4), (0, .inr (.inl (some 73)))] [] = true := by decide +kernel
set_option maxRecDepth 100000 in
theorem zl_35 : zx_pz (zx_ent zx_xa 150 33 (zx_run zx_xa 100000) (28, 150, 33, 0, 0) [] (zx_wt zx_t6) 0 0 [(1, .inl 35), (2, .inl 64), (3, .inl 4), (0, .inr (.inl (some 73)))] [] 33) [] (zx_wt zx_t6) 0 0 [(1, .inl 36), (2, .inl 64), (3, .inl 4), (0, .inr (.inl (some 73)))] [] = true := by decide +kernel
set_option maxRecDepth 100000 in
theorem zl_36 : zx_pz (zx_ent zx_xa 150 33 (zx_run zx_xa 100000) (28, 150, 33, 0, 0) [] (zx_wt zx_t6) 0 0 [(1, .inl 36), (2, .inl 64), (3, .inl 4), (0, .inr (.inl (some 73)))] [] 33) [] (zx_wt zx_t6) 0 0 [(1, .inl 37), (2, .inl 64), (3, .inl 4), (0, .inr (.inl (some 73)))] [] = true := by decide +kernel
set_option maxRecDepth 100000 in
theorem zl_37 : zx_pz (zx_ent zx_xa 150 33 (zx_run zx_xa 100000) (28, 150, 33, 0, 0) [] (zx_wt zx_t6) 0 0 [(1, .inl 37), (2, .inl 64), (3, .inl 4), (0, .inr (.inl (some 73)))] [] 33) [] (zx_wt zx_t6) 0 0 [(1, .inl 38), (2, .inl 64), (3, .inl 4), (0, .inr (.inl (some 73)))] [] = true := by decide +kernel
set_option maxRecDepth 100000 in
theorem zl_38 : zx_pz (zx_ent zx_xa 150 33 (zx_run zx_xa 100000) (28, 150, 33, 0, 0) [] (zx_wt zx_t6) 0 0 [(1, .inl 38), (2, .inl 64), (3, .inl 4), (0, .inr (.inl (some 73)))] [] 33) [] (zx_wt zx_t6) 0 0 [(1, .inl 39), (2, .inl 64), (3, .inl 4), (0, .inr (.inl (some 73)))] [] = true := by decide +kernel
set_option maxRecDepth 100000 in
theorem zl_39 : zx_pz (zx_ent zx_xa 150 33 (zx_run zx_xa 100000) (28, 150, 33, 0, 0) [] (zx_wt zx_t6) 0 0 [(1, .inl 39), (2, .inl 64), (3, .inl 4), (0, .inr (.inl (some 73)))] [] 33) [] (zx_wt zx_t6) 0 0 [(1, .inl 40), (2, .inl 64), (3, .inl 4), (0, .inr (.inl (some 73)))] [] = true := by decide +kernel
set_option maxRecDepth 100000 in
theorem zl_40 : zx_pz (zx_ent zx_xa 150 33 (zx_run zx_xa 100000) (28, 150, 33, 0, 0) [] (zx_wt zx_t6) 0 0 [(1, .inl 40), (2, .inl 64), (3, .inl 4), (0, .inr (.inl (some 73)))] [] 33) [] (zx_wt zx_t6) 0 0 [(1, .inl 41), (2, .inl 64), (3, .inl 4), (0, .inr (.inl (some 73)))] [] = true := by decide +kernel
set_option maxRecDepth 100000 in
theorem zl_41 : zx_pz (zx_ent zx_xa 150 33 (zx_run zx_xa 100000) (28, 150, 33, 0, 0) [] (zx_wt zx_t6) 0 0 [(1, .inl 41), (2, .inl 64), (3, .inl 4), (0, .inr (.inl (some 73)))] [] 33) [] (zx_wt zx_t6) 0 0 [(1, .inl 42), (2, .inl 64), (3, .inl 4), (0, .inr (.inl (some 73)))] [] = true := by decide +kernel
set_option maxRecDepth 100000 in
theorem zl_42 : zx_pz (zx_ent zx_xa 150 33 (zx_run zx_xa 100000) (28, 150, 33, 0, 0) [] (zx_wt zx_t6) 0 0 [(1, .inl 42), (2, .inl 64), (3, .inl 4), (0, .inr (.inl (some 73)))] [] 33) [] (zx_wt zx_t6) 0 0 [(1, .inl 43), (2, .inl 64), (3, .inl 4), (0, .inr (.inl (some 73)))] [] = true := by decide +kernel
set_option maxRecDepth 100000 in
theorem zl_43 : zx_pz (zx_ent zx_xa 150 33 (zx_run zx_xa 100000) (28, 150, 33, 0, 0) [] (zx_wt zx_t6) 0 0 [(1, .inl 43), (2, .inl 64), (3, .inl 4), (0, .inr (.inl (some 73)))] [] 33) [] (zx_wt zx_t6) 0 0 [(1, .inl 44), (2, .inl 64), (3, .inl 4), (0, .inr (.inl (some 73)))] [] = true := by decide +kernel
set_option maxRecDepth 100000 in
theorem zl_44 : zx_pz (zx_ent zx_xa 150 33 (zx_run zx_xa 100000) (28, 150, 33, 0, 0) [] (zx_wt zx_t6) 0 0 [(1, .inl 44), (2, .inl 64), (3, .inl 4), (0, .inr (.inl (some 73)))] [] 33) [] (zx_wt zx_t6) 0 0 [(1, .inl 45), (2, .inl 64), (3, .inl 4), (0, .inr (.inl (some 73)))] [] = true := by decide +kernel
set_option maxRecDepth 100000 in
theorem zl_45 : zx_pz (zx_ent zx_xa 150 33 (zx_run zx_xa 100000) (28, 150, 33, 0, 0) [] (zx_wt zx_t6) 0 0 [(1, .inl 45), (2, .inl 64), (3, .inl 4), (0, .inr (.inl (some 73)))] [] 33) [] (zx_wt zx_t6) 0 0 [(1, .inl 46), (2, .inl 64), (3, .inl 4), (0, .inr (.inl (some 73)))] [] = true := by decide +kernel
set_option maxRecDepth 100000 in
theorem zl_46 : zx_pz (zx_ent zx_xa 150 33 (zx_run zx_xa 100000) (28, 150, 33, 0, 0) [] (zx_wt zx_t6) 0 0 [(1, .inl 46), (2, .inl 64), (3, .inl 4), (0, .inr (.inl (some 73)))] [] 33) [] (zx_wt zx_t6) 0 0 [(1, .inl 47), (2, .inl 64), (3, .inl 4), (0, .inr (.inl (some 73)))] [] = true := by decide +kernel
set_option maxRecDepth 100000 in
theorem zl_47 : zx_pz (zx_ent zx_xa 150 33 (zx_run zx_xa 100000) (28, 150, 33, 0, 0) [] (zx_wt zx_t6) 0 0 [(1, .inl 47), (2, .inl 64), (3, .inl 4), (0, .inr (.inl (some 73)))] [] 33) [] (zx_wt zx_t6) 0 0 [(1, .inl 48), (2, .inl 64), (3, .inl 4), (0, .inr (.inl (some 73)))] [] = true := by decide +kernel
