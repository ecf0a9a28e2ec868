def zt_ok (r : zx_R) : Bool := match r with
  | some l => l.all fun o => match o.2.2 with | .inl none => true | _ => false
  | none => false
set_option maxRecDepth 100000 in
theorem zt_1 : zt_ok (zx_run 1000 (5, 108, 1000000, 20, 1000) zx_g0 [.inr (10, zx_dfl.getD 10 [])] 0 0 [(0, .inr (.inl (some 0)))] [] 0) = true := by decide +kernel
