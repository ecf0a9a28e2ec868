/-! comes(), hadBy() of the reference, over the second table of contracts -/
set_option maxRecDepth 100000 in
theorem hcS_00 : hc_k0 zSk1 0 0 560 = true := by decide +kernel
set_option maxRecDepth 100000 in
theorem hcS_0x : hc_kx zSk1 0 0 560 = true := by decide +kernel
set_option maxRecDepth 100000 in
theorem hcS_0a : hc_ks zSk1 0 0 560 (1, 60) (126, 126) (.inr (.inl (45, 1, 0))) = true := by decide +kernel
set_option maxRecDepth 100000 in
theorem hcS_0b : hc_ks zSk1 0 0 560 (0, 59) (97, 122) (.inr (.inl (45, 1, 1))) = true := by decide +kernel
set_option maxRecDepth 100000 in
theorem hcS_0c : hc_ks zSk1 0 0 560 (2, 60) (37, 62) (.inr (.inl (45, 1, .negSucc 0))) = true := by decide +kernel
set_option maxRecDepth 100000 in
theorem hcS_0d : hc_ks zSk1 0 0 560 (2, 60) (124, 124) (.inr (.inl (45, 1, .negSucc 0))) = true := by decide +kernel
set_option maxRecDepth 100000 in
theorem hbS_0e : hb_k [] zSk2 0 [0, 2, 4, 6] = true := by decide +kernel
set_option maxRecDepth 100000 in
theorem hbS_0o : hb_k [zSk1] zSk2 0 [1, 3, 5, 7] = true := by decide +kernel
set_option maxRecDepth 100000 in
theorem hcS_10 : hc_k0 zSk36 1 560 1120 = true := by decide +kernel
set_option maxRecDepth 100000 in
theorem hcS_1x : hc_kx zSk36 1 560 1120 = true := by decide +kernel
set_option maxRecDepth 100000 in
theorem hcS_1a : hc_ks zSk36 1 560 1120 (1, 60) (126, 126) (.inr (.inl (45, 1, 0))) = true := by decide +kernel
set_option maxRecDepth 100000 in
theorem hcS_1b : hc_ks zSk36 1 560 1120 (0, 59) (97, 122) (.inr (.inl (45, 1, 1))) = true := by decide +kernel
set_option maxRecDepth 100000 in
theorem hcS_1c : hc_ks zSk36 1 560 1120 (2, 60) (37, 62) (.inr (.inl (45, 1, .negSucc 0))) = true := by decide +kernel
set_option maxRecDepth 100000 in
theorem hcS_1d : hc_ks zSk36 1 560 1120 (2, 60) (124, 124) (.inr (.inl (45, 1, .negSucc 0))) = true := by decide +kernel
set_option maxRecDepth 100000 in
theorem hbS_1e : hb_k [] zSk37 1 [0, 2, 4, 6] = true := by decide +kernel
set_option maxRecDepth 100000 in
theorem hbS_1o : hb_k [zSk36] zSk37 1 [1, 3, 5, 7] = true := by decide +kernel
section QHFS
variable {ex : Nat → Value} {Γ : qΓ} {D : va_G} {as : List Nat} {tys : List (ClassId × FieldType)}
theorem hrS_comes0 (hT : zk_t) (hA : zk_a) (hG : ∀ fc, Γ.1 fc → hc_g fc 0) : qy_V ex Γ D as tys zSk1 := hc_comes hT hA (b := 0) rfl rfl (by decide) rfl rfl rfl rfl hcS_00 hcS_0x hcS_0a hcS_0b hcS_0c hcS_0d hG
theorem hrS_comes1 (hT : zk_t) (hA : zk_a) (hG : ∀ fc, Γ.1 fc → hc_g fc 1) : qy_V ex Γ D as tys zSk36 := hc_comes hT hA (b := 1) rfl rfl (by decide) rfl rfl rfl rfl hcS_10 hcS_1x hcS_1a hcS_1b hcS_1c hcS_1d hG
theorem hrS_had0 (hT : zk_t) (hA : zk_a) (hG : ∀ fc, Γ.1 fc → hp_g fc 0) : qy_V ex Γ D as tys zSk2 := hb_had hT hA (b := 0) (by decide) rfl (fun _ => qv_nil) (fun fc h => hrS_comes0 hT hA (fun f e => by rw [show f = fc from e]; exact h)) hbS_0e hbS_0o hG
theorem hrS_had1 (hT : zk_t) (hA : zk_a) (hG : ∀ fc, Γ.1 fc → hp_g fc 1) : qy_V ex Γ D as tys zSk37 := hb_had hT hA (b := 1) (by decide) rfl (fun _ => qv_nil) (fun fc h => hrS_comes1 hT hA (fun f e => by rw [show f = fc from e]; exact h)) hbS_1e hbS_1o hG
end QHFS
