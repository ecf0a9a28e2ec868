/-! comes(), hadBy() of the reference, over the second table of contracts -/
set_option maxRecDepth 100000 in
theorem hcU_00 : hc_k0 zUk1 0 0 560 = true := by decide +kernel
set_option maxRecDepth 100000 in
theorem hcU_0x : hc_kx zUk1 0 0 560 = true := by decide +kernel
set_option maxRecDepth 100000 in
theorem hcU_0a : hc_ks zUk1 0 0 560 (1, 60) (126, 126) (.inr (.inl (45, 1, 0))) = true := by decide +kernel
set_option maxRecDepth 100000 in
theorem hcU_0b : hc_ks zUk1 0 0 560 (0, 59) (97, 122) (.inr (.inl (45, 1, 1))) = true := by decide +kernel
set_option maxRecDepth 100000 in
theorem hcU_0c : hc_ks zUk1 0 0 560 (2, 60) (37, 62) (.inr (.inl (45, 1, .negSucc 0))) = true := by decide +kernel
set_option maxRecDepth 100000 in
theorem hcU_0d : hc_ks zUk1 0 0 560 (2, 60) (124, 124) (.inr (.inl (45, 1, .negSucc 0))) = true := by decide +kernel
set_option maxRecDepth 100000 in
theorem hbU_0e : hb_k [] zUk2 0 [0, 2, 4, 6] = true := by decide +kernel
set_option maxRecDepth 100000 in
theorem hbU_0o : hb_k [zUk1] zUk2 0 [1, 3, 5, 7] = true := by decide +kernel
set_option maxRecDepth 100000 in
theorem hcU_10 : hc_k0 zUk6 1 560 1120 = true := by decide +kernel
set_option maxRecDepth 100000 in
theorem hcU_1x : hc_kx zUk6 1 560 1120 = true := by decide +kernel
set_option maxRecDepth 100000 in
theorem hcU_1a : hc_ks zUk6 1 560 1120 (1, 60) (126, 126) (.inr (.inl (45, 1, 0))) = true := by decide +kernel
set_option maxRecDepth 100000 in
theorem hcU_1b : hc_ks zUk6 1 560 1120 (0, 59) (97, 122) (.inr (.inl (45, 1, 1))) = true := by decide +kernel
set_option maxRecDepth 100000 in
theorem hcU_1c : hc_ks zUk6 1 560 1120 (2, 60) (37, 62) (.inr (.inl (45, 1, .negSucc 0))) = true := by decide +kernel
set_option maxRecDepth 100000 in
theorem hcU_1d : hc_ks zUk6 1 560 1120 (2, 60) (124, 124) (.inr (.inl (45, 1, .negSucc 0))) = true := by decide +kernel
set_option maxRecDepth 100000 in
theorem hbU_1e : hb_k [] zUk7 1 [0, 2, 4, 6] = true := by decide +kernel
set_option maxRecDepth 100000 in
theorem hbU_1o : hb_k [zUk6] zUk7 1 [1, 3, 5, 7] = true := by decide +kernel
section QHFU
variable {ex : Nat → Value} {Γ : qΓ} {D : va_G} {as : List Nat} {tys : List (ClassId × FieldType)}
theorem hrU_comes0 (hT : zk_t) (hA : zk_a) (hG : ∀ fc, Γ.1 fc → hc_g fc 0) : qy_V ex Γ D as tys zUk1 := hc_comes hT hA (b := 0) rfl rfl (by decide) rfl rfl rfl rfl hcU_00 hcU_0x hcU_0a hcU_0b hcU_0c hcU_0d hG
theorem hrU_comes1 (hT : zk_t) (hA : zk_a) (hG : ∀ fc, Γ.1 fc → hc_g fc 1) : qy_V ex Γ D as tys zUk6 := hc_comes hT hA (b := 1) rfl rfl (by decide) rfl rfl rfl rfl hcU_10 hcU_1x hcU_1a hcU_1b hcU_1c hcU_1d hG
theorem hrU_had0 (hT : zk_t) (hA : zk_a) (hG : ∀ fc, Γ.1 fc → hp_g fc 0) : qy_V ex Γ D as tys zUk2 := hb_had hT hA (b := 0) (by decide) rfl (fun _ => qv_nil) (fun fc h => hrU_comes0 hT hA (fun f e => by rw [show f = fc from e]; exact h)) hbU_0e hbU_0o hG
theorem hrU_had1 (hT : zk_t) (hA : zk_a) (hG : ∀ fc, Γ.1 fc → hp_g fc 1) : qy_V ex Γ D as tys zUk7 := hb_had hT hA (b := 1) (by decide) rfl (fun _ => qv_nil) (fun fc h => hrU_comes1 hT hA (fun f e => by rw [show f = fc from e]; exact h)) hbU_1e hbU_1o hG
end QHFU
