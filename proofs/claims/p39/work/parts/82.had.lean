/-! comes(), hadBy(), keepAct() of the reference -/
set_option maxRecDepth 100000 in
theorem hc_00 : hc_k0 zRcomes0 0 0 560 = true := by decide +kernel
set_option maxRecDepth 100000 in
theorem hc_0x : hc_kx zRcomes0 0 0 560 = true := by decide +kernel
set_option maxRecDepth 100000 in
theorem hc_0a : hc_ks zRcomes0 0 0 560 (1, 60) (126, 126) (.inr (.inl (45, 1, 0))) = true := by decide +kernel
set_option maxRecDepth 100000 in
theorem hc_0b : hc_ks zRcomes0 0 0 560 (0, 59) (97, 122) (.inr (.inl (45, 1, 1))) = true := by decide +kernel
set_option maxRecDepth 100000 in
theorem hc_0c : hc_ks zRcomes0 0 0 560 (2, 60) (37, 62) (.inr (.inl (45, 1, .negSucc 0))) = true := by decide +kernel
set_option maxRecDepth 100000 in
theorem hc_0d : hc_ks zRcomes0 0 0 560 (2, 60) (124, 124) (.inr (.inl (45, 1, .negSucc 0))) = true := by decide +kernel
set_option maxRecDepth 100000 in
theorem hb_0e : hb_k [] zRhadBy0 0 [0, 2, 4, 6] = true := by decide +kernel
set_option maxRecDepth 100000 in
theorem hb_0o : hb_k [zRcomes0] zRhadBy0 0 [1, 3, 5, 7] = true := by decide +kernel
set_option maxRecDepth 100000 in
theorem hc_10 : hc_k0 zRcomes1 1 560 1120 = true := by decide +kernel
set_option maxRecDepth 100000 in
theorem hc_1x : hc_kx zRcomes1 1 560 1120 = true := by decide +kernel
set_option maxRecDepth 100000 in
theorem hc_1a : hc_ks zRcomes1 1 560 1120 (1, 60) (126, 126) (.inr (.inl (45, 1, 0))) = true := by decide +kernel
set_option maxRecDepth 100000 in
theorem hc_1b : hc_ks zRcomes1 1 560 1120 (0, 59) (97, 122) (.inr (.inl (45, 1, 1))) = true := by decide +kernel
set_option maxRecDepth 100000 in
theorem hc_1c : hc_ks zRcomes1 1 560 1120 (2, 60) (37, 62) (.inr (.inl (45, 1, .negSucc 0))) = true := by decide +kernel
set_option maxRecDepth 100000 in
theorem hc_1d : hc_ks zRcomes1 1 560 1120 (2, 60) (124, 124) (.inr (.inl (45, 1, .negSucc 0))) = true := by decide +kernel
set_option maxRecDepth 100000 in
theorem hb_1e : hb_k [] zRhadBy1 1 [0, 2, 4, 6] = true := by decide +kernel
set_option maxRecDepth 100000 in
theorem hb_1o : hb_k [zRcomes1] zRhadBy1 1 [1, 3, 5, 7] = true := by decide +kernel
set_option maxRecDepth 100000 in
theorem ka_0 : ka_k0 zRkeepAct = true := by decide +kernel
set_option maxRecDepth 100000 in
theorem ka_1 : ka_kx zRkeepAct = true := by decide +kernel
set_option maxRecDepth 100000 in
theorem ka_2 : ka_kr zRkeepAct [0, 1, 2, 3, 4, 5, 6, 7, 8, 9, 10, 11, 12, 13, 14, 15, 16, 17, 18, 19, 20, 21, 22, 23, 24, 25, 26, 27, 28, 29, 30, 31] = true := by decide +kernel
section QHF
variable {ex : Nat → Value} {Γ : qΓ} {D : va_G} {as : List Nat} {tys : List (ClassId × FieldType)}
theorem hr_comes0 (hT : zk_t) (hA : zk_a) (hG : ∀ fc, Γ.1 fc → hc_g fc 0) : qy_V ex Γ D as tys zRcomes0 := hc_comes hT hA (b := 0) rfl rfl (by decide) rfl rfl rfl rfl hc_00 hc_0x hc_0a hc_0b hc_0c hc_0d hG
theorem hr_comes1 (hT : zk_t) (hA : zk_a) (hG : ∀ fc, Γ.1 fc → hc_g fc 1) : qy_V ex Γ D as tys zRcomes1 := hc_comes hT hA (b := 1) rfl rfl (by decide) rfl rfl rfl rfl hc_10 hc_1x hc_1a hc_1b hc_1c hc_1d hG
theorem hr_had0 (hT : zk_t) (hA : zk_a) (hG : ∀ fc, Γ.1 fc → hp_g fc 0) : qy_V ex Γ D as tys zRhadBy0 := hb_had hT hA (b := 0) (by decide) rfl (fun _ => qv_nil) (fun fc h => hr_comes0 hT hA (fun f e => by rw [show f = fc from e]; exact h)) hb_0e hb_0o hG
theorem hr_had1 (hT : zk_t) (hA : zk_a) (hG : ∀ fc, Γ.1 fc → hp_g fc 1) : qy_V ex Γ D as tys zRhadBy1 := hb_had hT hA (b := 1) (by decide) rfl (fun _ => qv_nil) (fun fc h => hr_comes1 hT hA (fun f e => by rw [show f = fc from e]; exact h)) hb_1e hb_1o hG
theorem hr_keep (hT : zk_t) (hA : zk_a) : qy_V ex Γ D as tys zRkeepAct := ka_keep hT hA rfl rfl ka_0 ka_1 ka_2
end QHF
