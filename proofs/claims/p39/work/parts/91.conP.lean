/-! contracts that hold, by program (wip/p44) -/
def zP_hand : List qC := [zPk8, zPk12, zPk14, zPk16]
section zPCON
variable (ex : Nat → Value) (Γ : qΓ) (D : va_G) (as : List Nat) (tys : List (ClassId × FieldType))
theorem zPh0 (hT : zk_t) (hA : zk_a) : qy_V ex Γ D as tys zPk0 := qs_chk qv_nil hT hA zPv0
theorem zPh1 (hT : zk_t) (hA : zk_a) : qy_V ex Γ D as tys zPk1 := qs_chk qv_nil hT hA zPv1
theorem zPh2 (hT : zk_t) (hA : zk_a) : qy_V ex Γ D as tys zPk2 := qs_chk (qv_cons (zPh0 ex Γ D as tys hT hA) (qv_cons (zPh1 ex Γ D as tys hT hA) qv_nil)) hT hA zPv2
theorem zPh3 (hT : zk_t) (hA : zk_a) : qy_V ex Γ D as tys zPk3 := qs_chk qv_nil hT hA zPv3
theorem zPh4 (hT : zk_t) (hA : zk_a) : qy_V ex Γ D as tys zPk4 := qs_chk qv_nil hT hA zPv4
theorem zPh5 (hT : zk_t) (hA : zk_a) : qy_V ex Γ D as tys zPk5 := qs_chk (qv_cons (zPh3 ex Γ D as tys hT hA) (qv_cons (zPh4 ex Γ D as tys hT hA) qv_nil)) hT hA zPv5
theorem zPh6 (hT : zk_t) (hA : zk_a) : qy_V ex Γ D as tys zPk6 := qs_chk qv_nil hT hA zPv6
theorem zPh7 (hT : zk_t) (hA : zk_a) : qy_V ex Γ D as tys zPk7 := qs_ch2 (qv_cons (zPh2 ex Γ D as tys hT hA) (qv_cons (zPh6 ex Γ D as tys hT hA) qv_nil)) hT hA zPv7
theorem zPh8 (hT : zk_t) (hA : zk_a) (hH : ∀ c ∈ zP_hand, qy_V ex Γ D as tys c) : qy_V ex Γ D as tys zPk8 := hH _ (List.mem_cons_self)
theorem zPh9 (hT : zk_t) (hA : zk_a) : qy_V ex Γ D as tys zPk9 := qs_chk qv_nil hT hA zPv9
theorem zPh10 (hT : zk_t) (hA : zk_a) : qy_V ex Γ D as tys zPk10 := qs_chk (qv_cons (zPh2 ex Γ D as tys hT hA) (qv_cons (zPh9 ex Γ D as tys hT hA) qv_nil)) hT hA zPv10
theorem zPh11 (hT : zk_t) (hA : zk_a) (hH : ∀ c ∈ zP_hand, qy_V ex Γ D as tys c) : qy_V ex Γ D as tys zPk11 := qs_chk (qv_cons (zPh2 ex Γ D as tys hT hA) (qv_cons (zPh5 ex Γ D as tys hT hA) (qv_cons (zPh7 ex Γ D as tys hT hA) (qv_cons (zPh8 ex Γ D as tys hT hA hH) (qv_cons (zPh10 ex Γ D as tys hT hA) qv_nil))))) hT hA zPv11
theorem zPh12 (hT : zk_t) (hA : zk_a) (hH : ∀ c ∈ zP_hand, qy_V ex Γ D as tys c) : qy_V ex Γ D as tys zPk12 := hH _ (List.mem_cons_of_mem _ (List.mem_cons_self))
theorem zPh13 (hT : zk_t) (hA : zk_a) (hH : ∀ c ∈ zP_hand, qy_V ex Γ D as tys c) : qy_V ex Γ D as tys zPk13 := qs_chk (qv_cons (zPh2 ex Γ D as tys hT hA) (qv_cons (zPh5 ex Γ D as tys hT hA) (qv_cons (zPh7 ex Γ D as tys hT hA) (qv_cons (zPh10 ex Γ D as tys hT hA) (qv_cons (zPh12 ex Γ D as tys hT hA hH) qv_nil))))) hT hA zPv13
theorem zPh14 (hT : zk_t) (hA : zk_a) (hH : ∀ c ∈ zP_hand, qy_V ex Γ D as tys c) : qy_V ex Γ D as tys zPk14 := hH _ (List.mem_cons_of_mem _ (List.mem_cons_of_mem _ (List.mem_cons_self)))
theorem zPh15 (hT : zk_t) (hA : zk_a) (hH : ∀ c ∈ zP_hand, qy_V ex Γ D as tys c) : qy_V ex Γ D as tys zPk15 := qs_chk (qv_cons (zPh2 ex Γ D as tys hT hA) (qv_cons (zPh5 ex Γ D as tys hT hA) (qv_cons (zPh7 ex Γ D as tys hT hA) (qv_cons (zPh10 ex Γ D as tys hT hA) (qv_cons (zPh14 ex Γ D as tys hT hA hH) qv_nil))))) hT hA zPv15
theorem zPh16 (hT : zk_t) (hA : zk_a) (hH : ∀ c ∈ zP_hand, qy_V ex Γ D as tys c) : qy_V ex Γ D as tys zPk16 := hH _ (List.mem_cons_of_mem _ (List.mem_cons_of_mem _ (List.mem_cons_of_mem _ (List.mem_cons_self))))
theorem zPh17 (hT : zk_t) (hA : zk_a) (hH : ∀ c ∈ zP_hand, qy_V ex Γ D as tys c) : qy_V ex Γ D as tys zPk17 := qs_chk (qv_cons (zPh2 ex Γ D as tys hT hA) (qv_cons (zPh5 ex Γ D as tys hT hA) (qv_cons (zPh7 ex Γ D as tys hT hA) (qv_cons (zPh10 ex Γ D as tys hT hA) (qv_cons (zPh16 ex Γ D as tys hT hA hH) qv_nil))))) hT hA zPv17
theorem zPh18 (hT : zk_t) (hA : zk_a) : qy_V ex Γ D as tys zPk18 := qs_chk qv_nil hT hA zPv18
theorem zPh19 (hT : zk_t) (hA : zk_a) : qy_V ex Γ D as tys zPk19 := qs_ch2 (qv_cons (zPh5 ex Γ D as tys hT hA) (qv_cons (zPh18 ex Γ D as tys hT hA) qv_nil)) hT hA zPv19
theorem zPh20 (hT : zk_t) (hA : zk_a) : qy_V ex Γ D as tys zPk20 := qs_chk qv_nil hT hA zPv20
theorem zPh21 (hT : zk_t) (hA : zk_a) : qy_V ex Γ D as tys zPk21 := qs_chk (qv_cons (zPh5 ex Γ D as tys hT hA) (qv_cons (zPh20 ex Γ D as tys hT hA) qv_nil)) hT hA zPv21
theorem zPh22 (hT : zk_t) (hA : zk_a) : qy_V ex Γ D as tys zPk22 := qs_chk (qv_cons (zPh5 ex Γ D as tys hT hA) (qv_cons (zPh19 ex Γ D as tys hT hA) (qv_cons (zPh21 ex Γ D as tys hT hA) qv_nil))) hT hA zPv22
theorem zPh23 (hT : zk_t) (hA : zk_a) : qy_V ex Γ D as tys zPk23 := qs_chk (qv_cons (zPh5 ex Γ D as tys hT hA) (qv_cons (zPh19 ex Γ D as tys hT hA) (qv_cons (zPh21 ex Γ D as tys hT hA) qv_nil))) hT hA zPv23
theorem zPh24 (hT : zk_t) (hA : zk_a) : qy_V ex Γ D as tys zPk24 := qs_chk (qv_cons (zPh5 ex Γ D as tys hT hA) (qv_cons (zPh19 ex Γ D as tys hT hA) (qv_cons (zPh21 ex Γ D as tys hT hA) qv_nil))) hT hA zPv24
theorem zPh25 (hT : zk_t) (hA : zk_a) : qy_V ex Γ D as tys zPk25 := qs_chk (qv_cons (zPh5 ex Γ D as tys hT hA) (qv_cons (zPh19 ex Γ D as tys hT hA) (qv_cons (zPh21 ex Γ D as tys hT hA) qv_nil))) hT hA zPv25
theorem zPh26 (hT : zk_t) (hA : zk_a) : qy_V ex Γ D as tys zPk26 := qs_chk qv_nil hT hA zPv26
theorem zPh27 (hT : zk_t) (hA : zk_a) : qy_V ex Γ D as tys zPk27 := qs_chk (qv_cons (zPh26 ex Γ D as tys hT hA) qv_nil) hT hA zPv27
theorem zPh28 (hT : zk_t) (hA : zk_a) : qy_V ex Γ D as tys zPk28 := qs_chk qv_nil hT hA zPv28
theorem zPh29 (hT : zk_t) (hA : zk_a) : qy_V ex Γ D as tys zPk29 := qs_chk (qv_cons (zPh28 ex Γ D as tys hT hA) qv_nil) hT hA zPv29
theorem zPh30 (hT : zk_t) (hA : zk_a) (hH : ∀ c ∈ zP_hand, qy_V ex Γ D as tys c) : qy_V ex Γ D as tys zPk30 := qs_ch2 (qv_cons (zPh2 ex Γ D as tys hT hA) (qv_cons (zPh11 ex Γ D as tys hT hA hH) (qv_cons (zPh13 ex Γ D as tys hT hA hH) (qv_cons (zPh15 ex Γ D as tys hT hA hH) (qv_cons (zPh17 ex Γ D as tys hT hA hH) (qv_cons (zPh22 ex Γ D as tys hT hA) (qv_cons (zPh23 ex Γ D as tys hT hA) (qv_cons (zPh24 ex Γ D as tys hT hA) (qv_cons (zPh25 ex Γ D as tys hT hA) (qv_cons (zPh27 ex Γ D as tys hT hA) (qv_cons (zPh29 ex Γ D as tys hT hA) qv_nil))))))))))) hT hA zPv30
end zPCON
