/-! contracts that hold, by program (wip/p44) -/
def zQ_hand : List qC := [zQk8, zQk12, zQk14, zQk16]
section zQCON
variable (ex : Nat → Value) (Γ : qΓ) (D : va_G) (as : List Nat) (tys : List (ClassId × FieldType))
theorem zQh0 (hT : zk_t) (hA : zk_a) : qy_V ex Γ D as tys zQk0 := qs_chk qv_nil hT hA zQv0
theorem zQh1 (hT : zk_t) (hA : zk_a) : qy_V ex Γ D as tys zQk1 := qs_chk qv_nil hT hA zQv1
theorem zQh2 (hT : zk_t) (hA : zk_a) : qy_V ex Γ D as tys zQk2 := qs_chk (qv_cons (zQh0 ex Γ D as tys hT hA) (qv_cons (zQh1 ex Γ D as tys hT hA) qv_nil)) hT hA zQv2
theorem zQh3 (hT : zk_t) (hA : zk_a) : qy_V ex Γ D as tys zQk3 := qs_chk qv_nil hT hA zQv3
theorem zQh4 (hT : zk_t) (hA : zk_a) : qy_V ex Γ D as tys zQk4 := qs_chk qv_nil hT hA zQv4
theorem zQh5 (hT : zk_t) (hA : zk_a) : qy_V ex Γ D as tys zQk5 := qs_chk (qv_cons (zQh3 ex Γ D as tys hT hA) (qv_cons (zQh4 ex Γ D as tys hT hA) qv_nil)) hT hA zQv5
theorem zQh6 (hT : zk_t) (hA : zk_a) : qy_V ex Γ D as tys zQk6 := qs_chk qv_nil hT hA zQv6
theorem zQh7 (hT : zk_t) (hA : zk_a) : qy_V ex Γ D as tys zQk7 := qs_ch2 (qv_cons (zQh2 ex Γ D as tys hT hA) (qv_cons (zQh6 ex Γ D as tys hT hA) qv_nil)) hT hA zQv7
theorem zQh8 (hT : zk_t) (hA : zk_a) (hH : ∀ c ∈ zQ_hand, qy_V ex Γ D as tys c) : qy_V ex Γ D as tys zQk8 := hH _ (List.mem_cons_self)
theorem zQh9 (hT : zk_t) (hA : zk_a) : qy_V ex Γ D as tys zQk9 := qs_chk qv_nil hT hA zQv9
theorem zQh10 (hT : zk_t) (hA : zk_a) : qy_V ex Γ D as tys zQk10 := qs_chk (qv_cons (zQh2 ex Γ D as tys hT hA) (qv_cons (zQh9 ex Γ D as tys hT hA) qv_nil)) hT hA zQv10
theorem zQh11 (hT : zk_t) (hA : zk_a) (hH : ∀ c ∈ zQ_hand, qy_V ex Γ D as tys c) : qy_V ex Γ D as tys zQk11 := qs_chk (qv_cons (zQh2 ex Γ D as tys hT hA) (qv_cons (zQh5 ex Γ D as tys hT hA) (qv_cons (zQh7 ex Γ D as tys hT hA) (qv_cons (zQh8 ex Γ D as tys hT hA hH) (qv_cons (zQh10 ex Γ D as tys hT hA) qv_nil))))) hT hA zQv11
theorem zQh12 (hT : zk_t) (hA : zk_a) (hH : ∀ c ∈ zQ_hand, qy_V ex Γ D as tys c) : qy_V ex Γ D as tys zQk12 := hH _ (List.mem_cons_of_mem _ (List.mem_cons_self))
theorem zQh13 (hT : zk_t) (hA : zk_a) (hH : ∀ c ∈ zQ_hand, qy_V ex Γ D as tys c) : qy_V ex Γ D as tys zQk13 := qs_chk (qv_cons (zQh2 ex Γ D as tys hT hA) (qv_cons (zQh5 ex Γ D as tys hT hA) (qv_cons (zQh7 ex Γ D as tys hT hA) (qv_cons (zQh10 ex Γ D as tys hT hA) (qv_cons (zQh12 ex Γ D as tys hT hA hH) qv_nil))))) hT hA zQv13
theorem zQh14 (hT : zk_t) (hA : zk_a) (hH : ∀ c ∈ zQ_hand, qy_V ex Γ D as tys c) : qy_V ex Γ D as tys zQk14 := hH _ (List.mem_cons_of_mem _ (List.mem_cons_of_mem _ (List.mem_cons_self)))
theorem zQh15 (hT : zk_t) (hA : zk_a) (hH : ∀ c ∈ zQ_hand, qy_V ex Γ D as tys c) : qy_V ex Γ D as tys zQk15 := qs_chk (qv_cons (zQh2 ex Γ D as tys hT hA) (qv_cons (zQh5 ex Γ D as tys hT hA) (qv_cons (zQh7 ex Γ D as tys hT hA) (qv_cons (zQh10 ex Γ D as tys hT hA) (qv_cons (zQh14 ex Γ D as tys hT hA hH) qv_nil))))) hT hA zQv15
theorem zQh16 (hT : zk_t) (hA : zk_a) (hH : ∀ c ∈ zQ_hand, qy_V ex Γ D as tys c) : qy_V ex Γ D as tys zQk16 := hH _ (List.mem_cons_of_mem _ (List.mem_cons_of_mem _ (List.mem_cons_of_mem _ (List.mem_cons_self))))
theorem zQh17 (hT : zk_t) (hA : zk_a) (hH : ∀ c ∈ zQ_hand, qy_V ex Γ D as tys c) : qy_V ex Γ D as tys zQk17 := qs_chk (qv_cons (zQh2 ex Γ D as tys hT hA) (qv_cons (zQh5 ex Γ D as tys hT hA) (qv_cons (zQh7 ex Γ D as tys hT hA) (qv_cons (zQh10 ex Γ D as tys hT hA) (qv_cons (zQh16 ex Γ D as tys hT hA hH) qv_nil))))) hT hA zQv17
theorem zQh18 (hT : zk_t) (hA : zk_a) : qy_V ex Γ D as tys zQk18 := qs_chk qv_nil hT hA zQv18
theorem zQh19 (hT : zk_t) (hA : zk_a) : qy_V ex Γ D as tys zQk19 := qs_ch2 (qv_cons (zQh5 ex Γ D as tys hT hA) (qv_cons (zQh18 ex Γ D as tys hT hA) qv_nil)) hT hA zQv19
theorem zQh20 (hT : zk_t) (hA : zk_a) : qy_V ex Γ D as tys zQk20 := qs_chk qv_nil hT hA zQv20
theorem zQh21 (hT : zk_t) (hA : zk_a) : qy_V ex Γ D as tys zQk21 := qs_chk (qv_cons (zQh5 ex Γ D as tys hT hA) (qv_cons (zQh20 ex Γ D as tys hT hA) qv_nil)) hT hA zQv21
theorem zQh22 (hT : zk_t) (hA : zk_a) : qy_V ex Γ D as tys zQk22 := qs_chk (qv_cons (zQh5 ex Γ D as tys hT hA) (qv_cons (zQh19 ex Γ D as tys hT hA) (qv_cons (zQh21 ex Γ D as tys hT hA) qv_nil))) hT hA zQv22
theorem zQh23 (hT : zk_t) (hA : zk_a) : qy_V ex Γ D as tys zQk23 := qs_chk (qv_cons (zQh5 ex Γ D as tys hT hA) (qv_cons (zQh19 ex Γ D as tys hT hA) (qv_cons (zQh21 ex Γ D as tys hT hA) qv_nil))) hT hA zQv23
theorem zQh24 (hT : zk_t) (hA : zk_a) : qy_V ex Γ D as tys zQk24 := qs_chk (qv_cons (zQh5 ex Γ D as tys hT hA) (qv_cons (zQh19 ex Γ D as tys hT hA) (qv_cons (zQh21 ex Γ D as tys hT hA) qv_nil))) hT hA zQv24
theorem zQh25 (hT : zk_t) (hA : zk_a) : qy_V ex Γ D as tys zQk25 := qs_chk (qv_cons (zQh5 ex Γ D as tys hT hA) (qv_cons (zQh19 ex Γ D as tys hT hA) (qv_cons (zQh21 ex Γ D as tys hT hA) qv_nil))) hT hA zQv25
theorem zQh26 (hT : zk_t) (hA : zk_a) : qy_V ex Γ D as tys zQk26 := qs_chk qv_nil hT hA zQv26
theorem zQh27 (hT : zk_t) (hA : zk_a) : qy_V ex Γ D as tys zQk27 := qs_chk (qv_cons (zQh26 ex Γ D as tys hT hA) qv_nil) hT hA zQv27
theorem zQh28 (hT : zk_t) (hA : zk_a) : qy_V ex Γ D as tys zQk28 := qs_chk qv_nil hT hA zQv28
theorem zQh29 (hT : zk_t) (hA : zk_a) : qy_V ex Γ D as tys zQk29 := qs_chk (qv_cons (zQh28 ex Γ D as tys hT hA) qv_nil) hT hA zQv29
theorem zQh30 (hT : zk_t) (hA : zk_a) (hH : ∀ c ∈ zQ_hand, qy_V ex Γ D as tys c) : qy_V ex Γ D as tys zQk30 := qs_ch2 (qv_cons (zQh2 ex Γ D as tys hT hA) (qv_cons (zQh11 ex Γ D as tys hT hA hH) (qv_cons (zQh13 ex Γ D as tys hT hA hH) (qv_cons (zQh15 ex Γ D as tys hT hA hH) (qv_cons (zQh17 ex Γ D as tys hT hA hH) (qv_cons (zQh22 ex Γ D as tys hT hA) (qv_cons (zQh23 ex Γ D as tys hT hA) (qv_cons (zQh24 ex Γ D as tys hT hA) (qv_cons (zQh25 ex Γ D as tys hT hA) (qv_cons (zQh27 ex Γ D as tys hT hA) (qv_cons (zQh29 ex Γ D as tys hT hA) qv_nil))))))))))) hT hA zQv30
end zQCON
