/-! contracts that hold, by program (wip/p44) -/
section zUCON
variable (ex : Nat → Value) (Γ : qΓ) (D : va_G) (as : List Nat) (tys : List (ClassId × FieldType))
theorem zUh0 (hT : zk_t) (hA : zk_a) : qy_V ex Γ D as tys zUk0 := qs_chk qv_nil hT hA zUv0
theorem zUh3 (hT : zk_t) (hA : zk_a) : qy_V ex Γ D as tys zUk3 := qs_chk qv_nil hT hA zUv3
theorem zUh4 (hT : zk_t) (hA : zk_a) : qy_V ex Γ D as tys zUk4 := qs_chk qv_nil hT hA zUv4
theorem zUh5 (hT : zk_t) (hA : zk_a) (h2 : qy_V ex Γ D as tys zUk2) : qy_V ex Γ D as tys zUk5 := qs_chk (qv_cons (zUh0 ex Γ D as tys hT hA) (qv_cons h2 (qv_cons (zUh3 ex Γ D as tys hT hA) (qv_cons (zUh4 ex Γ D as tys hT hA) qv_nil)))) hT hA zUv5
theorem zUh8 (hT : zk_t) (hA : zk_a) : qy_V ex Γ D as tys zUk8 := qs_chk qv_nil hT hA zUv8
theorem zUh9 (hT : zk_t) (hA : zk_a) (h7 : qy_V ex Γ D as tys zUk7) : qy_V ex Γ D as tys zUk9 := qs_chk (qv_cons (zUh0 ex Γ D as tys hT hA) (qv_cons (zUh3 ex Γ D as tys hT hA) (qv_cons h7 (qv_cons (zUh8 ex Γ D as tys hT hA) qv_nil)))) hT hA zUv9
end zUCON
