/-! what every method does, as the law sees it, by program (wip/p44/emlawm.py) -/
section zRCON2
variable (ex : Nat → Value) (Γ : qΓ) (D : va_G) (as : List Nat) (tys : List (ClassId × FieldType))
theorem zRq0 (hT : zk_t) (hA : zk_a) : qy_V ex Γ D as tys zRk0 := qs_chk qv_nil hT hA zRv0
theorem zRq1 (hT : zk_t) (hA : zk_a) : qy_V ex Γ D as tys zRk1 := qs_chk qv_nil hT hA zRv1
theorem zRq2 (hT : zk_t) (hA : zk_a) : qy_V ex Γ D as tys zRk2 := qs_chk (qv_cons (zRq0 ex Γ D as tys hT hA) (qv_cons (zRq1 ex Γ D as tys hT hA) qv_nil)) hT hA zRv2
theorem zRq3 (hT : zk_t) (hA : zk_a) : qy_V ex Γ D as tys zRk3 := qs_chk qv_nil hT hA zRv3
theorem zRq4 (hT : zk_t) (hA : zk_a) : qy_V ex Γ D as tys zRk4 := qs_chk qv_nil hT hA zRv4
theorem zRq7 (hT : zk_t) (hA : zk_a) : qy_V ex Γ D as tys zRk7 := qs_chk qv_nil hT hA zRv7
theorem zRq8 (hT : zk_t) (hA : zk_a) : qy_V ex Γ D as tys zRk8 := qs_chk qv_nil hT hA zRv8
theorem zRq9 (hT : zk_t) (hA : zk_a) (h6 : qy_V ex Γ D as tys zRk6) : qy_V ex Γ D as tys zRk9 := qs_chk (qv_cons (zRq4 ex Γ D as tys hT hA) (qv_cons h6 (qv_cons (zRq7 ex Γ D as tys hT hA) (qv_cons (zRq8 ex Γ D as tys hT hA) qv_nil)))) hT hA zRv9
theorem zRq10 (hT : zk_t) (hA : zk_a) (h6 : qy_V ex Γ D as tys zRk6) : qy_V ex Γ D as tys zRk10 := qs_chk (qv_cons (zRq3 ex Γ D as tys hT hA) (qv_cons (zRq9 ex Γ D as tys hT hA h6) qv_nil)) hT hA zRv10
theorem zRq11 (hT : zk_t) (hA : zk_a) : qy_V ex Γ D as tys zRk11 := qs_chk (qv_cons (zRq3 ex Γ D as tys hT hA) qv_nil) hT hA zRv11
theorem zRq12 (hT : zk_t) (hA : zk_a) (h6 : qy_V ex Γ D as tys zRk6) : qy_V ex Γ D as tys zRk12 := qs_chk (qv_cons (zRq10 ex Γ D as tys hT hA h6) (qv_cons (zRq11 ex Γ D as tys hT hA) qv_nil)) hT hA zRv12
theorem zRq13 (hT : zk_t) (hA : zk_a) : qy_V ex Γ D as tys zRk13 := qs_chk qv_nil hT hA zRv13
theorem zRq14 (hT : zk_t) (hA : zk_a) : qy_V ex Γ D as tys zRk14 := qs_chk qv_nil hT hA zRv14
theorem zRq15 (hT : zk_t) (hA : zk_a) (h6 : qy_V ex Γ D as tys zRk6) : qy_V ex Γ D as tys zRk15 := qs_chk (qv_cons (zRq1 ex Γ D as tys hT hA) (qv_cons h6 (qv_cons (zRq14 ex Γ D as tys hT hA) qv_nil))) hT hA zRv15
theorem zRq16 (hT : zk_t) (hA : zk_a) (h6 : qy_V ex Γ D as tys zRk6) : qy_V ex Γ D as tys zRk16 := qs_chk (qv_cons (zRq1 ex Γ D as tys hT hA) (qv_cons h6 qv_nil)) hT hA zRv16
theorem zRq17 (hT : zk_t) (hA : zk_a) : qy_V ex Γ D as tys zRk17 := qs_chk (qv_cons (zRq14 ex Γ D as tys hT hA) qv_nil) hT hA zRv17
theorem zRq18 (hT : zk_t) (hA : zk_a) (h6 : qy_V ex Γ D as tys zRk6) : qy_V ex Γ D as tys zRk18 := qs_chk (qv_cons (zRq1 ex Γ D as tys hT hA) (qv_cons h6 qv_nil)) hT hA zRv18
theorem zRq20 (hT : zk_t) (hA : zk_a) (h6 : qy_V ex Γ D as tys zRk6) (h19 : qy_V ex Γ D as tys zRk19) : qy_V ex Γ D as tys zRk20 := qs_chk (qv_cons (zRq18 ex Γ D as tys hT hA h6) (qv_cons h19 qv_nil)) hT hA zRv20
theorem zRq21 (hT : zk_t) (hA : zk_a) : qy_V ex Γ D as tys zRk21 := qs_chk (qv_cons (zRq1 ex Γ D as tys hT hA) qv_nil) hT hA zRv21
theorem zRq22 (hT : zk_t) (hA : zk_a) : qy_V ex Γ D as tys zRk22 := qs_chk qv_nil hT hA zRv22
theorem zRq23 (hT : zk_t) (hA : zk_a) (h6 : qy_V ex Γ D as tys zRk6) : qy_V ex Γ D as tys zRk23 := qs_chk (qv_cons (zRq1 ex Γ D as tys hT hA) (qv_cons h6 qv_nil)) hT hA zRv23
theorem zRq24 (hT : zk_t) (hA : zk_a) : qy_V ex Γ D as tys zRk24 := qs_chk qv_nil hT hA zRv24
theorem zRq25 (hT : zk_t) (hA : zk_a) : qy_V ex Γ D as tys zRk25 := qs_chk qv_nil hT hA zRv25
theorem zRq26 (hT : zk_t) (hA : zk_a) (h19 : qy_V ex Γ D as tys zRk19) : qy_V ex Γ D as tys zRk26 := qs_chk (qv_cons h19 qv_nil) hT hA zRv26
theorem zRq27 (hT : zk_t) (hA : zk_a) : qy_V ex Γ D as tys zRk27 := qs_chk (qv_cons (zRq14 ex Γ D as tys hT hA) qv_nil) hT hA zRv27
theorem zRq28 (hT : zk_t) (hA : zk_a) (h6 : qy_V ex Γ D as tys zRk6) : qy_V ex Γ D as tys zRk28 := qs_chk (qv_cons (zRq1 ex Γ D as tys hT hA) (qv_cons h6 qv_nil)) hT hA zRv28
theorem zRq29 (hT : zk_t) (hA : zk_a) (h6 : qy_V ex Γ D as tys zRk6) : qy_V ex Γ D as tys zRk29 := qs_chk (qv_cons (zRq1 ex Γ D as tys hT hA) (qv_cons h6 (qv_cons (zRq14 ex Γ D as tys hT hA) qv_nil))) hT hA zRv29
theorem zRq30 (hT : zk_t) (hA : zk_a) (h6 : qy_V ex Γ D as tys zRk6) (h19 : qy_V ex Γ D as tys zRk19) : qy_V ex Γ D as tys zRk30 := qs_chk (qv_cons h19 (qv_cons (zRq29 ex Γ D as tys hT hA h6) qv_nil)) hT hA zRv30
theorem zRq31 (hT : zk_t) (hA : zk_a) : qy_V ex Γ D as tys zRk31 := qs_chk qv_nil hT hA zRv31
theorem zRq32 (hT : zk_t) (hA : zk_a) : qy_V ex Γ D as tys zRk32 := qs_chk qv_nil hT hA zRv32
theorem zRq33 (hT : zk_t) (hA : zk_a) (h6 : qy_V ex Γ D as tys zRk6) : qy_V ex Γ D as tys zRk33 := qs_chk (qv_cons (zRq4 ex Γ D as tys hT hA) (qv_cons (zRq7 ex Γ D as tys hT hA) (qv_cons (zRq18 ex Γ D as tys hT hA h6) qv_nil))) hT hA zRv33
theorem zRq34 (hT : zk_t) (hA : zk_a) : qy_V ex Γ D as tys zRk34 := qs_chk qv_nil hT hA zRv34
theorem zRq35 (hT : zk_t) (hA : zk_a) : qy_V ex Γ D as tys zRk35 := qs_chk (qv_cons (zRq1 ex Γ D as tys hT hA) qv_nil) hT hA zRv35
theorem zRq36 (hT : zk_t) (hA : zk_a) : qy_V ex Γ D as tys zRk36 := qs_chk qv_nil hT hA zRv36
theorem zRq37 (hT : zk_t) (hA : zk_a) (h19 : qy_V ex Γ D as tys zRk19) : qy_V ex Γ D as tys zRk37 := qs_chk (qv_cons (zRq14 ex Γ D as tys hT hA) (qv_cons h19 (qv_cons (zRq36 ex Γ D as tys hT hA) qv_nil))) hT hA zRv37
theorem zRq38 (hT : zk_t) (hA : zk_a) (h6 : qy_V ex Γ D as tys zRk6) : qy_V ex Γ D as tys zRk38 := qs_chk (qv_cons (zRq1 ex Γ D as tys hT hA) (qv_cons h6 qv_nil)) hT hA zRv38
theorem zRq39 (hT : zk_t) (hA : zk_a) : qy_V ex Γ D as tys zRk39 := qs_ch2 qv_nil hT hA zRv39
theorem zRq40 (hT : zk_t) (hA : zk_a) : qy_V ex Γ D as tys zRk40 := qs_chk (qv_cons (zRq39 ex Γ D as tys hT hA) qv_nil) hT hA zRv40
theorem zRq41 (hT : zk_t) (hA : zk_a) (h6 : qy_V ex Γ D as tys zRk6) : qy_V ex Γ D as tys zRk41 := qs_chk (qv_cons (zRq4 ex Γ D as tys hT hA) (qv_cons (zRq7 ex Γ D as tys hT hA) (qv_cons (zRq29 ex Γ D as tys hT hA h6) qv_nil))) hT hA zRv41
theorem zRq42 (hT : zk_t) (hA : zk_a) : qy_V ex Γ D as tys zRk42 := qs_chk qv_nil hT hA zRv42
theorem zRq43 (hT : zk_t) (hA : zk_a) : qy_V ex Γ D as tys zRk43 := qs_chk (qv_cons (zRq42 ex Γ D as tys hT hA) qv_nil) hT hA zRv43
theorem zRq44 (hT : zk_t) (hA : zk_a) : qy_V ex Γ D as tys zRk44 := qs_chk qv_nil hT hA zRv44
theorem zRq45 (hT : zk_t) (hA : zk_a) : qy_V ex Γ D as tys zRk45 := qs_chk qv_nil hT hA zRv45
theorem zRq46 (hT : zk_t) (hA : zk_a) : qy_V ex Γ D as tys zRk46 := qs_chk qv_nil hT hA zRv46
theorem zRq47 (hT : zk_t) (hA : zk_a) (h6 : qy_V ex Γ D as tys zRk6) : qy_V ex Γ D as tys zRk47 := qs_chk (qv_cons (zRq1 ex Γ D as tys hT hA) (qv_cons h6 (qv_cons (zRq46 ex Γ D as tys hT hA) qv_nil))) hT hA zRv47
theorem zRq48 (hT : zk_t) (hA : zk_a) (h6 : qy_V ex Γ D as tys zRk6) : qy_V ex Γ D as tys zRk48 := qs_ch2 (qv_cons (zRq45 ex Γ D as tys hT hA) (qv_cons (zRq47 ex Γ D as tys hT hA h6) qv_nil)) hT hA zRv48
theorem zRq49 (hT : zk_t) (hA : zk_a) (h19 : qy_V ex Γ D as tys zRk19) : qy_V ex Γ D as tys zRk49 := qs_chk (qv_cons h19 qv_nil) hT hA zRv49
theorem zRq50 (hT : zk_t) (hA : zk_a) (h6 : qy_V ex Γ D as tys zRk6) : qy_V ex Γ D as tys zRk50 := qs_chk (qv_cons (zRq1 ex Γ D as tys hT hA) (qv_cons h6 (qv_cons (zRq14 ex Γ D as tys hT hA) qv_nil))) hT hA zRv50
theorem zRq51 (hT : zk_t) (hA : zk_a) (h6 : qy_V ex Γ D as tys zRk6) : qy_V ex Γ D as tys zRk51 := qs_chk (qv_cons (zRq14 ex Γ D as tys hT hA) (qv_cons (zRq27 ex Γ D as tys hT hA) (qv_cons (zRq50 ex Γ D as tys hT hA h6) qv_nil))) hT hA zRv51
theorem zRq52 (hT : zk_t) (hA : zk_a) : qy_V ex Γ D as tys zRk52 := qs_chk (qv_cons (zRq14 ex Γ D as tys hT hA) qv_nil) hT hA zRv52
theorem zRq53 (hT : zk_t) (hA : zk_a) : qy_V ex Γ D as tys zRk53 := qs_chk qv_nil hT hA zRv53
theorem zRq54 (hT : zk_t) (hA : zk_a) (h6 : qy_V ex Γ D as tys zRk6) (h19 : qy_V ex Γ D as tys zRk19) : qy_V ex Γ D as tys zRk54 := qs_chk (qv_cons (zRq1 ex Γ D as tys hT hA) (qv_cons h6 (qv_cons (zRq14 ex Γ D as tys hT hA) (qv_cons h19 qv_nil)))) hT hA zRv54
theorem zRq55 (hT : zk_t) (hA : zk_a) : qy_V ex Γ D as tys zRk55 := qs_chk qv_nil hT hA zRv55
theorem zRq56 (hT : zk_t) (hA : zk_a) (h6 : qy_V ex Γ D as tys zRk6) : qy_V ex Γ D as tys zRk56 := qs_chk (qv_cons (zRq0 ex Γ D as tys hT hA) (qv_cons (zRq4 ex Γ D as tys hT hA) (qv_cons (zRq7 ex Γ D as tys hT hA) (qv_cons (zRq29 ex Γ D as tys hT hA h6) qv_nil)))) hT hA zRv56
theorem zRq57 (hT : zk_t) (hA : zk_a) : qy_V ex Γ D as tys zRk57 := qs_chk qv_nil hT hA zRv57
theorem zRq58 (hT : zk_t) (hA : zk_a) : qy_V ex Γ D as tys zRk58 := qs_chk qv_nil hT hA zRv58
theorem zRq59 (hT : zk_t) (hA : zk_a) (h6 : qy_V ex Γ D as tys zRk6) : qy_V ex Γ D as tys zRk59 := qs_chk (qv_cons (zRq4 ex Γ D as tys hT hA) (qv_cons (zRq7 ex Γ D as tys hT hA) (qv_cons (zRq18 ex Γ D as tys hT hA h6) qv_nil))) hT hA zRv59
theorem zRq60 (hT : zk_t) (hA : zk_a) : qy_V ex Γ D as tys zRk60 := qs_chk (qv_cons (zRq42 ex Γ D as tys hT hA) qv_nil) hT hA zRv60
theorem zRq61 (hT : zk_t) (hA : zk_a) : qy_V ex Γ D as tys zRk61 := qs_chk qv_nil hT hA zRv61
theorem zRq62 (hT : zk_t) (hA : zk_a) : qy_V ex Γ D as tys zRk62 := qs_chk qv_nil hT hA zRv62
theorem zRq63 (hT : zk_t) (hA : zk_a) (h6 : qy_V ex Γ D as tys zRk6) : qy_V ex Γ D as tys zRk63 := qs_chk (qv_cons (zRq4 ex Γ D as tys hT hA) (qv_cons (zRq7 ex Γ D as tys hT hA) (qv_cons (zRq29 ex Γ D as tys hT hA h6) qv_nil))) hT hA zRv63
theorem zRq64 (hT : zk_t) (hA : zk_a) : qy_V ex Γ D as tys zRk64 := qs_chk qv_nil hT hA zRv64
theorem zRq65 (hT : zk_t) (hA : zk_a) : qy_V ex Γ D as tys zRk65 := qs_chk qv_nil hT hA zRv65
theorem zRq66 (hT : zk_t) (hA : zk_a) : qy_V ex Γ D as tys zRk66 := qs_chk (qv_cons (zRq64 ex Γ D as tys hT hA) (qv_cons (zRq65 ex Γ D as tys hT hA) qv_nil)) hT hA zRv66
theorem zRq69 (hT : zk_t) (hA : zk_a) : qy_V ex Γ D as tys zRk69 := qs_chk qv_nil hT hA zRv69
theorem zRq70 (hT : zk_t) (hA : zk_a) (h68 : qy_V ex Γ D as tys zRk68) : qy_V ex Γ D as tys zRk70 := qs_chk (qv_cons (zRq4 ex Γ D as tys hT hA) (qv_cons (zRq7 ex Γ D as tys hT hA) (qv_cons h68 (qv_cons (zRq69 ex Γ D as tys hT hA) qv_nil)))) hT hA zRv70
theorem zRq71 (hT : zk_t) (hA : zk_a) (h68 : qy_V ex Γ D as tys zRk68) : qy_V ex Γ D as tys zRk71 := qs_chk (qv_cons (zRq3 ex Γ D as tys hT hA) (qv_cons (zRq70 ex Γ D as tys hT hA h68) qv_nil)) hT hA zRv71
theorem zRq72 (hT : zk_t) (hA : zk_a) (h68 : qy_V ex Γ D as tys zRk68) : qy_V ex Γ D as tys zRk72 := qs_chk (qv_cons (zRq11 ex Γ D as tys hT hA) (qv_cons (zRq71 ex Γ D as tys hT hA h68) qv_nil)) hT hA zRv72
theorem zRq73 (hT : zk_t) (hA : zk_a) : qy_V ex Γ D as tys zRk73 := qs_chk qv_nil hT hA zRv73
theorem zRq74 (hT : zk_t) (hA : zk_a) : qy_V ex Γ D as tys zRk74 := qs_chk qv_nil hT hA zRv74
theorem zRq75 (hT : zk_t) (hA : zk_a) (h68 : qy_V ex Γ D as tys zRk68) : qy_V ex Γ D as tys zRk75 := qs_chk (qv_cons (zRq65 ex Γ D as tys hT hA) (qv_cons h68 (qv_cons (zRq74 ex Γ D as tys hT hA) qv_nil))) hT hA zRv75
theorem zRq76 (hT : zk_t) (hA : zk_a) (h68 : qy_V ex Γ D as tys zRk68) : qy_V ex Γ D as tys zRk76 := qs_chk (qv_cons (zRq65 ex Γ D as tys hT hA) (qv_cons h68 qv_nil)) hT hA zRv76
theorem zRq77 (hT : zk_t) (hA : zk_a) : qy_V ex Γ D as tys zRk77 := qs_chk (qv_cons (zRq74 ex Γ D as tys hT hA) qv_nil) hT hA zRv77
theorem zRq78 (hT : zk_t) (hA : zk_a) (h68 : qy_V ex Γ D as tys zRk68) : qy_V ex Γ D as tys zRk78 := qs_chk (qv_cons (zRq65 ex Γ D as tys hT hA) (qv_cons h68 qv_nil)) hT hA zRv78
theorem zRq79 (hT : zk_t) (hA : zk_a) (h19 : qy_V ex Γ D as tys zRk19) (h68 : qy_V ex Γ D as tys zRk68) : qy_V ex Γ D as tys zRk79 := qs_chk (qv_cons h19 (qv_cons (zRq78 ex Γ D as tys hT hA h68) qv_nil)) hT hA zRv79
theorem zRq80 (hT : zk_t) (hA : zk_a) : qy_V ex Γ D as tys zRk80 := qs_chk (qv_cons (zRq65 ex Γ D as tys hT hA) qv_nil) hT hA zRv80
theorem zRq81 (hT : zk_t) (hA : zk_a) : qy_V ex Γ D as tys zRk81 := qs_chk qv_nil hT hA zRv81
theorem zRq82 (hT : zk_t) (hA : zk_a) (h68 : qy_V ex Γ D as tys zRk68) : qy_V ex Γ D as tys zRk82 := qs_chk (qv_cons (zRq65 ex Γ D as tys hT hA) (qv_cons h68 qv_nil)) hT hA zRv82
theorem zRq83 (hT : zk_t) (hA : zk_a) : qy_V ex Γ D as tys zRk83 := qs_chk qv_nil hT hA zRv83
theorem zRq84 (hT : zk_t) (hA : zk_a) : qy_V ex Γ D as tys zRk84 := qs_chk qv_nil hT hA zRv84
theorem zRq85 (hT : zk_t) (hA : zk_a) (h19 : qy_V ex Γ D as tys zRk19) : qy_V ex Γ D as tys zRk85 := qs_chk (qv_cons h19 qv_nil) hT hA zRv85
theorem zRq86 (hT : zk_t) (hA : zk_a) : qy_V ex Γ D as tys zRk86 := qs_chk (qv_cons (zRq74 ex Γ D as tys hT hA) qv_nil) hT hA zRv86
theorem zRq87 (hT : zk_t) (hA : zk_a) (h68 : qy_V ex Γ D as tys zRk68) : qy_V ex Γ D as tys zRk87 := qs_chk (qv_cons (zRq65 ex Γ D as tys hT hA) (qv_cons h68 qv_nil)) hT hA zRv87
theorem zRq88 (hT : zk_t) (hA : zk_a) (h68 : qy_V ex Γ D as tys zRk68) : qy_V ex Γ D as tys zRk88 := qs_chk (qv_cons (zRq65 ex Γ D as tys hT hA) (qv_cons h68 (qv_cons (zRq74 ex Γ D as tys hT hA) qv_nil))) hT hA zRv88
theorem zRq89 (hT : zk_t) (hA : zk_a) (h19 : qy_V ex Γ D as tys zRk19) (h68 : qy_V ex Γ D as tys zRk68) : qy_V ex Γ D as tys zRk89 := qs_chk (qv_cons h19 (qv_cons (zRq88 ex Γ D as tys hT hA h68) qv_nil)) hT hA zRv89
theorem zRq90 (hT : zk_t) (hA : zk_a) : qy_V ex Γ D as tys zRk90 := qs_chk qv_nil hT hA zRv90
theorem zRq91 (hT : zk_t) (hA : zk_a) : qy_V ex Γ D as tys zRk91 := qs_chk qv_nil hT hA zRv91
theorem zRq92 (hT : zk_t) (hA : zk_a) (h68 : qy_V ex Γ D as tys zRk68) : qy_V ex Γ D as tys zRk92 := qs_chk (qv_cons (zRq4 ex Γ D as tys hT hA) (qv_cons (zRq7 ex Γ D as tys hT hA) (qv_cons (zRq78 ex Γ D as tys hT hA h68) qv_nil))) hT hA zRv92
theorem zRq93 (hT : zk_t) (hA : zk_a) : qy_V ex Γ D as tys zRk93 := qs_chk qv_nil hT hA zRv93
theorem zRq94 (hT : zk_t) (hA : zk_a) : qy_V ex Γ D as tys zRk94 := qs_chk (qv_cons (zRq65 ex Γ D as tys hT hA) qv_nil) hT hA zRv94
theorem zRq95 (hT : zk_t) (hA : zk_a) (h19 : qy_V ex Γ D as tys zRk19) : qy_V ex Γ D as tys zRk95 := qs_chk (qv_cons h19 (qv_cons (zRq36 ex Γ D as tys hT hA) (qv_cons (zRq74 ex Γ D as tys hT hA) qv_nil))) hT hA zRv95
theorem zRq96 (hT : zk_t) (hA : zk_a) (h68 : qy_V ex Γ D as tys zRk68) : qy_V ex Γ D as tys zRk96 := qs_chk (qv_cons (zRq65 ex Γ D as tys hT hA) (qv_cons h68 qv_nil)) hT hA zRv96
theorem zRq97 (hT : zk_t) (hA : zk_a) : qy_V ex Γ D as tys zRk97 := qs_chk (qv_cons (zRq39 ex Γ D as tys hT hA) qv_nil) hT hA zRv97
theorem zRq98 (hT : zk_t) (hA : zk_a) (h68 : qy_V ex Γ D as tys zRk68) : qy_V ex Γ D as tys zRk98 := qs_chk (qv_cons (zRq4 ex Γ D as tys hT hA) (qv_cons (zRq7 ex Γ D as tys hT hA) (qv_cons (zRq88 ex Γ D as tys hT hA h68) qv_nil))) hT hA zRv98
theorem zRq99 (hT : zk_t) (hA : zk_a) : qy_V ex Γ D as tys zRk99 := qs_chk (qv_cons (zRq42 ex Γ D as tys hT hA) qv_nil) hT hA zRv99
theorem zRq100 (hT : zk_t) (hA : zk_a) : qy_V ex Γ D as tys zRk100 := qs_chk qv_nil hT hA zRv100
theorem zRq101 (hT : zk_t) (hA : zk_a) : qy_V ex Γ D as tys zRk101 := qs_chk qv_nil hT hA zRv101
theorem zRq102 (hT : zk_t) (hA : zk_a) : qy_V ex Γ D as tys zRk102 := qs_chk qv_nil hT hA zRv102
theorem zRq103 (hT : zk_t) (hA : zk_a) (h68 : qy_V ex Γ D as tys zRk68) : qy_V ex Γ D as tys zRk103 := qs_chk (qv_cons (zRq65 ex Γ D as tys hT hA) (qv_cons h68 (qv_cons (zRq102 ex Γ D as tys hT hA) qv_nil))) hT hA zRv103
theorem zRq104 (hT : zk_t) (hA : zk_a) (h68 : qy_V ex Γ D as tys zRk68) : qy_V ex Γ D as tys zRk104 := qs_ch2 (qv_cons (zRq101 ex Γ D as tys hT hA) (qv_cons (zRq103 ex Γ D as tys hT hA h68) qv_nil)) hT hA zRv104
theorem zRq105 (hT : zk_t) (hA : zk_a) (h19 : qy_V ex Γ D as tys zRk19) : qy_V ex Γ D as tys zRk105 := qs_chk (qv_cons h19 qv_nil) hT hA zRv105
theorem zRq106 (hT : zk_t) (hA : zk_a) (h68 : qy_V ex Γ D as tys zRk68) : qy_V ex Γ D as tys zRk106 := qs_chk (qv_cons (zRq65 ex Γ D as tys hT hA) (qv_cons h68 (qv_cons (zRq74 ex Γ D as tys hT hA) qv_nil))) hT hA zRv106
theorem zRq107 (hT : zk_t) (hA : zk_a) (h68 : qy_V ex Γ D as tys zRk68) : qy_V ex Γ D as tys zRk107 := qs_chk (qv_cons (zRq74 ex Γ D as tys hT hA) (qv_cons (zRq86 ex Γ D as tys hT hA) (qv_cons (zRq106 ex Γ D as tys hT hA h68) qv_nil))) hT hA zRv107
theorem zRq108 (hT : zk_t) (hA : zk_a) : qy_V ex Γ D as tys zRk108 := qs_chk (qv_cons (zRq74 ex Γ D as tys hT hA) qv_nil) hT hA zRv108
theorem zRq109 (hT : zk_t) (hA : zk_a) : qy_V ex Γ D as tys zRk109 := qs_chk qv_nil hT hA zRv109
theorem zRq110 (hT : zk_t) (hA : zk_a) (h19 : qy_V ex Γ D as tys zRk19) (h68 : qy_V ex Γ D as tys zRk68) : qy_V ex Γ D as tys zRk110 := qs_chk (qv_cons h19 (qv_cons (zRq65 ex Γ D as tys hT hA) (qv_cons h68 (qv_cons (zRq74 ex Γ D as tys hT hA) qv_nil)))) hT hA zRv110
theorem zRq111 (hT : zk_t) (hA : zk_a) : qy_V ex Γ D as tys zRk111 := qs_chk qv_nil hT hA zRv111
theorem zRq112 (hT : zk_t) (hA : zk_a) (h68 : qy_V ex Γ D as tys zRk68) : qy_V ex Γ D as tys zRk112 := qs_chk (qv_cons (zRq4 ex Γ D as tys hT hA) (qv_cons (zRq7 ex Γ D as tys hT hA) (qv_cons (zRq64 ex Γ D as tys hT hA) (qv_cons (zRq88 ex Γ D as tys hT hA h68) qv_nil)))) hT hA zRv112
theorem zRq113 (hT : zk_t) (hA : zk_a) : qy_V ex Γ D as tys zRk113 := qs_chk qv_nil hT hA zRv113
theorem zRq114 (hT : zk_t) (hA : zk_a) : qy_V ex Γ D as tys zRk114 := qs_chk qv_nil hT hA zRv114
theorem zRq115 (hT : zk_t) (hA : zk_a) (h68 : qy_V ex Γ D as tys zRk68) : qy_V ex Γ D as tys zRk115 := qs_chk (qv_cons (zRq4 ex Γ D as tys hT hA) (qv_cons (zRq7 ex Γ D as tys hT hA) (qv_cons (zRq78 ex Γ D as tys hT hA h68) qv_nil))) hT hA zRv115
theorem zRq116 (hT : zk_t) (hA : zk_a) : qy_V ex Γ D as tys zRk116 := qs_chk (qv_cons (zRq42 ex Γ D as tys hT hA) qv_nil) hT hA zRv116
theorem zRq117 (hT : zk_t) (hA : zk_a) : qy_V ex Γ D as tys zRk117 := qs_chk qv_nil hT hA zRv117
theorem zRq118 (hT : zk_t) (hA : zk_a) : qy_V ex Γ D as tys zRk118 := qs_chk qv_nil hT hA zRv118
theorem zRq119 (hT : zk_t) (hA : zk_a) (h68 : qy_V ex Γ D as tys zRk68) : qy_V ex Γ D as tys zRk119 := qs_chk (qv_cons (zRq4 ex Γ D as tys hT hA) (qv_cons (zRq7 ex Γ D as tys hT hA) (qv_cons (zRq88 ex Γ D as tys hT hA h68) qv_nil))) hT hA zRv119
end zRCON2
noncomputable def zIA : qG × List qE := (zAk121.2.2.1, zAk121.2.2.2.1)
noncomputable def zIB : qG × List qE := (zBk121.2.2.1, zBk121.2.2.2.1)
noncomputable def zI0 : qG × List qE := (zRk27.2.2.1, zRk27.2.2.2.1)
noncomputable def zI1 : qG × List qE := (zRk86.2.2.1, zRk86.2.2.2.1)
theorem hl_rs {xs : List Int32} : ∀ (j : Nat) (r : Int × Int), (List.replicate xs.length ((.negSucc 2147483647, .ofNat 2147483647) : Int × Int))[j]? = some r → ∃ x, (xs.map Int32.toInt)[j]? = some x ∧ r.1 ≤ x ∧ x ≤ r.2 := by
  intro j r h
  rw [List.getElem?_replicate] at h
  split at h
  · rename_i hj
    cases h
    rw [List.getElem?_map, List.getElem?_eq_getElem hj]
    exact ⟨_, rfl, (q_i32bd _).1, (q_i32bd _).2⟩
  · cases h
theorem hl_rsb {x1 x2 x3 : Int32} (h : x3 = 0 ∨ x3 = 1) : ∀ (j : Nat) (r : Int × Int), [((.negSucc 2147483647, .ofNat 2147483647) : Int × Int), (.negSucc 2147483647, .ofNat 2147483647), (.ofNat 0, .ofNat 1)][j]? = some r → ∃ x, ([x1, x2, x3].map Int32.toInt)[j]? = some x ∧ r.1 ≤ x ∧ x ≤ r.2 := by
  intro j r hj
  match j, hj with
  | 0, hj => cases hj; exact ⟨_, rfl, (q_i32bd _).1, (q_i32bd _).2⟩
  | 1, hj => cases hj; exact ⟨_, rfl, (q_i32bd _).1, (q_i32bd _).2⟩
  | 2, hj =>
    cases hj
    rcases h with e | e <;> (rw [e]; exact ⟨_, rfl, by decide, by decide⟩)
  | j + 3, hj => cases hj
section zMETH
variable {ex : Nat → Value} {D : va_G} {as : List Nat} {tys : List (ClassId × FieldType)} {t : Int} {ax : Nat}
def zΦ : (Nat → Nat → Int32) → Prop := fun _ => True
set_option maxRecDepth 100000 in
theorem zckA_feed : hl_ck zAk118 42 [zIA] = true := by decide +kernel
set_option maxRecDepth 100000 in
theorem zMA_feed (hT : zk_t) (hA : zk_a) (hex : ∀ j, ex j = .null ∨ ∃ a, ex j = .ref a) (hax : as[0]? = some ax) (x1 x2 x3 x4 x5 : Int32) : hl_M ex D as tys 69 11 zAk118.1 (hl_I ex as tys zΦ zIA 42 t) (.ref ax :: [.int x1, .int x2, .int x3, .int x4, .int x5]) (fun _ ws => ∃ I' ∈ [zIA], hl_I ex as tys zΦ I' 42 t ws) :=
  hl_keep hex (qs_vc (ex := ex) hT hA (k := 0) (pc := 270) rfl).1 (fun fc _ => zAh118 ex (qΓ1 fc) D as tys hT hA) (by decide) (rs := (List.replicate 5 (.negSucc 2147483647, .ofNat 2147483647))) rfl rfl [x1, x2, x3, x4, x5] rfl rfl ⟨_, rfl⟩ zckA_feed rfl (hl_rs (xs := [x1, x2, x3, x4, x5])) hax
set_option maxRecDepth 100000 in
theorem zckB_feed : hl_ck zBk118 42 [zIB] = true := by decide +kernel
set_option maxRecDepth 100000 in
theorem zMB_feed (hT : zk_t) (hA : zk_a) (hex : ∀ j, ex j = .null ∨ ∃ a, ex j = .ref a) (hax : as[0]? = some ax) (x1 x2 x3 x4 x5 : Int32) : hl_M ex D as tys 69 11 zBk118.1 (hl_I ex as tys zΦ zIB 42 t) (.ref ax :: [.int x1, .int x2, .int x3, .int x4, .int x5]) (fun _ ws => ∃ I' ∈ [zIB], hl_I ex as tys zΦ I' 42 t ws) :=
  hl_keep hex (qs_vc (ex := ex) hT hA (k := 0) (pc := 270) rfl).1 (fun fc _ => zBh118 ex (qΓ1 fc) D as tys hT hA) (by decide) (rs := (List.replicate 5 (.negSucc 2147483647, .ofNat 2147483647))) rfl rfl [x1, x2, x3, x4, x5] rfl rfl ⟨_, rfl⟩ zckB_feed rfl (hl_rs (xs := [x1, x2, x3, x4, x5])) hax
set_option maxRecDepth 100000 in
theorem zckA_end : hl_ck zAk114 42 [zIA] = true := by decide +kernel
set_option maxRecDepth 100000 in
theorem zMA_end (hT : zk_t) (hA : zk_a) (hex : ∀ j, ex j = .null ∨ ∃ a, ex j = .ref a) (hax : as[0]? = some ax) (x1 : Int32) : hl_M ex D as tys 69 11 zAk114.1 (hl_I ex as tys zΦ zIA 42 t) (.ref ax :: [.int x1]) (fun _ ws => ∃ I' ∈ [zIA], hl_I ex as tys zΦ I' 42 t ws) :=
  hl_keep hex (qs_vc (ex := ex) hT hA (k := 0) (pc := 313) rfl).1 (fun fc _ => zAh114 ex (qΓ1 fc) D as tys hT hA) (by decide) (rs := (List.replicate 1 (.negSucc 2147483647, .ofNat 2147483647))) rfl rfl [x1] rfl rfl ⟨_, rfl⟩ zckA_end rfl (hl_rs (xs := [x1])) hax
set_option maxRecDepth 100000 in
theorem zckB_end : hl_ck zBk114 42 [zIB] = true := by decide +kernel
set_option maxRecDepth 100000 in
theorem zMB_end (hT : zk_t) (hA : zk_a) (hex : ∀ j, ex j = .null ∨ ∃ a, ex j = .ref a) (hax : as[0]? = some ax) (x1 : Int32) : hl_M ex D as tys 69 11 zBk114.1 (hl_I ex as tys zΦ zIB 42 t) (.ref ax :: [.int x1]) (fun _ ws => ∃ I' ∈ [zIB], hl_I ex as tys zΦ I' 42 t ws) :=
  hl_keep hex (qs_vc (ex := ex) hT hA (k := 0) (pc := 313) rfl).1 (fun fc _ => zBh114 ex (qΓ1 fc) D as tys hT hA) (by decide) (rs := (List.replicate 1 (.negSucc 2147483647, .ofNat 2147483647))) rfl rfl [x1] rfl rfl ⟨_, rfl⟩ zckB_end rfl (hl_rs (xs := [x1])) hax
set_option maxRecDepth 100000 in
theorem zckA_beach : hl_ck zAk100 42 [zIA, zIB] = true := by decide +kernel
set_option maxRecDepth 100000 in
theorem zMA_beach (hT : zk_t) (hA : zk_a) (hex : ∀ j, ex j = .null ∨ ∃ a, ex j = .ref a) (hax : as[0]? = some ax) : hl_M ex D as tys 69 11 zAk100.1 (hl_I ex as tys zΦ zIA 42 t) (.ref ax :: []) (fun _ ws => ∃ I' ∈ [zIA, zIB], hl_I ex as tys zΦ I' 42 t ws) :=
  hl_keep hex (qs_vc (ex := ex) hT hA (k := 0) (pc := 331) rfl).1 (fun fc _ => zAh100 ex (qΓ1 fc) D as tys hT hA) (by decide) (rs := (List.replicate 0 (.negSucc 2147483647, .ofNat 2147483647))) rfl rfl [] rfl rfl ⟨_, rfl⟩ zckA_beach rfl (hl_rs (xs := [])) hax
set_option maxRecDepth 100000 in
theorem zckB_beach : hl_ck zBk100 42 [zIA, zIB] = true := by decide +kernel
set_option maxRecDepth 100000 in
theorem zMB_beach (hT : zk_t) (hA : zk_a) (hex : ∀ j, ex j = .null ∨ ∃ a, ex j = .ref a) (hax : as[0]? = some ax) : hl_M ex D as tys 69 11 zBk100.1 (hl_I ex as tys zΦ zIB 42 t) (.ref ax :: []) (fun _ ws => ∃ I' ∈ [zIA, zIB], hl_I ex as tys zΦ I' 42 t ws) :=
  hl_keep hex (qs_vc (ex := ex) hT hA (k := 0) (pc := 331) rfl).1 (fun fc _ => zBh100 ex (qΓ1 fc) D as tys hT hA) (by decide) (rs := (List.replicate 0 (.negSucc 2147483647, .ofNat 2147483647))) rfl rfl [] rfl rfl ⟨_, rfl⟩ zckB_beach rfl (hl_rs (xs := [])) hax
set_option maxRecDepth 100000 in
theorem zckA_fault : hl_ck zAk116 42 [zIA] = true := by decide +kernel
set_option maxRecDepth 100000 in
theorem zMA_fault (hT : zk_t) (hA : zk_a) (hex : ∀ j, ex j = .null ∨ ∃ a, ex j = .ref a) (hax : as[0]? = some ax) (x1 : Int32) : hl_M ex D as tys 69 11 zAk116.1 (hl_I ex as tys zΦ zIA 42 t) (.ref ax :: [.int x1]) (fun _ ws => ∃ I' ∈ [zIA], hl_I ex as tys zΦ I' 42 t ws) :=
  hl_keep hex (qs_vc (ex := ex) hT hA (k := 0) (pc := 349) rfl).1 (fun fc _ => zAh116 ex (qΓ1 fc) D as tys hT hA) (by decide) (rs := (List.replicate 1 (.negSucc 2147483647, .ofNat 2147483647))) rfl rfl [x1] rfl rfl ⟨_, rfl⟩ zckA_fault rfl (hl_rs (xs := [x1])) hax
set_option maxRecDepth 100000 in
theorem zckB_fault : hl_ck zBk116 42 [zIB] = true := by decide +kernel
set_option maxRecDepth 100000 in
theorem zMB_fault (hT : zk_t) (hA : zk_a) (hex : ∀ j, ex j = .null ∨ ∃ a, ex j = .ref a) (hax : as[0]? = some ax) (x1 : Int32) : hl_M ex D as tys 69 11 zBk116.1 (hl_I ex as tys zΦ zIB 42 t) (.ref ax :: [.int x1]) (fun _ ws => ∃ I' ∈ [zIB], hl_I ex as tys zΦ I' 42 t ws) :=
  hl_keep hex (qs_vc (ex := ex) hT hA (k := 0) (pc := 349) rfl).1 (fun fc _ => zBh116 ex (qΓ1 fc) D as tys hT hA) (by decide) (rs := (List.replicate 1 (.negSucc 2147483647, .ofNat 2147483647))) rfl rfl [x1] rfl rfl ⟨_, rfl⟩ zckB_fault rfl (hl_rs (xs := [x1])) hax
set_option maxRecDepth 100000 in
theorem zckA_chair : hl_ck zAk109 42 [zIA] = true := by decide +kernel
set_option maxRecDepth 100000 in
theorem zMA_chair (hT : zk_t) (hA : zk_a) (hex : ∀ j, ex j = .null ∨ ∃ a, ex j = .ref a) (hax : as[0]? = some ax) (x1 x2 : Int32) : hl_M ex D as tys 69 11 zAk109.1 (hl_I ex as tys zΦ zIA 42 t) (.ref ax :: [.int x1, .int x2]) (fun _ ws => ∃ I' ∈ [zIA], hl_I ex as tys zΦ I' 42 t ws) :=
  hl_keep hex (qs_vc (ex := ex) hT hA (k := 0) (pc := 377) rfl).1 (fun fc _ => zAh109 ex (qΓ1 fc) D as tys hT hA) (by decide) (rs := (List.replicate 2 (.negSucc 2147483647, .ofNat 2147483647))) rfl rfl [x1, x2] rfl rfl ⟨_, rfl⟩ zckA_chair rfl (hl_rs (xs := [x1, x2])) hax
set_option maxRecDepth 100000 in
theorem zckB_chair : hl_ck zBk109 42 [zIB] = true := by decide +kernel
set_option maxRecDepth 100000 in
theorem zMB_chair (hT : zk_t) (hA : zk_a) (hex : ∀ j, ex j = .null ∨ ∃ a, ex j = .ref a) (hax : as[0]? = some ax) (x1 x2 : Int32) : hl_M ex D as tys 69 11 zBk109.1 (hl_I ex as tys zΦ zIB 42 t) (.ref ax :: [.int x1, .int x2]) (fun _ ws => ∃ I' ∈ [zIB], hl_I ex as tys zΦ I' 42 t ws) :=
  hl_keep hex (qs_vc (ex := ex) hT hA (k := 0) (pc := 377) rfl).1 (fun fc _ => zBh109 ex (qΓ1 fc) D as tys hT hA) (by decide) (rs := (List.replicate 2 (.negSucc 2147483647, .ofNat 2147483647))) rfl rfl [x1, x2] rfl rfl ⟨_, rfl⟩ zckB_chair rfl (hl_rs (xs := [x1, x2])) hax
set_option maxRecDepth 100000 in
theorem zckA_sitter : hl_ck zAk183 42 [zIA] = true := by decide +kernel
set_option maxRecDepth 100000 in
theorem zMA_sitter (hT : zk_t) (hA : zk_a) (hex : ∀ j, ex j = .null ∨ ∃ a, ex j = .ref a) (hax : as[0]? = some ax) (x1 x2 : Int32) : hl_M ex D as tys 69 11 zAk183.1 (hl_I ex as tys zΦ zIA 42 t) (.ref ax :: [.int x1, .int x2]) (fun _ ws => ∃ I' ∈ [zIA], hl_I ex as tys zΦ I' 42 t ws) :=
  hl_keep hex (qs_vc (ex := ex) hT hA (k := 0) (pc := 410) rfl).1 (fun fc _ => zAh183 ex (qΓ1 fc) D as tys hT hA) (by decide) (rs := (List.replicate 2 (.negSucc 2147483647, .ofNat 2147483647))) rfl rfl [x1, x2] rfl rfl ⟨_, rfl⟩ zckA_sitter rfl (hl_rs (xs := [x1, x2])) hax
set_option maxRecDepth 100000 in
theorem zckB_sitter : hl_ck zBk183 42 [zIB] = true := by decide +kernel
set_option maxRecDepth 100000 in
theorem zMB_sitter (hT : zk_t) (hA : zk_a) (hex : ∀ j, ex j = .null ∨ ∃ a, ex j = .ref a) (hax : as[0]? = some ax) (x1 x2 : Int32) : hl_M ex D as tys 69 11 zBk183.1 (hl_I ex as tys zΦ zIB 42 t) (.ref ax :: [.int x1, .int x2]) (fun _ ws => ∃ I' ∈ [zIB], hl_I ex as tys zΦ I' 42 t ws) :=
  hl_keep hex (qs_vc (ex := ex) hT hA (k := 0) (pc := 410) rfl).1 (fun fc _ => zBh183 ex (qΓ1 fc) D as tys hT hA) (by decide) (rs := (List.replicate 2 (.negSucc 2147483647, .ofNat 2147483647))) rfl rfl [x1, x2] rfl rfl ⟨_, rfl⟩ zckB_sitter rfl (hl_rs (xs := [x1, x2])) hax
set_option maxRecDepth 100000 in
theorem zckA_had : hl_ck zAk122 42 [zIA] = true := by decide +kernel
set_option maxRecDepth 100000 in
theorem zMA_had (hT : zk_t) (hA : zk_a) (hex : ∀ j, ex j = .null ∨ ∃ a, ex j = .ref a) (hax : as[0]? = some ax) (x1 x2 : Int32) : hl_M ex D as tys 69 11 zAk122.1 (hl_I ex as tys zΦ zIA 42 t) (.ref ax :: [.int x1, .int x2]) (fun _ ws => ∃ I' ∈ [zIA], hl_I ex as tys zΦ I' 42 t ws) :=
  hl_keep hex (qs_vc (ex := ex) hT hA (k := 0) (pc := 443) rfl).1 (fun fc _ => zAh122 ex (qΓ1 fc) D as tys hT hA) (by decide) (rs := (List.replicate 2 (.negSucc 2147483647, .ofNat 2147483647))) rfl rfl [x1, x2] rfl rfl ⟨_, rfl⟩ zckA_had rfl (hl_rs (xs := [x1, x2])) hax
set_option maxRecDepth 100000 in
theorem zckB_had : hl_ck zBk122 42 [zIB] = true := by decide +kernel
set_option maxRecDepth 100000 in
theorem zMB_had (hT : zk_t) (hA : zk_a) (hex : ∀ j, ex j = .null ∨ ∃ a, ex j = .ref a) (hax : as[0]? = some ax) (x1 x2 : Int32) : hl_M ex D as tys 69 11 zBk122.1 (hl_I ex as tys zΦ zIB 42 t) (.ref ax :: [.int x1, .int x2]) (fun _ ws => ∃ I' ∈ [zIB], hl_I ex as tys zΦ I' 42 t ws) :=
  hl_keep hex (qs_vc (ex := ex) hT hA (k := 0) (pc := 443) rfl).1 (fun fc _ => zBh122 ex (qΓ1 fc) D as tys hT hA) (by decide) (rs := (List.replicate 2 (.negSucc 2147483647, .ofNat 2147483647))) rfl rfl [x1, x2] rfl rfl ⟨_, rfl⟩ zckB_had rfl (hl_rs (xs := [x1, x2])) hax
set_option maxRecDepth 100000 in
theorem zckA_hour : hl_ck zAk126 42 [zIA] = true := by decide +kernel
set_option maxRecDepth 100000 in
theorem zMA_hour (hT : zk_t) (hA : zk_a) (hex : ∀ j, ex j = .null ∨ ∃ a, ex j = .ref a) (hax : as[0]? = some ax) : hl_M ex D as tys 69 11 zAk126.1 (hl_I ex as tys zΦ zIA 42 t) (.ref ax :: []) (fun _ ws => ∃ I' ∈ [zIA], hl_I ex as tys zΦ I' 42 t ws) :=
  hl_keep hex (qs_vc (ex := ex) hT hA (k := 0) (pc := 466) rfl).1 (fun fc _ => zAh126 ex (qΓ1 fc) D as tys hT hA) (by decide) (rs := (List.replicate 0 (.negSucc 2147483647, .ofNat 2147483647))) rfl rfl [] rfl rfl ⟨_, rfl⟩ zckA_hour rfl (hl_rs (xs := [])) hax
set_option maxRecDepth 100000 in
theorem zckB_hour : hl_ck zBk126 42 [zIB] = true := by decide +kernel
set_option maxRecDepth 100000 in
theorem zMB_hour (hT : zk_t) (hA : zk_a) (hex : ∀ j, ex j = .null ∨ ∃ a, ex j = .ref a) (hax : as[0]? = some ax) : hl_M ex D as tys 69 11 zBk126.1 (hl_I ex as tys zΦ zIB 42 t) (.ref ax :: []) (fun _ ws => ∃ I' ∈ [zIB], hl_I ex as tys zΦ I' 42 t ws) :=
  hl_keep hex (qs_vc (ex := ex) hT hA (k := 0) (pc := 466) rfl).1 (fun fc _ => zBh126 ex (qΓ1 fc) D as tys hT hA) (by decide) (rs := (List.replicate 0 (.negSucc 2147483647, .ofNat 2147483647))) rfl rfl [] rfl rfl ⟨_, rfl⟩ zckB_hour rfl (hl_rs (xs := [])) hax
set_option maxRecDepth 100000 in
theorem zckA_sit : hl_ck zAk182 42 [zIA] = true := by decide +kernel
set_option maxRecDepth 100000 in
theorem zMA_sit (hT : zk_t) (hA : zk_a) (hex : ∀ j, ex j = .null ∨ ∃ a, ex j = .ref a) (hax : as[0]? = some ax) (x1 x2 : Int32) : hl_M ex D as tys 69 11 zAk182.1 (hl_I ex as tys zΦ zIA 42 t) (.ref ax :: [.int x1, .int x2]) (fun _ ws => ∃ I' ∈ [zIA], hl_I ex as tys zΦ I' 42 t ws) :=
  hl_keep hex (qs_vc (ex := ex) hT hA (k := 0) (pc := 489) rfl).1 (fun fc _ => zAh182 ex (qΓ1 fc) D as tys hT hA) (by decide) (rs := (List.replicate 2 (.negSucc 2147483647, .ofNat 2147483647))) rfl rfl [x1, x2] rfl rfl ⟨_, rfl⟩ zckA_sit rfl (hl_rs (xs := [x1, x2])) hax
set_option maxRecDepth 100000 in
theorem zckB_sit : hl_ck zBk182 42 [zIB] = true := by decide +kernel
set_option maxRecDepth 100000 in
theorem zMB_sit (hT : zk_t) (hA : zk_a) (hex : ∀ j, ex j = .null ∨ ∃ a, ex j = .ref a) (hax : as[0]? = some ax) (x1 x2 : Int32) : hl_M ex D as tys 69 11 zBk182.1 (hl_I ex as tys zΦ zIB 42 t) (.ref ax :: [.int x1, .int x2]) (fun _ ws => ∃ I' ∈ [zIB], hl_I ex as tys zΦ I' 42 t ws) :=
  hl_keep hex (qs_vc (ex := ex) hT hA (k := 0) (pc := 489) rfl).1 (fun fc _ => zBh182 ex (qΓ1 fc) D as tys hT hA) (by decide) (rs := (List.replicate 2 (.negSucc 2147483647, .ofNat 2147483647))) rfl rfl [x1, x2] rfl rfl ⟨_, rfl⟩ zckB_sit rfl (hl_rs (xs := [x1, x2])) hax
set_option maxRecDepth 100000 in
theorem zckA_rise : hl_ck zAk162 42 [zIA] = true := by decide +kernel
set_option maxRecDepth 100000 in
theorem zMA_rise (hT : zk_t) (hA : zk_a) (hex : ∀ j, ex j = .null ∨ ∃ a, ex j = .ref a) (hax : as[0]? = some ax) (x1 : Int32) : hl_M ex D as tys 69 11 zAk162.1 (hl_I ex as tys zΦ zIA 42 t) (.ref ax :: [.int x1]) (fun _ ws => ∃ I' ∈ [zIA], hl_I ex as tys zΦ I' 42 t ws) :=
  hl_keep hex (qs_vc (ex := ex) hT hA (k := 0) (pc := 517) rfl).1 (fun fc _ => zAh162 ex (qΓ1 fc) D as tys hT hA) (by decide) (rs := (List.replicate 1 (.negSucc 2147483647, .ofNat 2147483647))) rfl rfl [x1] rfl rfl ⟨_, rfl⟩ zckA_rise rfl (hl_rs (xs := [x1])) hax
set_option maxRecDepth 100000 in
theorem zckB_rise : hl_ck zBk162 42 [zIB] = true := by decide +kernel
set_option maxRecDepth 100000 in
theorem zMB_rise (hT : zk_t) (hA : zk_a) (hex : ∀ j, ex j = .null ∨ ∃ a, ex j = .ref a) (hax : as[0]? = some ax) (x1 : Int32) : hl_M ex D as tys 69 11 zBk162.1 (hl_I ex as tys zΦ zIB 42 t) (.ref ax :: [.int x1]) (fun _ ws => ∃ I' ∈ [zIB], hl_I ex as tys zΦ I' 42 t ws) :=
  hl_keep hex (qs_vc (ex := ex) hT hA (k := 0) (pc := 517) rfl).1 (fun fc _ => zBh162 ex (qΓ1 fc) D as tys hT hA) (by decide) (rs := (List.replicate 1 (.negSucc 2147483647, .ofNat 2147483647))) rfl rfl [x1] rfl rfl ⟨_, rfl⟩ zckB_rise rfl (hl_rs (xs := [x1])) hax
set_option maxRecDepth 100000 in
theorem zckA_change : hl_ck zAk112 42 [zIA] = true := by decide +kernel
set_option maxRecDepth 100000 in
theorem zMA_change (hT : zk_t) (hA : zk_a) (hex : ∀ j, ex j = .null ∨ ∃ a, ex j = .ref a) (hax : as[0]? = some ax) (x1 x2 : Int32) : hl_M ex D as tys 69 11 zAk112.1 (hl_I ex as tys zΦ zIA 42 t) (.ref ax :: [.int x1, .int x2]) (fun _ ws => ∃ I' ∈ [zIA], hl_I ex as tys zΦ I' 42 t ws) :=
  hl_keep hex (qs_vc (ex := ex) hT hA (k := 0) (pc := 545) rfl).1 (fun fc _ => zAh112 ex (qΓ1 fc) D as tys hT hA) (by decide) (rs := (List.replicate 2 (.negSucc 2147483647, .ofNat 2147483647))) rfl rfl [x1, x2] rfl rfl ⟨_, rfl⟩ zckA_change rfl (hl_rs (xs := [x1, x2])) hax
set_option maxRecDepth 100000 in
theorem zckB_change : hl_ck zBk112 42 [zIB] = true := by decide +kernel
set_option maxRecDepth 100000 in
theorem zMB_change (hT : zk_t) (hA : zk_a) (hex : ∀ j, ex j = .null ∨ ∃ a, ex j = .ref a) (hax : as[0]? = some ax) (x1 x2 : Int32) : hl_M ex D as tys 69 11 zBk112.1 (hl_I ex as tys zΦ zIB 42 t) (.ref ax :: [.int x1, .int x2]) (fun _ ws => ∃ I' ∈ [zIB], hl_I ex as tys zΦ I' 42 t ws) :=
  hl_keep hex (qs_vc (ex := ex) hT hA (k := 0) (pc := 545) rfl).1 (fun fc _ => zBh112 ex (qΓ1 fc) D as tys hT hA) (by decide) (rs := (List.replicate 2 (.negSucc 2147483647, .ofNat 2147483647))) rfl rfl [x1, x2] rfl rfl ⟨_, rfl⟩ zckB_change rfl (hl_rs (xs := [x1, x2])) hax
set_option maxRecDepth 100000 in
theorem zckA_move : hl_ck zAk133 42 [zIA] = true := by decide +kernel
set_option maxRecDepth 100000 in
theorem zMA_move (hT : zk_t) (hA : zk_a) (hex : ∀ j, ex j = .null ∨ ∃ a, ex j = .ref a) (hax : as[0]? = some ax) (x1 x2 : Int32) : hl_M ex D as tys 69 11 zAk133.1 (hl_I ex as tys zΦ zIA 42 t) (.ref ax :: [.int x1, .int x2]) (fun _ ws => ∃ I' ∈ [zIA], hl_I ex as tys zΦ I' 42 t ws) :=
  hl_keep hex (qs_vc (ex := ex) hT hA (k := 0) (pc := 578) rfl).1 (fun fc _ => zAh133 ex (qΓ1 fc) D as tys hT hA) (by decide) (rs := (List.replicate 2 (.negSucc 2147483647, .ofNat 2147483647))) rfl rfl [x1, x2] rfl rfl ⟨_, rfl⟩ zckA_move rfl (hl_rs (xs := [x1, x2])) hax
set_option maxRecDepth 100000 in
theorem zckB_move : hl_ck zBk133 42 [zIB] = true := by decide +kernel
set_option maxRecDepth 100000 in
theorem zMB_move (hT : zk_t) (hA : zk_a) (hex : ∀ j, ex j = .null ∨ ∃ a, ex j = .ref a) (hax : as[0]? = some ax) (x1 x2 : Int32) : hl_M ex D as tys 69 11 zBk133.1 (hl_I ex as tys zΦ zIB 42 t) (.ref ax :: [.int x1, .int x2]) (fun _ ws => ∃ I' ∈ [zIB], hl_I ex as tys zΦ I' 42 t ws) :=
  hl_keep hex (qs_vc (ex := ex) hT hA (k := 0) (pc := 578) rfl).1 (fun fc _ => zBh133 ex (qΓ1 fc) D as tys hT hA) (by decide) (rs := (List.replicate 2 (.negSucc 2147483647, .ofNat 2147483647))) rfl rfl [x1, x2] rfl rfl ⟨_, rfl⟩ zckB_move rfl (hl_rs (xs := [x1, x2])) hax
set_option maxRecDepth 100000 in
theorem zckA_fill : hl_ck zAk119 42 [zIA] = true := by decide +kernel
set_option maxRecDepth 100000 in
theorem zMA_fill (hT : zk_t) (hA : zk_a) (hex : ∀ j, ex j = .null ∨ ∃ a, ex j = .ref a) (hax : as[0]? = some ax) (x1 x2 : Int32) : hl_M ex D as tys 69 11 zAk119.1 (hl_I ex as tys zΦ zIA 42 t) (.ref ax :: [.int x1, .int x2]) (fun _ ws => ∃ I' ∈ [zIA], hl_I ex as tys zΦ I' 42 t ws) :=
  hl_keep hex (qs_vc (ex := ex) hT hA (k := 0) (pc := 611) rfl).1 (fun fc _ => zAh119 ex (qΓ1 fc) D as tys hT hA) (by decide) (rs := (List.replicate 2 (.negSucc 2147483647, .ofNat 2147483647))) rfl rfl [x1, x2] rfl rfl ⟨_, rfl⟩ zckA_fill rfl (hl_rs (xs := [x1, x2])) hax
set_option maxRecDepth 100000 in
theorem zckB_fill : hl_ck zBk119 42 [zIB] = true := by decide +kernel
set_option maxRecDepth 100000 in
theorem zMB_fill (hT : zk_t) (hA : zk_a) (hex : ∀ j, ex j = .null ∨ ∃ a, ex j = .ref a) (hax : as[0]? = some ax) (x1 x2 : Int32) : hl_M ex D as tys 69 11 zBk119.1 (hl_I ex as tys zΦ zIB 42 t) (.ref ax :: [.int x1, .int x2]) (fun _ ws => ∃ I' ∈ [zIB], hl_I ex as tys zΦ I' 42 t ws) :=
  hl_keep hex (qs_vc (ex := ex) hT hA (k := 0) (pc := 611) rfl).1 (fun fc _ => zBh119 ex (qΓ1 fc) D as tys hT hA) (by decide) (rs := (List.replicate 2 (.negSucc 2147483647, .ofNat 2147483647))) rfl rfl [x1, x2] rfl rfl ⟨_, rfl⟩ zckB_fill rfl (hl_rs (xs := [x1, x2])) hax
set_option maxRecDepth 100000 in
theorem zckA_undo : hl_ck zAk197 42 [zIA] = true := by decide +kernel
set_option maxRecDepth 100000 in
theorem zMA_undo (hT : zk_t) (hA : zk_a) (hex : ∀ j, ex j = .null ∨ ∃ a, ex j = .ref a) (hax : as[0]? = some ax) : hl_M ex D as tys 69 11 zAk197.1 (hl_I ex as tys zΦ zIA 42 t) (.ref ax :: []) (fun _ ws => ∃ I' ∈ [zIA], hl_I ex as tys zΦ I' 42 t ws) :=
  hl_keep hex (qs_vc (ex := ex) hT hA (k := 0) (pc := 634) rfl).1 (fun fc _ => zAh197 ex (qΓ1 fc) D as tys hT hA) (by decide) (rs := (List.replicate 0 (.negSucc 2147483647, .ofNat 2147483647))) rfl rfl [] rfl rfl ⟨_, rfl⟩ zckA_undo rfl (hl_rs (xs := [])) hax
set_option maxRecDepth 100000 in
theorem zckB_undo : hl_ck zBk197 42 [zIB] = true := by decide +kernel
set_option maxRecDepth 100000 in
theorem zMB_undo (hT : zk_t) (hA : zk_a) (hex : ∀ j, ex j = .null ∨ ∃ a, ex j = .ref a) (hax : as[0]? = some ax) : hl_M ex D as tys 69 11 zBk197.1 (hl_I ex as tys zΦ zIB 42 t) (.ref ax :: []) (fun _ ws => ∃ I' ∈ [zIB], hl_I ex as tys zΦ I' 42 t ws) :=
  hl_keep hex (qs_vc (ex := ex) hT hA (k := 0) (pc := 634) rfl).1 (fun fc _ => zBh197 ex (qΓ1 fc) D as tys hT hA) (by decide) (rs := (List.replicate 0 (.negSucc 2147483647, .ofNat 2147483647))) rfl rfl [] rfl rfl ⟨_, rfl⟩ zckB_undo rfl (hl_rs (xs := [])) hax
set_option maxRecDepth 100000 in
theorem zckA_redo : hl_ck zAk150 42 [zIA] = true := by decide +kernel
set_option maxRecDepth 100000 in
theorem zMA_redo (hT : zk_t) (hA : zk_a) (hex : ∀ j, ex j = .null ∨ ∃ a, ex j = .ref a) (hax : as[0]? = some ax) : hl_M ex D as tys 69 11 zAk150.1 (hl_I ex as tys zΦ zIA 42 t) (.ref ax :: []) (fun _ ws => ∃ I' ∈ [zIA], hl_I ex as tys zΦ I' 42 t ws) :=
  hl_keep hex (qs_vc (ex := ex) hT hA (k := 0) (pc := 647) rfl).1 (fun fc _ => zAh150 ex (qΓ1 fc) D as tys hT hA) (by decide) (rs := (List.replicate 0 (.negSucc 2147483647, .ofNat 2147483647))) rfl rfl [] rfl rfl ⟨_, rfl⟩ zckA_redo rfl (hl_rs (xs := [])) hax
set_option maxRecDepth 100000 in
theorem zckB_redo : hl_ck zBk150 42 [zIB] = true := by decide +kernel
set_option maxRecDepth 100000 in
theorem zMB_redo (hT : zk_t) (hA : zk_a) (hex : ∀ j, ex j = .null ∨ ∃ a, ex j = .ref a) (hax : as[0]? = some ax) : hl_M ex D as tys 69 11 zBk150.1 (hl_I ex as tys zΦ zIB 42 t) (.ref ax :: []) (fun _ ws => ∃ I' ∈ [zIB], hl_I ex as tys zΦ I' 42 t ws) :=
  hl_keep hex (qs_vc (ex := ex) hT hA (k := 0) (pc := 647) rfl).1 (fun fc _ => zBh150 ex (qΓ1 fc) D as tys hT hA) (by decide) (rs := (List.replicate 0 (.negSucc 2147483647, .ofNat 2147483647))) rfl rfl [] rfl rfl ⟨_, rfl⟩ zckB_redo rfl (hl_rs (xs := [])) hax
set_option maxRecDepth 100000 in
theorem zckA_will : hl_ck zAk200 42 [zIA] = true := by decide +kernel
set_option maxRecDepth 100000 in
theorem zMA_will (hT : zk_t) (hA : zk_a) (hex : ∀ j, ex j = .null ∨ ∃ a, ex j = .ref a) (hax : as[0]? = some ax) (x1 x2 : Int32) : hl_M ex D as tys 69 11 zAk200.1 (hl_I ex as tys zΦ zIA 42 t) (.ref ax :: [.int x1, .int x2]) (fun _ ws => ∃ I' ∈ [zIA], hl_I ex as tys zΦ I' 42 t ws) :=
  hl_keep hex (qs_vc (ex := ex) hT hA (k := 0) (pc := 670) rfl).1 (fun fc _ => zAh200 ex (qΓ1 fc) D as tys hT hA) (by decide) (rs := (List.replicate 2 (.negSucc 2147483647, .ofNat 2147483647))) rfl rfl [x1, x2] rfl rfl ⟨_, rfl⟩ zckA_will rfl (hl_rs (xs := [x1, x2])) hax
set_option maxRecDepth 100000 in
theorem zckB_will : hl_ck zBk200 42 [zIB] = true := by decide +kernel
set_option maxRecDepth 100000 in
theorem zMB_will (hT : zk_t) (hA : zk_a) (hex : ∀ j, ex j = .null ∨ ∃ a, ex j = .ref a) (hax : as[0]? = some ax) (x1 x2 : Int32) : hl_M ex D as tys 69 11 zBk200.1 (hl_I ex as tys zΦ zIB 42 t) (.ref ax :: [.int x1, .int x2]) (fun _ ws => ∃ I' ∈ [zIB], hl_I ex as tys zΦ I' 42 t ws) :=
  hl_keep hex (qs_vc (ex := ex) hT hA (k := 0) (pc := 670) rfl).1 (fun fc _ => zBh200 ex (qΓ1 fc) D as tys hT hA) (by decide) (rs := (List.replicate 2 (.negSucc 2147483647, .ofNat 2147483647))) rfl rfl [x1, x2] rfl rfl ⟨_, rfl⟩ zckB_will rfl (hl_rs (xs := [x1, x2])) hax
set_option maxRecDepth 100000 in
theorem zckA_standing : hl_ck zAk185 42 [zIA] = true := by decide +kernel
set_option maxRecDepth 100000 in
theorem zMA_standing (hT : zk_t) (hA : zk_a) (hex : ∀ j, ex j = .null ∨ ∃ a, ex j = .ref a) (hax : as[0]? = some ax) (x1 : Int32) : hl_M ex D as tys 69 11 zAk185.1 (hl_I ex as tys zΦ zIA 42 t) (.ref ax :: [.int x1]) (fun _ ws => ∃ I' ∈ [zIA], hl_I ex as tys zΦ I' 42 t ws) :=
  hl_keep hex (qs_vc (ex := ex) hT hA (k := 0) (pc := 698) rfl).1 (fun fc _ => zAh185 ex (qΓ1 fc) D as tys hT hA) (by decide) (rs := (List.replicate 1 (.negSucc 2147483647, .ofNat 2147483647))) rfl rfl [x1] rfl rfl ⟨_, rfl⟩ zckA_standing rfl (hl_rs (xs := [x1])) hax
set_option maxRecDepth 100000 in
theorem zckB_standing : hl_ck zBk185 42 [zIB] = true := by decide +kernel
set_option maxRecDepth 100000 in
theorem zMB_standing (hT : zk_t) (hA : zk_a) (hex : ∀ j, ex j = .null ∨ ∃ a, ex j = .ref a) (hax : as[0]? = some ax) (x1 : Int32) : hl_M ex D as tys 69 11 zBk185.1 (hl_I ex as tys zΦ zIB 42 t) (.ref ax :: [.int x1]) (fun _ ws => ∃ I' ∈ [zIB], hl_I ex as tys zΦ I' 42 t ws) :=
  hl_keep hex (qs_vc (ex := ex) hT hA (k := 0) (pc := 698) rfl).1 (fun fc _ => zBh185 ex (qΓ1 fc) D as tys hT hA) (by decide) (rs := (List.replicate 1 (.negSucc 2147483647, .ofNat 2147483647))) rfl rfl [x1] rfl rfl ⟨_, rfl⟩ zckB_standing rfl (hl_rs (xs := [x1])) hax
set_option maxRecDepth 100000 in
theorem zckA_out : hl_ck zAk149 42 [zIA] = true := by decide +kernel
set_option maxRecDepth 100000 in
theorem zMA_out (hT : zk_t) (hA : zk_a) (hex : ∀ j, ex j = .null ∨ ∃ a, ex j = .ref a) (hax : as[0]? = some ax) (x1 : Int32) : hl_M ex D as tys 69 11 zAk149.1 (hl_I ex as tys zΦ zIA 42 t) (.ref ax :: [.int x1]) (fun _ ws => ∃ I' ∈ [zIA], hl_I ex as tys zΦ I' 42 t ws) :=
  hl_keep hex (qs_vc (ex := ex) hT hA (k := 0) (pc := 721) rfl).1 (fun fc _ => zAh149 ex (qΓ1 fc) D as tys hT hA) (by decide) (rs := (List.replicate 1 (.negSucc 2147483647, .ofNat 2147483647))) rfl rfl [x1] rfl rfl ⟨_, rfl⟩ zckA_out rfl (hl_rs (xs := [x1])) hax
set_option maxRecDepth 100000 in
theorem zckB_out : hl_ck zBk149 42 [zIB] = true := by decide +kernel
set_option maxRecDepth 100000 in
theorem zMB_out (hT : zk_t) (hA : zk_a) (hex : ∀ j, ex j = .null ∨ ∃ a, ex j = .ref a) (hax : as[0]? = some ax) (x1 : Int32) : hl_M ex D as tys 69 11 zBk149.1 (hl_I ex as tys zΦ zIB 42 t) (.ref ax :: [.int x1]) (fun _ ws => ∃ I' ∈ [zIB], hl_I ex as tys zΦ I' 42 t ws) :=
  hl_keep hex (qs_vc (ex := ex) hT hA (k := 0) (pc := 721) rfl).1 (fun fc _ => zBh149 ex (qΓ1 fc) D as tys hT hA) (by decide) (rs := (List.replicate 1 (.negSucc 2147483647, .ofNat 2147483647))) rfl rfl [x1] rfl rfl ⟨_, rfl⟩ zckB_out rfl (hl_rs (xs := [x1])) hax
set_option maxRecDepth 100000 in
theorem zckA_seat : hl_ck zAk180 42 [zIA] = true := by decide +kernel
set_option maxRecDepth 100000 in
theorem zMA_seat (hT : zk_t) (hA : zk_a) (hex : ∀ j, ex j = .null ∨ ∃ a, ex j = .ref a) (hax : as[0]? = some ax) : hl_M ex D as tys 69 11 zAk180.1 (hl_I ex as tys zΦ zIA 42 t) (.ref ax :: []) (fun _ ws => ∃ I' ∈ [zIA], hl_I ex as tys zΦ I' 42 t ws) :=
  hl_keep hex (qs_vc (ex := ex) hT hA (k := 0) (pc := 739) rfl).1 (fun fc _ => zAh180 ex (qΓ1 fc) D as tys hT hA) (by decide) (rs := (List.replicate 0 (.negSucc 2147483647, .ofNat 2147483647))) rfl rfl [] rfl rfl ⟨_, rfl⟩ zckA_seat rfl (hl_rs (xs := [])) hax
set_option maxRecDepth 100000 in
theorem zckB_seat : hl_ck zBk180 42 [zIB] = true := by decide +kernel
set_option maxRecDepth 100000 in
theorem zMB_seat (hT : zk_t) (hA : zk_a) (hex : ∀ j, ex j = .null ∨ ∃ a, ex j = .ref a) (hax : as[0]? = some ax) : hl_M ex D as tys 69 11 zBk180.1 (hl_I ex as tys zΦ zIB 42 t) (.ref ax :: []) (fun _ ws => ∃ I' ∈ [zIB], hl_I ex as tys zΦ I' 42 t ws) :=
  hl_keep hex (qs_vc (ex := ex) hT hA (k := 0) (pc := 739) rfl).1 (fun fc _ => zBh180 ex (qΓ1 fc) D as tys hT hA) (by decide) (rs := (List.replicate 0 (.negSucc 2147483647, .ofNat 2147483647))) rfl rfl [] rfl rfl ⟨_, rfl⟩ zckB_seat rfl (hl_rs (xs := [])) hax
set_option maxRecDepth 100000 in
theorem zckA_toll : hl_ck zAk194 42 [zIA] = true := by decide +kernel
set_option maxRecDepth 100000 in
theorem zMA_toll (hT : zk_t) (hA : zk_a) (hex : ∀ j, ex j = .null ∨ ∃ a, ex j = .ref a) (hax : as[0]? = some ax) (x1 : Int32) : hl_M ex D as tys 69 11 zAk194.1 (hl_I ex as tys zΦ zIA 42 t) (.ref ax :: [.int x1]) (fun _ ws => ∃ I' ∈ [zIA], hl_I ex as tys zΦ I' 42 t ws) :=
  hl_keep hex (qs_vc (ex := ex) hT hA (k := 0) (pc := 757) rfl).1 (fun fc _ => zAh194 ex (qΓ1 fc) D as tys hT hA) (by decide) (rs := (List.replicate 1 (.negSucc 2147483647, .ofNat 2147483647))) rfl rfl [x1] rfl rfl ⟨_, rfl⟩ zckA_toll rfl (hl_rs (xs := [x1])) hax
set_option maxRecDepth 100000 in
theorem zckB_toll : hl_ck zBk194 42 [zIB] = true := by decide +kernel
set_option maxRecDepth 100000 in
theorem zMB_toll (hT : zk_t) (hA : zk_a) (hex : ∀ j, ex j = .null ∨ ∃ a, ex j = .ref a) (hax : as[0]? = some ax) (x1 : Int32) : hl_M ex D as tys 69 11 zBk194.1 (hl_I ex as tys zΦ zIB 42 t) (.ref ax :: [.int x1]) (fun _ ws => ∃ I' ∈ [zIB], hl_I ex as tys zΦ I' 42 t ws) :=
  hl_keep hex (qs_vc (ex := ex) hT hA (k := 0) (pc := 757) rfl).1 (fun fc _ => zBh194 ex (qΓ1 fc) D as tys hT hA) (by decide) (rs := (List.replicate 1 (.negSucc 2147483647, .ofNat 2147483647))) rfl rfl [x1] rfl rfl ⟨_, rfl⟩ zckB_toll rfl (hl_rs (xs := [x1])) hax
set_option maxRecDepth 100000 in
theorem zckA_opening : hl_ck zAk138 42 [zIA] = true := by decide +kernel
set_option maxRecDepth 100000 in
theorem zMA_opening (hT : zk_t) (hA : zk_a) (hex : ∀ j, ex j = .null ∨ ∃ a, ex j = .ref a) (hax : as[0]? = some ax) (x1 : Int32) : hl_M ex D as tys 69 11 zAk138.1 (hl_I ex as tys zΦ zIA 42 t) (.ref ax :: [.int x1]) (fun _ ws => ∃ I' ∈ [zIA], hl_I ex as tys zΦ I' 42 t ws) :=
  hl_keep hex (qs_vc (ex := ex) hT hA (k := 0) (pc := 780) rfl).1 (fun fc _ => zAh138 ex (qΓ1 fc) D as tys hT hA) (by decide) (rs := (List.replicate 1 (.negSucc 2147483647, .ofNat 2147483647))) rfl rfl [x1] rfl rfl ⟨_, rfl⟩ zckA_opening rfl (hl_rs (xs := [x1])) hax
set_option maxRecDepth 100000 in
theorem zckB_opening : hl_ck zBk138 42 [zIB] = true := by decide +kernel
set_option maxRecDepth 100000 in
theorem zMB_opening (hT : zk_t) (hA : zk_a) (hex : ∀ j, ex j = .null ∨ ∃ a, ex j = .ref a) (hax : as[0]? = some ax) (x1 : Int32) : hl_M ex D as tys 69 11 zBk138.1 (hl_I ex as tys zΦ zIB 42 t) (.ref ax :: [.int x1]) (fun _ ws => ∃ I' ∈ [zIB], hl_I ex as tys zΦ I' 42 t ws) :=
  hl_keep hex (qs_vc (ex := ex) hT hA (k := 0) (pc := 780) rfl).1 (fun fc _ => zBh138 ex (qΓ1 fc) D as tys hT hA) (by decide) (rs := (List.replicate 1 (.negSucc 2147483647, .ofNat 2147483647))) rfl rfl [x1] rfl rfl ⟨_, rfl⟩ zckB_opening rfl (hl_rs (xs := [x1])) hax
set_option maxRecDepth 100000 in
theorem zckA_trade : hl_ck zAk196 42 [zIA] = true := by decide +kernel
set_option maxRecDepth 100000 in
theorem zMA_trade (hT : zk_t) (hA : zk_a) (hex : ∀ j, ex j = .null ∨ ∃ a, ex j = .ref a) (hax : as[0]? = some ax) (x1 : Int32) : hl_M ex D as tys 69 11 zAk196.1 (hl_I ex as tys zΦ zIA 42 t) (.ref ax :: [.int x1]) (fun _ ws => ∃ I' ∈ [zIA], hl_I ex as tys zΦ I' 42 t ws) :=
  hl_keep hex (qs_vc (ex := ex) hT hA (k := 0) (pc := 803) rfl).1 (fun fc _ => zAh196 ex (qΓ1 fc) D as tys hT hA) (by decide) (rs := (List.replicate 1 (.negSucc 2147483647, .ofNat 2147483647))) rfl rfl [x1] rfl rfl ⟨_, rfl⟩ zckA_trade rfl (hl_rs (xs := [x1])) hax
set_option maxRecDepth 100000 in
theorem zckB_trade : hl_ck zBk196 42 [zIB] = true := by decide +kernel
set_option maxRecDepth 100000 in
theorem zMB_trade (hT : zk_t) (hA : zk_a) (hex : ∀ j, ex j = .null ∨ ∃ a, ex j = .ref a) (hax : as[0]? = some ax) (x1 : Int32) : hl_M ex D as tys 69 11 zBk196.1 (hl_I ex as tys zΦ zIB 42 t) (.ref ax :: [.int x1]) (fun _ ws => ∃ I' ∈ [zIB], hl_I ex as tys zΦ I' 42 t ws) :=
  hl_keep hex (qs_vc (ex := ex) hT hA (k := 0) (pc := 803) rfl).1 (fun fc _ => zBh196 ex (qΓ1 fc) D as tys hT hA) (by decide) (rs := (List.replicate 1 (.negSucc 2147483647, .ofNat 2147483647))) rfl rfl [x1] rfl rfl ⟨_, rfl⟩ zckB_trade rfl (hl_rs (xs := [x1])) hax
set_option maxRecDepth 100000 in
theorem zckA_ring : hl_ck zAk161 42 [zIA] = true := by decide +kernel
set_option maxRecDepth 100000 in
theorem zMA_ring (hT : zk_t) (hA : zk_a) (hex : ∀ j, ex j = .null ∨ ∃ a, ex j = .ref a) (hax : as[0]? = some ax) : hl_M ex D as tys 69 11 zAk161.1 (hl_I ex as tys zΦ zIA 42 t) (.ref ax :: []) (fun _ ws => ∃ I' ∈ [zIA], hl_I ex as tys zΦ I' 42 t ws) :=
  hl_keep hex (qs_vc (ex := ex) hT hA (k := 0) (pc := 821) rfl).1 (fun fc _ => zAh161 ex (qΓ1 fc) D as tys hT hA) (by decide) (rs := (List.replicate 0 (.negSucc 2147483647, .ofNat 2147483647))) rfl rfl [] rfl rfl ⟨_, rfl⟩ zckA_ring rfl (hl_rs (xs := [])) hax
set_option maxRecDepth 100000 in
theorem zckB_ring : hl_ck zBk161 42 [zIB] = true := by decide +kernel
set_option maxRecDepth 100000 in
theorem zMB_ring (hT : zk_t) (hA : zk_a) (hex : ∀ j, ex j = .null ∨ ∃ a, ex j = .ref a) (hax : as[0]? = some ax) : hl_M ex D as tys 69 11 zBk161.1 (hl_I ex as tys zΦ zIB 42 t) (.ref ax :: []) (fun _ ws => ∃ I' ∈ [zIB], hl_I ex as tys zΦ I' 42 t ws) :=
  hl_keep hex (qs_vc (ex := ex) hT hA (k := 0) (pc := 821) rfl).1 (fun fc _ => zBh161 ex (qΓ1 fc) D as tys hT hA) (by decide) (rs := (List.replicate 0 (.negSucc 2147483647, .ofNat 2147483647))) rfl rfl [] rfl rfl ⟨_, rfl⟩ zckB_ring rfl (hl_rs (xs := [])) hax
set_option maxRecDepth 100000 in
theorem zckA_envy : hl_ck zAk115 42 [zIA] = true := by decide +kernel
set_option maxRecDepth 100000 in
theorem zMA_envy (hT : zk_t) (hA : zk_a) (hex : ∀ j, ex j = .null ∨ ∃ a, ex j = .ref a) (hax : as[0]? = some ax) (x1 : Int32) : hl_M ex D as tys 69 11 zAk115.1 (hl_I ex as tys zΦ zIA 42 t) (.ref ax :: [.int x1]) (fun _ ws => ∃ I' ∈ [zIA], hl_I ex as tys zΦ I' 42 t ws) :=
  hl_keep hex (qs_vc (ex := ex) hT hA (k := 0) (pc := 839) rfl).1 (fun fc _ => zAh115 ex (qΓ1 fc) D as tys hT hA) (by decide) (rs := (List.replicate 1 (.negSucc 2147483647, .ofNat 2147483647))) rfl rfl [x1] rfl rfl ⟨_, rfl⟩ zckA_envy rfl (hl_rs (xs := [x1])) hax
set_option maxRecDepth 100000 in
theorem zckB_envy : hl_ck zBk115 42 [zIB] = true := by decide +kernel
set_option maxRecDepth 100000 in
theorem zMB_envy (hT : zk_t) (hA : zk_a) (hex : ∀ j, ex j = .null ∨ ∃ a, ex j = .ref a) (hax : as[0]? = some ax) (x1 : Int32) : hl_M ex D as tys 69 11 zBk115.1 (hl_I ex as tys zΦ zIB 42 t) (.ref ax :: [.int x1]) (fun _ ws => ∃ I' ∈ [zIB], hl_I ex as tys zΦ I' 42 t ws) :=
  hl_keep hex (qs_vc (ex := ex) hT hA (k := 0) (pc := 839) rfl).1 (fun fc _ => zBh115 ex (qΓ1 fc) D as tys hT hA) (by decide) (rs := (List.replicate 1 (.negSucc 2147483647, .ofNat 2147483647))) rfl rfl [x1] rfl rfl ⟨_, rfl⟩ zckB_envy rfl (hl_rs (xs := [x1])) hax
set_option maxRecDepth 100000 in
theorem zckA_row : hl_ck zAk170 42 [zIA] = true := by decide +kernel
set_option maxRecDepth 100000 in
theorem zMA_row (hT : zk_t) (hA : zk_a) (hex : ∀ j, ex j = .null ∨ ∃ a, ex j = .ref a) (hax : as[0]? = some ax) (x1 x2 : Int32) : hl_M ex D as tys 69 11 zAk170.1 (hl_I ex as tys zΦ zIA 42 t) (.ref ax :: [.int x1, .int x2]) (fun _ ws => ∃ I' ∈ [zIA], hl_I ex as tys zΦ I' 42 t ws) :=
  hl_keep hex (qs_vc (ex := ex) hT hA (k := 0) (pc := 867) rfl).1 (fun fc _ => zAh170 ex (qΓ1 fc) D as tys hT hA) (by decide) (rs := (List.replicate 2 (.negSucc 2147483647, .ofNat 2147483647))) rfl rfl [x1, x2] rfl rfl ⟨_, rfl⟩ zckA_row rfl (hl_rs (xs := [x1, x2])) hax
set_option maxRecDepth 100000 in
theorem zckB_row : hl_ck zBk170 42 [zIB] = true := by decide +kernel
set_option maxRecDepth 100000 in
theorem zMB_row (hT : zk_t) (hA : zk_a) (hex : ∀ j, ex j = .null ∨ ∃ a, ex j = .ref a) (hax : as[0]? = some ax) (x1 x2 : Int32) : hl_M ex D as tys 69 11 zBk170.1 (hl_I ex as tys zΦ zIB 42 t) (.ref ax :: [.int x1, .int x2]) (fun _ ws => ∃ I' ∈ [zIB], hl_I ex as tys zΦ I' 42 t ws) :=
  hl_keep hex (qs_vc (ex := ex) hT hA (k := 0) (pc := 867) rfl).1 (fun fc _ => zBh170 ex (qΓ1 fc) D as tys hT hA) (by decide) (rs := (List.replicate 2 (.negSucc 2147483647, .ofNat 2147483647))) rfl rfl [x1, x2] rfl rfl ⟨_, rfl⟩ zckB_row rfl (hl_rs (xs := [x1, x2])) hax
set_option maxRecDepth 100000 in
theorem zckA_rivals : hl_ck zAk169 42 [zIA] = true := by decide +kernel
set_option maxRecDepth 100000 in
theorem zMA_rivals (hT : zk_t) (hA : zk_a) (hex : ∀ j, ex j = .null ∨ ∃ a, ex j = .ref a) (hax : as[0]? = some ax) (x1 x2 : Int32) : hl_M ex D as tys 69 11 zAk169.1 (hl_I ex as tys zΦ zIA 42 t) (.ref ax :: [.int x1, .int x2]) (fun _ ws => ∃ I' ∈ [zIA], hl_I ex as tys zΦ I' 42 t ws) :=
  hl_keep hex (qs_vc (ex := ex) hT hA (k := 0) (pc := 900) rfl).1 (fun fc _ => zAh169 ex (qΓ1 fc) D as tys hT hA) (by decide) (rs := (List.replicate 2 (.negSucc 2147483647, .ofNat 2147483647))) rfl rfl [x1, x2] rfl rfl ⟨_, rfl⟩ zckA_rivals rfl (hl_rs (xs := [x1, x2])) hax
set_option maxRecDepth 100000 in
theorem zckB_rivals : hl_ck zBk169 42 [zIB] = true := by decide +kernel
set_option maxRecDepth 100000 in
theorem zMB_rivals (hT : zk_t) (hA : zk_a) (hex : ∀ j, ex j = .null ∨ ∃ a, ex j = .ref a) (hax : as[0]? = some ax) (x1 x2 : Int32) : hl_M ex D as tys 69 11 zBk169.1 (hl_I ex as tys zΦ zIB 42 t) (.ref ax :: [.int x1, .int x2]) (fun _ ws => ∃ I' ∈ [zIB], hl_I ex as tys zΦ I' 42 t ws) :=
  hl_keep hex (qs_vc (ex := ex) hT hA (k := 0) (pc := 900) rfl).1 (fun fc _ => zBh169 ex (qΓ1 fc) D as tys hT hA) (by decide) (rs := (List.replicate 2 (.negSucc 2147483647, .ofNat 2147483647))) rfl rfl [x1, x2] rfl rfl ⟨_, rfl⟩ zckB_rivals rfl (hl_rs (xs := [x1, x2])) hax
set_option maxRecDepth 100000 in
theorem zckA_best : hl_ck zAk107 42 [zIA] = true := by decide +kernel
set_option maxRecDepth 100000 in
theorem zMA_best (hT : zk_t) (hA : zk_a) (hex : ∀ j, ex j = .null ∨ ∃ a, ex j = .ref a) (hax : as[0]? = some ax) (x1 x2 : Int32) : hl_M ex D as tys 69 11 zAk107.1 (hl_I ex as tys zΦ zIA 42 t) (.ref ax :: [.int x1, .int x2]) (fun _ ws => ∃ I' ∈ [zIA], hl_I ex as tys zΦ I' 42 t ws) :=
  hl_keep hex (qs_vc (ex := ex) hT hA (k := 0) (pc := 933) rfl).1 (fun fc _ => zAh107 ex (qΓ1 fc) D as tys hT hA) (by decide) (rs := (List.replicate 2 (.negSucc 2147483647, .ofNat 2147483647))) rfl rfl [x1, x2] rfl rfl ⟨_, rfl⟩ zckA_best rfl (hl_rs (xs := [x1, x2])) hax
set_option maxRecDepth 100000 in
theorem zckB_best : hl_ck zBk107 42 [zIB] = true := by decide +kernel
set_option maxRecDepth 100000 in
theorem zMB_best (hT : zk_t) (hA : zk_a) (hex : ∀ j, ex j = .null ∨ ∃ a, ex j = .ref a) (hax : as[0]? = some ax) (x1 x2 : Int32) : hl_M ex D as tys 69 11 zBk107.1 (hl_I ex as tys zΦ zIB 42 t) (.ref ax :: [.int x1, .int x2]) (fun _ ws => ∃ I' ∈ [zIB], hl_I ex as tys zΦ I' 42 t ws) :=
  hl_keep hex (qs_vc (ex := ex) hT hA (k := 0) (pc := 933) rfl).1 (fun fc _ => zBh107 ex (qΓ1 fc) D as tys hT hA) (by decide) (rs := (List.replicate 2 (.negSucc 2147483647, .ofNat 2147483647))) rfl rfl [x1, x2] rfl rfl ⟨_, rfl⟩ zckB_best rfl (hl_rs (xs := [x1, x2])) hax
set_option maxRecDepth 100000 in
theorem zckA_noon : hl_ck zAk134 42 [zIA] = true := by decide +kernel
set_option maxRecDepth 100000 in
theorem zMA_noon (hT : zk_t) (hA : zk_a) (hex : ∀ j, ex j = .null ∨ ∃ a, ex j = .ref a) (hax : as[0]? = some ax) (x1 x2 : Int32) : hl_M ex D as tys 69 11 zAk134.1 (hl_I ex as tys zΦ zIA 42 t) (.ref ax :: [.int x1, .int x2]) (fun _ ws => ∃ I' ∈ [zIA], hl_I ex as tys zΦ I' 42 t ws) :=
  hl_keep hex (qs_vc (ex := ex) hT hA (k := 0) (pc := 966) rfl).1 (fun fc _ => zAh134 ex (qΓ1 fc) D as tys hT hA) (by decide) (rs := (List.replicate 2 (.negSucc 2147483647, .ofNat 2147483647))) rfl rfl [x1, x2] rfl rfl ⟨_, rfl⟩ zckA_noon rfl (hl_rs (xs := [x1, x2])) hax
set_option maxRecDepth 100000 in
theorem zckB_noon : hl_ck zBk134 42 [zIB] = true := by decide +kernel
set_option maxRecDepth 100000 in
theorem zMB_noon (hT : zk_t) (hA : zk_a) (hex : ∀ j, ex j = .null ∨ ∃ a, ex j = .ref a) (hax : as[0]? = some ax) (x1 x2 : Int32) : hl_M ex D as tys 69 11 zBk134.1 (hl_I ex as tys zΦ zIB 42 t) (.ref ax :: [.int x1, .int x2]) (fun _ ws => ∃ I' ∈ [zIB], hl_I ex as tys zΦ I' 42 t ws) :=
  hl_keep hex (qs_vc (ex := ex) hT hA (k := 0) (pc := 966) rfl).1 (fun fc _ => zBh134 ex (qΓ1 fc) D as tys hT hA) (by decide) (rs := (List.replicate 2 (.negSucc 2147483647, .ofNat 2147483647))) rfl rfl [x1, x2] rfl rfl ⟨_, rfl⟩ zckB_noon rfl (hl_rs (xs := [x1, x2])) hax
set_option maxRecDepth 100000 in
theorem zckA_lonely : hl_ck zAk131 42 [zIA] = true := by decide +kernel
set_option maxRecDepth 100000 in
theorem zMA_lonely (hT : zk_t) (hA : zk_a) (hex : ∀ j, ex j = .null ∨ ∃ a, ex j = .ref a) (hax : as[0]? = some ax) : hl_M ex D as tys 69 11 zAk131.1 (hl_I ex as tys zΦ zIA 42 t) (.ref ax :: []) (fun _ ws => ∃ I' ∈ [zIA], hl_I ex as tys zΦ I' 42 t ws) :=
  hl_keep hex (qs_vc (ex := ex) hT hA (k := 0) (pc := 989) rfl).1 (fun fc _ => zAh131 ex (qΓ1 fc) D as tys hT hA) (by decide) (rs := (List.replicate 0 (.negSucc 2147483647, .ofNat 2147483647))) rfl rfl [] rfl rfl ⟨_, rfl⟩ zckA_lonely rfl (hl_rs (xs := [])) hax
set_option maxRecDepth 100000 in
theorem zckB_lonely : hl_ck zBk131 42 [zIB] = true := by decide +kernel
set_option maxRecDepth 100000 in
theorem zMB_lonely (hT : zk_t) (hA : zk_a) (hex : ∀ j, ex j = .null ∨ ∃ a, ex j = .ref a) (hax : as[0]? = some ax) : hl_M ex D as tys 69 11 zBk131.1 (hl_I ex as tys zΦ zIB 42 t) (.ref ax :: []) (fun _ ws => ∃ I' ∈ [zIB], hl_I ex as tys zΦ I' 42 t ws) :=
  hl_keep hex (qs_vc (ex := ex) hT hA (k := 0) (pc := 989) rfl).1 (fun fc _ => zBh131 ex (qΓ1 fc) D as tys hT hA) (by decide) (rs := (List.replicate 0 (.negSucc 2147483647, .ofNat 2147483647))) rfl rfl [] rfl rfl ⟨_, rfl⟩ zckB_lonely rfl (hl_rs (xs := [])) hax
set_option maxRecDepth 100000 in
theorem zckA_gap : hl_ck zAk121 42 [zIA] = true := by decide +kernel
set_option maxRecDepth 100000 in
theorem zMA_gap (hT : zk_t) (hA : zk_a) (hex : ∀ j, ex j = .null ∨ ∃ a, ex j = .ref a) (hax : as[0]? = some ax) : hl_M ex D as tys 69 11 zAk121.1 (hl_I ex as tys zΦ zIA 42 t) (.ref ax :: []) (fun _ ws => ∃ I' ∈ [zIA], hl_I ex as tys zΦ I' 42 t ws) :=
  hl_keep hex (qs_vc (ex := ex) hT hA (k := 0) (pc := 1002) rfl).1 (fun fc _ => zAh121 ex (qΓ1 fc) D as tys hT hA) (by decide) (rs := (List.replicate 0 (.negSucc 2147483647, .ofNat 2147483647))) rfl rfl [] rfl rfl ⟨_, rfl⟩ zckA_gap rfl (hl_rs (xs := [])) hax
set_option maxRecDepth 100000 in
theorem zckB_gap : hl_ck zBk121 42 [zIB] = true := by decide +kernel
set_option maxRecDepth 100000 in
theorem zMB_gap (hT : zk_t) (hA : zk_a) (hex : ∀ j, ex j = .null ∨ ∃ a, ex j = .ref a) (hax : as[0]? = some ax) : hl_M ex D as tys 69 11 zBk121.1 (hl_I ex as tys zΦ zIB 42 t) (.ref ax :: []) (fun _ ws => ∃ I' ∈ [zIB], hl_I ex as tys zΦ I' 42 t ws) :=
  hl_keep hex (qs_vc (ex := ex) hT hA (k := 0) (pc := 1002) rfl).1 (fun fc _ => zBh121 ex (qΓ1 fc) D as tys hT hA) (by decide) (rs := (List.replicate 0 (.negSucc 2147483647, .ofNat 2147483647))) rfl rfl [] rfl rfl ⟨_, rfl⟩ zckB_gap rfl (hl_rs (xs := [])) hax
set_option maxRecDepth 100000 in
theorem zckA_broke : hl_ck zAk108 42 [zIA] = true := by decide +kernel
set_option maxRecDepth 100000 in
theorem zMA_broke (hT : zk_t) (hA : zk_a) (hex : ∀ j, ex j = .null ∨ ∃ a, ex j = .ref a) (hax : as[0]? = some ax) : hl_M ex D as tys 69 11 zAk108.1 (hl_I ex as tys zΦ zIA 42 t) (.ref ax :: []) (fun _ ws => ∃ I' ∈ [zIA], hl_I ex as tys zΦ I' 42 t ws) :=
  hl_keep hex (qs_vc (ex := ex) hT hA (k := 0) (pc := 1015) rfl).1 (fun fc _ => zAh108 ex (qΓ1 fc) D as tys hT hA) (by decide) (rs := (List.replicate 0 (.negSucc 2147483647, .ofNat 2147483647))) rfl rfl [] rfl rfl ⟨_, rfl⟩ zckA_broke rfl (hl_rs (xs := [])) hax
set_option maxRecDepth 100000 in
theorem zckB_broke : hl_ck zBk108 42 [zIB] = true := by decide +kernel
set_option maxRecDepth 100000 in
theorem zMB_broke (hT : zk_t) (hA : zk_a) (hex : ∀ j, ex j = .null ∨ ∃ a, ex j = .ref a) (hax : as[0]? = some ax) : hl_M ex D as tys 69 11 zBk108.1 (hl_I ex as tys zΦ zIB 42 t) (.ref ax :: []) (fun _ ws => ∃ I' ∈ [zIB], hl_I ex as tys zΦ I' 42 t ws) :=
  hl_keep hex (qs_vc (ex := ex) hT hA (k := 0) (pc := 1015) rfl).1 (fun fc _ => zBh108 ex (qΓ1 fc) D as tys hT hA) (by decide) (rs := (List.replicate 0 (.negSucc 2147483647, .ofNat 2147483647))) rfl rfl [] rfl rfl ⟨_, rfl⟩ zckB_broke rfl (hl_rs (xs := [])) hax
set_option maxRecDepth 100000 in
theorem zckA_throne : hl_ck zAk191 42 [zIA] = true := by decide +kernel
set_option maxRecDepth 100000 in
theorem zMA_throne (hT : zk_t) (hA : zk_a) (hex : ∀ j, ex j = .null ∨ ∃ a, ex j = .ref a) (hax : as[0]? = some ax) : hl_M ex D as tys 69 11 zAk191.1 (hl_I ex as tys zΦ zIA 42 t) (.ref ax :: []) (fun _ ws => ∃ I' ∈ [zIA], hl_I ex as tys zΦ I' 42 t ws) :=
  hl_keep hex (qs_vc (ex := ex) hT hA (k := 0) (pc := 1028) rfl).1 (fun fc _ => zAh191 ex (qΓ1 fc) D as tys hT hA) (by decide) (rs := (List.replicate 0 (.negSucc 2147483647, .ofNat 2147483647))) rfl rfl [] rfl rfl ⟨_, rfl⟩ zckA_throne rfl (hl_rs (xs := [])) hax
set_option maxRecDepth 100000 in
theorem zckB_throne : hl_ck zBk191 42 [zIB] = true := by decide +kernel
set_option maxRecDepth 100000 in
theorem zMB_throne (hT : zk_t) (hA : zk_a) (hex : ∀ j, ex j = .null ∨ ∃ a, ex j = .ref a) (hax : as[0]? = some ax) : hl_M ex D as tys 69 11 zBk191.1 (hl_I ex as tys zΦ zIB 42 t) (.ref ax :: []) (fun _ ws => ∃ I' ∈ [zIB], hl_I ex as tys zΦ I' 42 t ws) :=
  hl_keep hex (qs_vc (ex := ex) hT hA (k := 0) (pc := 1028) rfl).1 (fun fc _ => zBh191 ex (qΓ1 fc) D as tys hT hA) (by decide) (rs := (List.replicate 0 (.negSucc 2147483647, .ofNat 2147483647))) rfl rfl [] rfl rfl ⟨_, rfl⟩ zckB_throne rfl (hl_rs (xs := [])) hax
set_option maxRecDepth 100000 in
theorem zckA_couples : hl_ck zAk113 42 [zIA] = true := by decide +kernel
set_option maxRecDepth 100000 in
theorem zMA_couples (hT : zk_t) (hA : zk_a) (hex : ∀ j, ex j = .null ∨ ∃ a, ex j = .ref a) (hax : as[0]? = some ax) : hl_M ex D as tys 69 11 zAk113.1 (hl_I ex as tys zΦ zIA 42 t) (.ref ax :: []) (fun _ ws => ∃ I' ∈ [zIA], hl_I ex as tys zΦ I' 42 t ws) :=
  hl_keep hex (qs_vc (ex := ex) hT hA (k := 0) (pc := 1041) rfl).1 (fun fc _ => zAh113 ex (qΓ1 fc) D as tys hT hA) (by decide) (rs := (List.replicate 0 (.negSucc 2147483647, .ofNat 2147483647))) rfl rfl [] rfl rfl ⟨_, rfl⟩ zckA_couples rfl (hl_rs (xs := [])) hax
set_option maxRecDepth 100000 in
theorem zckB_couples : hl_ck zBk113 42 [zIB] = true := by decide +kernel
set_option maxRecDepth 100000 in
theorem zMB_couples (hT : zk_t) (hA : zk_a) (hex : ∀ j, ex j = .null ∨ ∃ a, ex j = .ref a) (hax : as[0]? = some ax) : hl_M ex D as tys 69 11 zBk113.1 (hl_I ex as tys zΦ zIB 42 t) (.ref ax :: []) (fun _ ws => ∃ I' ∈ [zIB], hl_I ex as tys zΦ I' 42 t ws) :=
  hl_keep hex (qs_vc (ex := ex) hT hA (k := 0) (pc := 1041) rfl).1 (fun fc _ => zBh113 ex (qΓ1 fc) D as tys hT hA) (by decide) (rs := (List.replicate 0 (.negSucc 2147483647, .ofNat 2147483647))) rfl rfl [] rfl rfl ⟨_, rfl⟩ zckB_couples rfl (hl_rs (xs := [])) hax
set_option maxRecDepth 100000 in
theorem zckA_veteran : hl_ck zAk199 42 [zIA] = true := by decide +kernel
set_option maxRecDepth 100000 in
theorem zMA_veteran (hT : zk_t) (hA : zk_a) (hex : ∀ j, ex j = .null ∨ ∃ a, ex j = .ref a) (hax : as[0]? = some ax) : hl_M ex D as tys 69 11 zAk199.1 (hl_I ex as tys zΦ zIA 42 t) (.ref ax :: []) (fun _ ws => ∃ I' ∈ [zIA], hl_I ex as tys zΦ I' 42 t ws) :=
  hl_keep hex (qs_vc (ex := ex) hT hA (k := 0) (pc := 1054) rfl).1 (fun fc _ => zAh199 ex (qΓ1 fc) D as tys hT hA) (by decide) (rs := (List.replicate 0 (.negSucc 2147483647, .ofNat 2147483647))) rfl rfl [] rfl rfl ⟨_, rfl⟩ zckA_veteran rfl (hl_rs (xs := [])) hax
set_option maxRecDepth 100000 in
theorem zckB_veteran : hl_ck zBk199 42 [zIB] = true := by decide +kernel
set_option maxRecDepth 100000 in
theorem zMB_veteran (hT : zk_t) (hA : zk_a) (hex : ∀ j, ex j = .null ∨ ∃ a, ex j = .ref a) (hax : as[0]? = some ax) : hl_M ex D as tys 69 11 zBk199.1 (hl_I ex as tys zΦ zIB 42 t) (.ref ax :: []) (fun _ ws => ∃ I' ∈ [zIB], hl_I ex as tys zΦ I' 42 t ws) :=
  hl_keep hex (qs_vc (ex := ex) hT hA (k := 0) (pc := 1054) rfl).1 (fun fc _ => zBh199 ex (qΓ1 fc) D as tys hT hA) (by decide) (rs := (List.replicate 0 (.negSucc 2147483647, .ofNat 2147483647))) rfl rfl [] rfl rfl ⟨_, rfl⟩ zckB_veteran rfl (hl_rs (xs := [])) hax
set_option maxRecDepth 100000 in
theorem zckA_richest : hl_ck zAk152 42 [zIA] = true := by decide +kernel
set_option maxRecDepth 100000 in
theorem zMA_richest (hT : zk_t) (hA : zk_a) (hex : ∀ j, ex j = .null ∨ ∃ a, ex j = .ref a) (hax : as[0]? = some ax) : hl_M ex D as tys 69 11 zAk152.1 (hl_I ex as tys zΦ zIA 42 t) (.ref ax :: []) (fun _ ws => ∃ I' ∈ [zIA], hl_I ex as tys zΦ I' 42 t ws) :=
  hl_keep hex (qs_vc (ex := ex) hT hA (k := 0) (pc := 1067) rfl).1 (fun fc _ => zAh152 ex (qΓ1 fc) D as tys hT hA) (by decide) (rs := (List.replicate 0 (.negSucc 2147483647, .ofNat 2147483647))) rfl rfl [] rfl rfl ⟨_, rfl⟩ zckA_richest rfl (hl_rs (xs := [])) hax
set_option maxRecDepth 100000 in
theorem zckB_richest : hl_ck zBk152 42 [zIB] = true := by decide +kernel
set_option maxRecDepth 100000 in
theorem zMB_richest (hT : zk_t) (hA : zk_a) (hex : ∀ j, ex j = .null ∨ ∃ a, ex j = .ref a) (hax : as[0]? = some ax) : hl_M ex D as tys 69 11 zBk152.1 (hl_I ex as tys zΦ zIB 42 t) (.ref ax :: []) (fun _ ws => ∃ I' ∈ [zIB], hl_I ex as tys zΦ I' 42 t ws) :=
  hl_keep hex (qs_vc (ex := ex) hT hA (k := 0) (pc := 1067) rfl).1 (fun fc _ => zBh152 ex (qΓ1 fc) D as tys hT hA) (by decide) (rs := (List.replicate 0 (.negSucc 2147483647, .ofNat 2147483647))) rfl rfl [] rfl rfl ⟨_, rfl⟩ zckB_richest rfl (hl_rs (xs := [])) hax
set_option maxRecDepth 100000 in
theorem zckA_takings : hl_ck zAk189 42 [zIA] = true := by decide +kernel
set_option maxRecDepth 100000 in
theorem zMA_takings (hT : zk_t) (hA : zk_a) (hex : ∀ j, ex j = .null ∨ ∃ a, ex j = .ref a) (hax : as[0]? = some ax) : hl_M ex D as tys 69 11 zAk189.1 (hl_I ex as tys zΦ zIA 42 t) (.ref ax :: []) (fun _ ws => ∃ I' ∈ [zIA], hl_I ex as tys zΦ I' 42 t ws) :=
  hl_keep hex (qs_vc (ex := ex) hT hA (k := 0) (pc := 1080) rfl).1 (fun fc _ => zAh189 ex (qΓ1 fc) D as tys hT hA) (by decide) (rs := (List.replicate 0 (.negSucc 2147483647, .ofNat 2147483647))) rfl rfl [] rfl rfl ⟨_, rfl⟩ zckA_takings rfl (hl_rs (xs := [])) hax
set_option maxRecDepth 100000 in
theorem zckB_takings : hl_ck zBk189 42 [zIB] = true := by decide +kernel
set_option maxRecDepth 100000 in
theorem zMB_takings (hT : zk_t) (hA : zk_a) (hex : ∀ j, ex j = .null ∨ ∃ a, ex j = .ref a) (hax : as[0]? = some ax) : hl_M ex D as tys 69 11 zBk189.1 (hl_I ex as tys zΦ zIB 42 t) (.ref ax :: []) (fun _ ws => ∃ I' ∈ [zIB], hl_I ex as tys zΦ I' 42 t ws) :=
  hl_keep hex (qs_vc (ex := ex) hT hA (k := 0) (pc := 1080) rfl).1 (fun fc _ => zBh189 ex (qΓ1 fc) D as tys hT hA) (by decide) (rs := (List.replicate 0 (.negSucc 2147483647, .ofNat 2147483647))) rfl rfl [] rfl rfl ⟨_, rfl⟩ zckB_takings rfl (hl_rs (xs := [])) hax
set_option maxRecDepth 100000 in
theorem zckA_law : hl_ck zAk129 42 [zIA] = true := by decide +kernel
set_option maxRecDepth 100000 in
theorem zMA_law (hT : zk_t) (hA : zk_a) (hex : ∀ j, ex j = .null ∨ ∃ a, ex j = .ref a) (hax : as[0]? = some ax) (x1 : Int32) : hl_M ex D as tys 69 11 zAk129.1 (hl_I ex as tys zΦ zIA 42 t) (.ref ax :: [.int x1]) (fun _ ws => ∃ I' ∈ [zIA], hl_I ex as tys zΦ I' 42 t ws) :=
  hl_keep hex (qs_vc (ex := ex) hT hA (k := 0) (pc := 1098) rfl).1 (fun fc _ => zAh129 ex (qΓ1 fc) D as tys hT hA) (by decide) (rs := (List.replicate 1 (.negSucc 2147483647, .ofNat 2147483647))) rfl rfl [x1] rfl rfl ⟨_, rfl⟩ zckA_law rfl (hl_rs (xs := [x1])) hax
set_option maxRecDepth 100000 in
theorem zckB_law : hl_ck zBk129 42 [zIB] = true := by decide +kernel
set_option maxRecDepth 100000 in
theorem zMB_law (hT : zk_t) (hA : zk_a) (hex : ∀ j, ex j = .null ∨ ∃ a, ex j = .ref a) (hax : as[0]? = some ax) (x1 : Int32) : hl_M ex D as tys 69 11 zBk129.1 (hl_I ex as tys zΦ zIB 42 t) (.ref ax :: [.int x1]) (fun _ ws => ∃ I' ∈ [zIB], hl_I ex as tys zΦ I' 42 t ws) :=
  hl_keep hex (qs_vc (ex := ex) hT hA (k := 0) (pc := 1098) rfl).1 (fun fc _ => zBh129 ex (qΓ1 fc) D as tys hT hA) (by decide) (rs := (List.replicate 1 (.negSucc 2147483647, .ofNat 2147483647))) rfl rfl [x1] rfl rfl ⟨_, rfl⟩ zckB_law rfl (hl_rs (xs := [x1])) hax
set_option maxRecDepth 100000 in
theorem zckA_worst : hl_ck zAk201 42 [zIA] = true := by decide +kernel
set_option maxRecDepth 100000 in
theorem zMA_worst (hT : zk_t) (hA : zk_a) (hex : ∀ j, ex j = .null ∨ ∃ a, ex j = .ref a) (hax : as[0]? = some ax) (x1 : Int32) : hl_M ex D as tys 69 11 zAk201.1 (hl_I ex as tys zΦ zIA 42 t) (.ref ax :: [.int x1]) (fun _ ws => ∃ I' ∈ [zIA], hl_I ex as tys zΦ I' 42 t ws) :=
  hl_keep hex (qs_vc (ex := ex) hT hA (k := 0) (pc := 1121) rfl).1 (fun fc _ => zAh201 ex (qΓ1 fc) D as tys hT hA) (by decide) (rs := (List.replicate 1 (.negSucc 2147483647, .ofNat 2147483647))) rfl rfl [x1] rfl rfl ⟨_, rfl⟩ zckA_worst rfl (hl_rs (xs := [x1])) hax
set_option maxRecDepth 100000 in
theorem zckB_worst : hl_ck zBk201 42 [zIB] = true := by decide +kernel
set_option maxRecDepth 100000 in
theorem zMB_worst (hT : zk_t) (hA : zk_a) (hex : ∀ j, ex j = .null ∨ ∃ a, ex j = .ref a) (hax : as[0]? = some ax) (x1 : Int32) : hl_M ex D as tys 69 11 zBk201.1 (hl_I ex as tys zΦ zIB 42 t) (.ref ax :: [.int x1]) (fun _ ws => ∃ I' ∈ [zIB], hl_I ex as tys zΦ I' 42 t ws) :=
  hl_keep hex (qs_vc (ex := ex) hT hA (k := 0) (pc := 1121) rfl).1 (fun fc _ => zBh201 ex (qΓ1 fc) D as tys hT hA) (by decide) (rs := (List.replicate 1 (.negSucc 2147483647, .ofNat 2147483647))) rfl rfl [x1] rfl rfl ⟨_, rfl⟩ zckB_worst rfl (hl_rs (xs := [x1])) hax
set_option maxRecDepth 100000 in
theorem zckA_odds : hl_ck zAk136 42 [zIA] = true := by decide +kernel
set_option maxRecDepth 100000 in
theorem zMA_odds (hT : zk_t) (hA : zk_a) (hex : ∀ j, ex j = .null ∨ ∃ a, ex j = .ref a) (hax : as[0]? = some ax) (x1 x2 : Int32) : hl_M ex D as tys 69 11 zAk136.1 (hl_I ex as tys zΦ zIA 42 t) (.ref ax :: [.int x1, .int x2]) (fun _ ws => ∃ I' ∈ [zIA], hl_I ex as tys zΦ I' 42 t ws) :=
  hl_keep hex (qs_vc (ex := ex) hT hA (k := 0) (pc := 1149) rfl).1 (fun fc _ => zAh136 ex (qΓ1 fc) D as tys hT hA) (by decide) (rs := (List.replicate 2 (.negSucc 2147483647, .ofNat 2147483647))) rfl rfl [x1, x2] rfl rfl ⟨_, rfl⟩ zckA_odds rfl (hl_rs (xs := [x1, x2])) hax
set_option maxRecDepth 100000 in
theorem zckB_odds : hl_ck zBk136 42 [zIB] = true := by decide +kernel
set_option maxRecDepth 100000 in
theorem zMB_odds (hT : zk_t) (hA : zk_a) (hex : ∀ j, ex j = .null ∨ ∃ a, ex j = .ref a) (hax : as[0]? = some ax) (x1 x2 : Int32) : hl_M ex D as tys 69 11 zBk136.1 (hl_I ex as tys zΦ zIB 42 t) (.ref ax :: [.int x1, .int x2]) (fun _ ws => ∃ I' ∈ [zIB], hl_I ex as tys zΦ I' 42 t ws) :=
  hl_keep hex (qs_vc (ex := ex) hT hA (k := 0) (pc := 1149) rfl).1 (fun fc _ => zBh136 ex (qΓ1 fc) D as tys hT hA) (by decide) (rs := (List.replicate 2 (.negSucc 2147483647, .ofNat 2147483647))) rfl rfl [x1, x2] rfl rfl ⟨_, rfl⟩ zckB_odds rfl (hl_rs (xs := [x1, x2])) hax
set_option maxRecDepth 100000 in
theorem zckA_lies : hl_ck zAk130 42 [zIA] = true := by decide +kernel
set_option maxRecDepth 100000 in
theorem zMA_lies (hT : zk_t) (hA : zk_a) (hex : ∀ j, ex j = .null ∨ ∃ a, ex j = .ref a) (hax : as[0]? = some ax) (x1 : Int32) : hl_M ex D as tys 69 11 zAk130.1 (hl_I ex as tys zΦ zIA 42 t) (.ref ax :: [.int x1]) (fun _ ws => ∃ I' ∈ [zIA], hl_I ex as tys zΦ I' 42 t ws) :=
  hl_keep hex (qs_vc (ex := ex) hT hA (k := 0) (pc := 1177) rfl).1 (fun fc _ => zAh130 ex (qΓ1 fc) D as tys hT hA) (by decide) (rs := (List.replicate 1 (.negSucc 2147483647, .ofNat 2147483647))) rfl rfl [x1] rfl rfl ⟨_, rfl⟩ zckA_lies rfl (hl_rs (xs := [x1])) hax
set_option maxRecDepth 100000 in
theorem zckB_lies : hl_ck zBk130 42 [zIB] = true := by decide +kernel
set_option maxRecDepth 100000 in
theorem zMB_lies (hT : zk_t) (hA : zk_a) (hex : ∀ j, ex j = .null ∨ ∃ a, ex j = .ref a) (hax : as[0]? = some ax) (x1 : Int32) : hl_M ex D as tys 69 11 zBk130.1 (hl_I ex as tys zΦ zIB 42 t) (.ref ax :: [.int x1]) (fun _ ws => ∃ I' ∈ [zIB], hl_I ex as tys zΦ I' 42 t ws) :=
  hl_keep hex (qs_vc (ex := ex) hT hA (k := 0) (pc := 1177) rfl).1 (fun fc _ => zBh130 ex (qΓ1 fc) D as tys hT hA) (by decide) (rs := (List.replicate 1 (.negSucc 2147483647, .ofNat 2147483647))) rfl rfl [x1] rfl rfl ⟨_, rfl⟩ zckB_lies rfl (hl_rs (xs := [x1])) hax
set_option maxRecDepth 100000 in
theorem zckA_seen : hl_ck zAk181 42 [zIA] = true := by decide +kernel
set_option maxRecDepth 100000 in
theorem zMA_seen (hT : zk_t) (hA : zk_a) (hex : ∀ j, ex j = .null ∨ ∃ a, ex j = .ref a) (hax : as[0]? = some ax) (x1 x2 x3 : Int32) (hb : x3 = 0 ∨ x3 = 1) : hl_M ex D as tys 69 11 zAk181.1 (hl_I ex as tys zΦ zIA 42 t) (.ref ax :: [.int x1, .int x2, .int x3]) (fun _ ws => ∃ I' ∈ [zIA], hl_I ex as tys zΦ I' 42 t ws) :=
  hl_keep hex (qs_vc (ex := ex) hT hA (k := 0) (pc := 1218) rfl).1 (fun fc _ => zAh181 ex (qΓ1 fc) D as tys hT hA) (by decide) (rs := [(.negSucc 2147483647, .ofNat 2147483647), (.negSucc 2147483647, .ofNat 2147483647), (.ofNat 0, .ofNat 1)]) rfl rfl [x1, x2, x3] rfl rfl ⟨_, rfl⟩ zckA_seen rfl (hl_rsb hb) hax
set_option maxRecDepth 100000 in
theorem zckB_seen : hl_ck zBk181 42 [zIB] = true := by decide +kernel
set_option maxRecDepth 100000 in
theorem zMB_seen (hT : zk_t) (hA : zk_a) (hex : ∀ j, ex j = .null ∨ ∃ a, ex j = .ref a) (hax : as[0]? = some ax) (x1 x2 x3 : Int32) (hb : x3 = 0 ∨ x3 = 1) : hl_M ex D as tys 69 11 zBk181.1 (hl_I ex as tys zΦ zIB 42 t) (.ref ax :: [.int x1, .int x2, .int x3]) (fun _ ws => ∃ I' ∈ [zIB], hl_I ex as tys zΦ I' 42 t ws) :=
  hl_keep hex (qs_vc (ex := ex) hT hA (k := 0) (pc := 1218) rfl).1 (fun fc _ => zBh181 ex (qΓ1 fc) D as tys hT hA) (by decide) (rs := [(.negSucc 2147483647, .ofNat 2147483647), (.negSucc 2147483647, .ofNat 2147483647), (.ofNat 0, .ofNat 1)]) rfl rfl [x1, x2, x3] rfl rfl ⟨_, rfl⟩ zckB_seen rfl (hl_rsb hb) hax
set_option maxRecDepth 100000 in
theorem zckA_untell : hl_ck zAk198 42 [zIA] = true := by decide +kernel
set_option maxRecDepth 100000 in
theorem zMA_untell (hT : zk_t) (hA : zk_a) (hex : ∀ j, ex j = .null ∨ ∃ a, ex j = .ref a) (hax : as[0]? = some ax) (x1 : Int32) : hl_M ex D as tys 69 11 zAk198.1 (hl_I ex as tys zΦ zIA 42 t) (.ref ax :: [.int x1]) (fun _ ws => ∃ I' ∈ [zIA], hl_I ex as tys zΦ I' 42 t ws) :=
  hl_keep hex (qs_vc (ex := ex) hT hA (k := 0) (pc := 1259) rfl).1 (fun fc _ => zAh198 ex (qΓ1 fc) D as tys hT hA) (by decide) (rs := (List.replicate 1 (.negSucc 2147483647, .ofNat 2147483647))) rfl rfl [x1] rfl rfl ⟨_, rfl⟩ zckA_untell rfl (hl_rs (xs := [x1])) hax
set_option maxRecDepth 100000 in
theorem zckB_untell : hl_ck zBk198 42 [zIB] = true := by decide +kernel
set_option maxRecDepth 100000 in
theorem zMB_untell (hT : zk_t) (hA : zk_a) (hex : ∀ j, ex j = .null ∨ ∃ a, ex j = .ref a) (hax : as[0]? = some ax) (x1 : Int32) : hl_M ex D as tys 69 11 zBk198.1 (hl_I ex as tys zΦ zIB 42 t) (.ref ax :: [.int x1]) (fun _ ws => ∃ I' ∈ [zIB], hl_I ex as tys zΦ I' 42 t ws) :=
  hl_keep hex (qs_vc (ex := ex) hT hA (k := 0) (pc := 1259) rfl).1 (fun fc _ => zBh198 ex (qΓ1 fc) D as tys hT hA) (by decide) (rs := (List.replicate 1 (.negSucc 2147483647, .ofNat 2147483647))) rfl rfl [x1] rfl rfl ⟨_, rfl⟩ zckB_untell rfl (hl_rs (xs := [x1])) hax
set_option maxRecDepth 100000 in
theorem zckA_fits : hl_ck zAk120 42 [zIA] = true := by decide +kernel
set_option maxRecDepth 100000 in
theorem zMA_fits (hT : zk_t) (hA : zk_a) (hex : ∀ j, ex j = .null ∨ ∃ a, ex j = .ref a) (hax : as[0]? = some ax) (x1 : Int32) : hl_M ex D as tys 69 11 zAk120.1 (hl_I ex as tys zΦ zIA 42 t) (.ref ax :: [.int x1]) (fun _ ws => ∃ I' ∈ [zIA], hl_I ex as tys zΦ I' 42 t ws) :=
  hl_keep hex (qs_vc (ex := ex) hT hA (k := 0) (pc := 1305) rfl).1 (fun fc _ => zAh120 ex (qΓ1 fc) D as tys hT hA) (by decide) (rs := (List.replicate 1 (.negSucc 2147483647, .ofNat 2147483647))) rfl rfl [x1] rfl rfl ⟨_, rfl⟩ zckA_fits rfl (hl_rs (xs := [x1])) hax
set_option maxRecDepth 100000 in
theorem zckB_fits : hl_ck zBk120 42 [zIB] = true := by decide +kernel
set_option maxRecDepth 100000 in
theorem zMB_fits (hT : zk_t) (hA : zk_a) (hex : ∀ j, ex j = .null ∨ ∃ a, ex j = .ref a) (hax : as[0]? = some ax) (x1 : Int32) : hl_M ex D as tys 69 11 zBk120.1 (hl_I ex as tys zΦ zIB 42 t) (.ref ax :: [.int x1]) (fun _ ws => ∃ I' ∈ [zIB], hl_I ex as tys zΦ I' 42 t ws) :=
  hl_keep hex (qs_vc (ex := ex) hT hA (k := 0) (pc := 1305) rfl).1 (fun fc _ => zBh120 ex (qΓ1 fc) D as tys hT hA) (by decide) (rs := (List.replicate 1 (.negSucc 2147483647, .ofNat 2147483647))) rfl rfl [x1] rfl rfl ⟨_, rfl⟩ zckB_fits rfl (hl_rs (xs := [x1])) hax
set_option maxRecDepth 100000 in
theorem zckA_sure : hl_ck zAk188 42 [zIA] = true := by decide +kernel
set_option maxRecDepth 100000 in
theorem zMA_sure (hT : zk_t) (hA : zk_a) (hex : ∀ j, ex j = .null ∨ ∃ a, ex j = .ref a) (hax : as[0]? = some ax) (x1 x2 : Int32) : hl_M ex D as tys 69 11 zAk188.1 (hl_I ex as tys zΦ zIA 42 t) (.ref ax :: [.int x1, .int x2]) (fun _ ws => ∃ I' ∈ [zIA], hl_I ex as tys zΦ I' 42 t ws) :=
  hl_keep hex (qs_vc (ex := ex) hT hA (k := 0) (pc := 1333) rfl).1 (fun fc _ => zAh188 ex (qΓ1 fc) D as tys hT hA) (by decide) (rs := (List.replicate 2 (.negSucc 2147483647, .ofNat 2147483647))) rfl rfl [x1, x2] rfl rfl ⟨_, rfl⟩ zckA_sure rfl (hl_rs (xs := [x1, x2])) hax
set_option maxRecDepth 100000 in
theorem zckB_sure : hl_ck zBk188 42 [zIB] = true := by decide +kernel
set_option maxRecDepth 100000 in
theorem zMB_sure (hT : zk_t) (hA : zk_a) (hex : ∀ j, ex j = .null ∨ ∃ a, ex j = .ref a) (hax : as[0]? = some ax) (x1 x2 : Int32) : hl_M ex D as tys 69 11 zBk188.1 (hl_I ex as tys zΦ zIB 42 t) (.ref ax :: [.int x1, .int x2]) (fun _ ws => ∃ I' ∈ [zIB], hl_I ex as tys zΦ I' 42 t ws) :=
  hl_keep hex (qs_vc (ex := ex) hT hA (k := 0) (pc := 1333) rfl).1 (fun fc _ => zBh188 ex (qΓ1 fc) D as tys hT hA) (by decide) (rs := (List.replicate 2 (.negSucc 2147483647, .ofNat 2147483647))) rfl rfl [x1, x2] rfl rfl ⟨_, rfl⟩ zckB_sure rfl (hl_rs (xs := [x1, x2])) hax
set_option maxRecDepth 100000 in
theorem zckA_ask : hl_ck zAk7 42 [zIA] = true := by decide +kernel
set_option maxRecDepth 100000 in
theorem zMA_ask (hT : zk_t) (hA : zk_a) (hex : ∀ j, ex j = .null ∨ ∃ a, ex j = .ref a) (hax : as[0]? = some ax) (x1 x2 : Int32) : hl_M ex D as tys 69 11 zAk7.1 (hl_I ex as tys zΦ zIA 42 t) (.ref ax :: [.int x1, .int x2]) (fun _ ws => ∃ I' ∈ [zIA], hl_I ex as tys zΦ I' 42 t ws) :=
  hl_keep hex (qs_vc (ex := ex) hT hA (k := 0) (pc := 1366) rfl).1 (fun fc _ => zAh7 ex (qΓ1 fc) D as tys hT hA) (by decide) (rs := (List.replicate 2 (.negSucc 2147483647, .ofNat 2147483647))) rfl rfl [x1, x2] rfl rfl ⟨_, rfl⟩ zckA_ask rfl (hl_rs (xs := [x1, x2])) hax
set_option maxRecDepth 100000 in
theorem zckB_ask : hl_ck zBk7 42 [zIB] = true := by decide +kernel
set_option maxRecDepth 100000 in
theorem zMB_ask (hT : zk_t) (hA : zk_a) (hex : ∀ j, ex j = .null ∨ ∃ a, ex j = .ref a) (hax : as[0]? = some ax) (x1 x2 : Int32) : hl_M ex D as tys 69 11 zBk7.1 (hl_I ex as tys zΦ zIB 42 t) (.ref ax :: [.int x1, .int x2]) (fun _ ws => ∃ I' ∈ [zIB], hl_I ex as tys zΦ I' 42 t ws) :=
  hl_keep hex (qs_vc (ex := ex) hT hA (k := 0) (pc := 1366) rfl).1 (fun fc _ => zBh7 ex (qΓ1 fc) D as tys hT hA) (by decide) (rs := (List.replicate 2 (.negSucc 2147483647, .ofNat 2147483647))) rfl rfl [x1, x2] rfl rfl ⟨_, rfl⟩ zckB_ask rfl (hl_rs (xs := [x1, x2])) hax
set_option maxRecDepth 100000 in
theorem zckA_image : hl_ck zAk127 42 [zIA] = true := by decide +kernel
set_option maxRecDepth 100000 in
theorem zMA_image (hT : zk_t) (hA : zk_a) (hex : ∀ j, ex j = .null ∨ ∃ a, ex j = .ref a) (hax : as[0]? = some ax) (x1 : Int32) : hl_M ex D as tys 69 11 zAk127.1 (hl_I ex as tys zΦ zIA 42 t) (.ref ax :: [.int x1]) (fun _ ws => ∃ I' ∈ [zIA], hl_I ex as tys zΦ I' 42 t ws) :=
  hl_keep hex (qs_vc (ex := ex) hT hA (k := 0) (pc := 1394) rfl).1 (fun fc _ => zAh127 ex (qΓ1 fc) D as tys hT hA) (by decide) (rs := (List.replicate 1 (.negSucc 2147483647, .ofNat 2147483647))) rfl rfl [x1] rfl rfl ⟨_, rfl⟩ zckA_image rfl (hl_rs (xs := [x1])) hax
set_option maxRecDepth 100000 in
theorem zckB_image : hl_ck zBk127 42 [zIB] = true := by decide +kernel
set_option maxRecDepth 100000 in
theorem zMB_image (hT : zk_t) (hA : zk_a) (hex : ∀ j, ex j = .null ∨ ∃ a, ex j = .ref a) (hax : as[0]? = some ax) (x1 : Int32) : hl_M ex D as tys 69 11 zBk127.1 (hl_I ex as tys zΦ zIB 42 t) (.ref ax :: [.int x1]) (fun _ ws => ∃ I' ∈ [zIB], hl_I ex as tys zΦ I' 42 t ws) :=
  hl_keep hex (qs_vc (ex := ex) hT hA (k := 0) (pc := 1394) rfl).1 (fun fc _ => zBh127 ex (qΓ1 fc) D as tys hT hA) (by decide) (rs := (List.replicate 1 (.negSucc 2147483647, .ofNat 2147483647))) rfl rfl [x1] rfl rfl ⟨_, rfl⟩ zckB_image rfl (hl_rs (xs := [x1])) hax
set_option maxRecDepth 100000 in
theorem zckA_back : hl_ck zAk8 42 [zIA] = true := by decide +kernel
set_option maxRecDepth 100000 in
theorem zMA_back (hT : zk_t) (hA : zk_a) (hex : ∀ j, ex j = .null ∨ ∃ a, ex j = .ref a) (hax : as[0]? = some ax) (x1 : Int32) : hl_M ex D as tys 69 11 zAk8.1 (hl_I ex as tys zΦ zIA 42 t) (.ref ax :: [.int x1]) (fun _ ws => ∃ I' ∈ [zIA], hl_I ex as tys zΦ I' 42 t ws) :=
  hl_keep hex (qs_vc (ex := ex) hT hA (k := 0) (pc := 1417) rfl).1 (fun fc _ => zAh8 ex (qΓ1 fc) D as tys hT hA) (by decide) (rs := (List.replicate 1 (.negSucc 2147483647, .ofNat 2147483647))) rfl rfl [x1] rfl rfl ⟨_, rfl⟩ zckA_back rfl (hl_rs (xs := [x1])) hax
set_option maxRecDepth 100000 in
theorem zckB_back : hl_ck zBk8 42 [zIB] = true := by decide +kernel
set_option maxRecDepth 100000 in
theorem zMB_back (hT : zk_t) (hA : zk_a) (hex : ∀ j, ex j = .null ∨ ∃ a, ex j = .ref a) (hax : as[0]? = some ax) (x1 : Int32) : hl_M ex D as tys 69 11 zBk8.1 (hl_I ex as tys zΦ zIB 42 t) (.ref ax :: [.int x1]) (fun _ ws => ∃ I' ∈ [zIB], hl_I ex as tys zΦ I' 42 t ws) :=
  hl_keep hex (qs_vc (ex := ex) hT hA (k := 0) (pc := 1417) rfl).1 (fun fc _ => zBh8 ex (qΓ1 fc) D as tys hT hA) (by decide) (rs := (List.replicate 1 (.negSucc 2147483647, .ofNat 2147483647))) rfl rfl [x1] rfl rfl ⟨_, rfl⟩ zckB_back rfl (hl_rs (xs := [x1])) hax
set_option maxRecDepth 100000 in
theorem zckA_about : hl_ck zAk2 42 [zIA] = true := by decide +kernel
set_option maxRecDepth 100000 in
theorem zMA_about (hT : zk_t) (hA : zk_a) (hex : ∀ j, ex j = .null ∨ ∃ a, ex j = .ref a) (hax : as[0]? = some ax) (x1 : Int32) : hl_M ex D as tys 69 11 zAk2.1 (hl_I ex as tys zΦ zIA 42 t) (.ref ax :: [.int x1]) (fun _ ws => ∃ I' ∈ [zIA], hl_I ex as tys zΦ I' 42 t ws) :=
  hl_keep hex (qs_vc (ex := ex) hT hA (k := 0) (pc := 1440) rfl).1 (fun fc _ => zAh2 ex (qΓ1 fc) D as tys hT hA) (by decide) (rs := (List.replicate 1 (.negSucc 2147483647, .ofNat 2147483647))) rfl rfl [x1] rfl rfl ⟨_, rfl⟩ zckA_about rfl (hl_rs (xs := [x1])) hax
set_option maxRecDepth 100000 in
theorem zckB_about : hl_ck zBk2 42 [zIB] = true := by decide +kernel
set_option maxRecDepth 100000 in
theorem zMB_about (hT : zk_t) (hA : zk_a) (hex : ∀ j, ex j = .null ∨ ∃ a, ex j = .ref a) (hax : as[0]? = some ax) (x1 : Int32) : hl_M ex D as tys 69 11 zBk2.1 (hl_I ex as tys zΦ zIB 42 t) (.ref ax :: [.int x1]) (fun _ ws => ∃ I' ∈ [zIB], hl_I ex as tys zΦ I' 42 t ws) :=
  hl_keep hex (qs_vc (ex := ex) hT hA (k := 0) (pc := 1440) rfl).1 (fun fc _ => zBh2 ex (qΓ1 fc) D as tys hT hA) (by decide) (rs := (List.replicate 1 (.negSucc 2147483647, .ofNat 2147483647))) rfl rfl [x1] rfl rfl ⟨_, rfl⟩ zckB_about rfl (hl_rs (xs := [x1])) hax
abbrev zΦ0 : (Nat → Nat → Int32) → Prop := fun fc => hp_g fc 0
abbrev zΦ1 : (Nat → Nat → Int32) → Prop := fun fc => hp_g fc 1
set_option maxRecDepth 100000 in
theorem zck0_feed : hl_ck zRk25 23 [zI0] = true := by decide +kernel
set_option maxRecDepth 100000 in
theorem zM0_feed (hT : zk_t) (hA : zk_a) (hex : ∀ j, ex j = .null ∨ ∃ a, ex j = .ref a) (hax : as[0]? = some ax) (x1 x2 x3 x4 x5 : Int32) : hl_M ex D as tys 69 12 zRk25.1 (hl_I ex as tys zΦ0 zI0 23 t) (.ref ax :: [.int x1, .int x2, .int x3, .int x4, .int x5]) (fun _ ws => ∃ I' ∈ [zI0], hl_I ex as tys zΦ0 I' 23 t ws) :=
  hl_keep hex (qs_vc (ex := ex) hT hA (k := 0) (pc := 300) rfl).1 (fun fc h => zRq25 ex (qΓ1 fc) D as tys hT hA ) (by decide) (rs := (List.replicate 5 (.negSucc 2147483647, .ofNat 2147483647))) rfl rfl [x1, x2, x3, x4, x5] rfl rfl ⟨_, rfl⟩ zck0_feed rfl (hl_rs (xs := [x1, x2, x3, x4, x5])) hax
set_option maxRecDepth 100000 in
theorem zck1_feed : hl_ck zRk84 23 [zI1] = true := by decide +kernel
set_option maxRecDepth 100000 in
theorem zM1_feed (hT : zk_t) (hA : zk_a) (hex : ∀ j, ex j = .null ∨ ∃ a, ex j = .ref a) (hax : as[0]? = some ax) (x1 x2 x3 x4 x5 : Int32) : hl_M ex D as tys 69 12 zRk84.1 (hl_I ex as tys zΦ1 zI1 23 t) (.ref ax :: [.int x1, .int x2, .int x3, .int x4, .int x5]) (fun _ ws => ∃ I' ∈ [zI1], hl_I ex as tys zΦ1 I' 23 t ws) :=
  hl_keep hex (qs_vc (ex := ex) hT hA (k := 0) (pc := 300) rfl).1 (fun fc h => zRq84 ex (qΓ1 fc) D as tys hT hA ) (by decide) (rs := (List.replicate 5 (.negSucc 2147483647, .ofNat 2147483647))) rfl rfl [x1, x2, x3, x4, x5] rfl rfl ⟨_, rfl⟩ zck1_feed rfl (hl_rs (xs := [x1, x2, x3, x4, x5])) hax
set_option maxRecDepth 100000 in
theorem zck0_end : hl_ck zRk22 23 [zI0] = true := by decide +kernel
set_option maxRecDepth 100000 in
theorem zM0_end (hT : zk_t) (hA : zk_a) (hex : ∀ j, ex j = .null ∨ ∃ a, ex j = .ref a) (hax : as[0]? = some ax) (x1 : Int32) : hl_M ex D as tys 69 12 zRk22.1 (hl_I ex as tys zΦ0 zI0 23 t) (.ref ax :: [.int x1]) (fun _ ws => ∃ I' ∈ [zI0], hl_I ex as tys zΦ0 I' 23 t ws) :=
  hl_keep hex (qs_vc (ex := ex) hT hA (k := 0) (pc := 323) rfl).1 (fun fc h => zRq22 ex (qΓ1 fc) D as tys hT hA ) (by decide) (rs := (List.replicate 1 (.negSucc 2147483647, .ofNat 2147483647))) rfl rfl [x1] rfl rfl ⟨_, rfl⟩ zck0_end rfl (hl_rs (xs := [x1])) hax
set_option maxRecDepth 100000 in
theorem zck1_end : hl_ck zRk81 23 [zI1] = true := by decide +kernel
set_option maxRecDepth 100000 in
theorem zM1_end (hT : zk_t) (hA : zk_a) (hex : ∀ j, ex j = .null ∨ ∃ a, ex j = .ref a) (hax : as[0]? = some ax) (x1 : Int32) : hl_M ex D as tys 69 12 zRk81.1 (hl_I ex as tys zΦ1 zI1 23 t) (.ref ax :: [.int x1]) (fun _ ws => ∃ I' ∈ [zI1], hl_I ex as tys zΦ1 I' 23 t ws) :=
  hl_keep hex (qs_vc (ex := ex) hT hA (k := 0) (pc := 323) rfl).1 (fun fc h => zRq81 ex (qΓ1 fc) D as tys hT hA ) (by decide) (rs := (List.replicate 1 (.negSucc 2147483647, .ofNat 2147483647))) rfl rfl [x1] rfl rfl ⟨_, rfl⟩ zck1_end rfl (hl_rs (xs := [x1])) hax
set_option maxRecDepth 100000 in
theorem zck0_fault : hl_ck zRk24 23 [zI0] = true := by decide +kernel
set_option maxRecDepth 100000 in
theorem zM0_fault (hT : zk_t) (hA : zk_a) (hex : ∀ j, ex j = .null ∨ ∃ a, ex j = .ref a) (hax : as[0]? = some ax) (x1 : Int32) : hl_M ex D as tys 69 12 zRk24.1 (hl_I ex as tys zΦ0 zI0 23 t) (.ref ax :: [.int x1]) (fun _ ws => ∃ I' ∈ [zI0], hl_I ex as tys zΦ0 I' 23 t ws) :=
  hl_keep hex (qs_vc (ex := ex) hT hA (k := 0) (pc := 359) rfl).1 (fun fc h => zRq24 ex (qΓ1 fc) D as tys hT hA ) (by decide) (rs := (List.replicate 1 (.negSucc 2147483647, .ofNat 2147483647))) rfl rfl [x1] rfl rfl ⟨_, rfl⟩ zck0_fault rfl (hl_rs (xs := [x1])) hax
set_option maxRecDepth 100000 in
theorem zck1_fault : hl_ck zRk83 23 [zI1] = true := by decide +kernel
set_option maxRecDepth 100000 in
theorem zM1_fault (hT : zk_t) (hA : zk_a) (hex : ∀ j, ex j = .null ∨ ∃ a, ex j = .ref a) (hax : as[0]? = some ax) (x1 : Int32) : hl_M ex D as tys 69 12 zRk83.1 (hl_I ex as tys zΦ1 zI1 23 t) (.ref ax :: [.int x1]) (fun _ ws => ∃ I' ∈ [zI1], hl_I ex as tys zΦ1 I' 23 t ws) :=
  hl_keep hex (qs_vc (ex := ex) hT hA (k := 0) (pc := 359) rfl).1 (fun fc h => zRq83 ex (qΓ1 fc) D as tys hT hA ) (by decide) (rs := (List.replicate 1 (.negSucc 2147483647, .ofNat 2147483647))) rfl rfl [x1] rfl rfl ⟨_, rfl⟩ zck1_fault rfl (hl_rs (xs := [x1])) hax
set_option maxRecDepth 100000 in
theorem zck0_chair : hl_ck zRk17 23 [zI0] = true := by decide +kernel
set_option maxRecDepth 100000 in
theorem zM0_chair (hT : zk_t) (hA : zk_a) (hex : ∀ j, ex j = .null ∨ ∃ a, ex j = .ref a) (hax : as[0]? = some ax) (x1 x2 : Int32) : hl_M ex D as tys 69 12 zRk17.1 (hl_I ex as tys zΦ0 zI0 23 t) (.ref ax :: [.int x1, .int x2]) (fun _ ws => ∃ I' ∈ [zI0], hl_I ex as tys zΦ0 I' 23 t ws) :=
  hl_keep hex (qs_vc (ex := ex) hT hA (k := 0) (pc := 392) rfl).1 (fun fc h => zRq17 ex (qΓ1 fc) D as tys hT hA ) (by decide) (rs := (List.replicate 2 (.negSucc 2147483647, .ofNat 2147483647))) rfl rfl [x1, x2] rfl rfl ⟨_, rfl⟩ zck0_chair rfl (hl_rs (xs := [x1, x2])) hax
set_option maxRecDepth 100000 in
theorem zck1_chair : hl_ck zRk77 23 [zI1] = true := by decide +kernel
set_option maxRecDepth 100000 in
theorem zM1_chair (hT : zk_t) (hA : zk_a) (hex : ∀ j, ex j = .null ∨ ∃ a, ex j = .ref a) (hax : as[0]? = some ax) (x1 x2 : Int32) : hl_M ex D as tys 69 12 zRk77.1 (hl_I ex as tys zΦ1 zI1 23 t) (.ref ax :: [.int x1, .int x2]) (fun _ ws => ∃ I' ∈ [zI1], hl_I ex as tys zΦ1 I' 23 t ws) :=
  hl_keep hex (qs_vc (ex := ex) hT hA (k := 0) (pc := 392) rfl).1 (fun fc h => zRq77 ex (qΓ1 fc) D as tys hT hA ) (by decide) (rs := (List.replicate 2 (.negSucc 2147483647, .ofNat 2147483647))) rfl rfl [x1, x2] rfl rfl ⟨_, rfl⟩ zck1_chair rfl (hl_rs (xs := [x1, x2])) hax
set_option maxRecDepth 100000 in
theorem zck0_sitter : hl_ck zRk55 23 [zI0] = true := by decide +kernel
set_option maxRecDepth 100000 in
theorem zM0_sitter (hT : zk_t) (hA : zk_a) (hex : ∀ j, ex j = .null ∨ ∃ a, ex j = .ref a) (hax : as[0]? = some ax) (x1 x2 : Int32) : hl_M ex D as tys 69 12 zRk55.1 (hl_I ex as tys zΦ0 zI0 23 t) (.ref ax :: [.int x1, .int x2]) (fun _ ws => ∃ I' ∈ [zI0], hl_I ex as tys zΦ0 I' 23 t ws) :=
  hl_keep hex (qs_vc (ex := ex) hT hA (k := 0) (pc := 425) rfl).1 (fun fc h => zRq55 ex (qΓ1 fc) D as tys hT hA ) (by decide) (rs := (List.replicate 2 (.negSucc 2147483647, .ofNat 2147483647))) rfl rfl [x1, x2] rfl rfl ⟨_, rfl⟩ zck0_sitter rfl (hl_rs (xs := [x1, x2])) hax
set_option maxRecDepth 100000 in
theorem zck1_sitter : hl_ck zRk111 23 [zI1] = true := by decide +kernel
set_option maxRecDepth 100000 in
theorem zM1_sitter (hT : zk_t) (hA : zk_a) (hex : ∀ j, ex j = .null ∨ ∃ a, ex j = .ref a) (hax : as[0]? = some ax) (x1 x2 : Int32) : hl_M ex D as tys 69 12 zRk111.1 (hl_I ex as tys zΦ1 zI1 23 t) (.ref ax :: [.int x1, .int x2]) (fun _ ws => ∃ I' ∈ [zI1], hl_I ex as tys zΦ1 I' 23 t ws) :=
  hl_keep hex (qs_vc (ex := ex) hT hA (k := 0) (pc := 425) rfl).1 (fun fc h => zRq111 ex (qΓ1 fc) D as tys hT hA ) (by decide) (rs := (List.replicate 2 (.negSucc 2147483647, .ofNat 2147483647))) rfl rfl [x1, x2] rfl rfl ⟨_, rfl⟩ zck1_sitter rfl (hl_rs (xs := [x1, x2])) hax
set_option maxRecDepth 100000 in
theorem zck0_had : hl_ck zRk28 23 [zI0] = true := by decide +kernel
set_option maxRecDepth 100000 in
theorem zM0_had (hT : zk_t) (hA : zk_a) (hex : ∀ j, ex j = .null ∨ ∃ a, ex j = .ref a) (hax : as[0]? = some ax) (x1 x2 : Int32) : hl_M ex D as tys 69 12 zRk28.1 (hl_I ex as tys zΦ0 zI0 23 t) (.ref ax :: [.int x1, .int x2]) (fun _ ws => ∃ I' ∈ [zI0], hl_I ex as tys zΦ0 I' 23 t ws) :=
  hl_keep hex (qs_vc (ex := ex) hT hA (k := 0) (pc := 458) rfl).1 (fun fc h => zRq28 ex (qΓ1 fc) D as tys hT hA (hr_had0 hT hA (fun f e => by rw [show f = fc from e]; exact h))) (by decide) (rs := (List.replicate 2 (.negSucc 2147483647, .ofNat 2147483647))) rfl rfl [x1, x2] rfl rfl ⟨_, rfl⟩ zck0_had rfl (hl_rs (xs := [x1, x2])) hax
set_option maxRecDepth 100000 in
theorem zck1_had : hl_ck zRk87 23 [zI1] = true := by decide +kernel
set_option maxRecDepth 100000 in
theorem zM1_had (hT : zk_t) (hA : zk_a) (hex : ∀ j, ex j = .null ∨ ∃ a, ex j = .ref a) (hax : as[0]? = some ax) (x1 x2 : Int32) : hl_M ex D as tys 69 12 zRk87.1 (hl_I ex as tys zΦ1 zI1 23 t) (.ref ax :: [.int x1, .int x2]) (fun _ ws => ∃ I' ∈ [zI1], hl_I ex as tys zΦ1 I' 23 t ws) :=
  hl_keep hex (qs_vc (ex := ex) hT hA (k := 0) (pc := 458) rfl).1 (fun fc h => zRq87 ex (qΓ1 fc) D as tys hT hA (hr_had1 hT hA (fun f e => by rw [show f = fc from e]; exact h))) (by decide) (rs := (List.replicate 2 (.negSucc 2147483647, .ofNat 2147483647))) rfl rfl [x1, x2] rfl rfl ⟨_, rfl⟩ zck1_had rfl (hl_rs (xs := [x1, x2])) hax
set_option maxRecDepth 100000 in
theorem zck0_hour : hl_ck zRk30 23 [zI0] = true := by decide +kernel
set_option maxRecDepth 100000 in
theorem zM0_hour (hT : zk_t) (hA : zk_a) (hex : ∀ j, ex j = .null ∨ ∃ a, ex j = .ref a) (hax : as[0]? = some ax) : hl_M ex D as tys 69 12 zRk30.1 (hl_I ex as tys zΦ0 zI0 23 t) (.ref ax :: []) (fun _ ws => ∃ I' ∈ [zI0], hl_I ex as tys zΦ0 I' 23 t ws) :=
  hl_keep hex (qs_vc (ex := ex) hT hA (k := 0) (pc := 471) rfl).1 (fun fc h => zRq30 ex (qΓ1 fc) D as tys hT hA (hr_had0 hT hA (fun f e => by rw [show f = fc from e]; exact h)) (hr_keep hT hA)) (by decide) (rs := (List.replicate 0 (.negSucc 2147483647, .ofNat 2147483647))) rfl rfl [] rfl rfl ⟨_, rfl⟩ zck0_hour rfl (hl_rs (xs := [])) hax
set_option maxRecDepth 100000 in
theorem zck1_hour : hl_ck zRk89 23 [zI1] = true := by decide +kernel
set_option maxRecDepth 100000 in
theorem zM1_hour (hT : zk_t) (hA : zk_a) (hex : ∀ j, ex j = .null ∨ ∃ a, ex j = .ref a) (hax : as[0]? = some ax) : hl_M ex D as tys 69 12 zRk89.1 (hl_I ex as tys zΦ1 zI1 23 t) (.ref ax :: []) (fun _ ws => ∃ I' ∈ [zI1], hl_I ex as tys zΦ1 I' 23 t ws) :=
  hl_keep hex (qs_vc (ex := ex) hT hA (k := 0) (pc := 471) rfl).1 (fun fc h => zRq89 ex (qΓ1 fc) D as tys hT hA (hr_keep hT hA) (hr_had1 hT hA (fun f e => by rw [show f = fc from e]; exact h))) (by decide) (rs := (List.replicate 0 (.negSucc 2147483647, .ofNat 2147483647))) rfl rfl [] rfl rfl ⟨_, rfl⟩ zck1_hour rfl (hl_rs (xs := [])) hax
set_option maxRecDepth 100000 in
theorem zck0_sit : hl_ck zRk54 23 [zI0] = true := by decide +kernel
set_option maxRecDepth 100000 in
theorem zM0_sit (hT : zk_t) (hA : zk_a) (hex : ∀ j, ex j = .null ∨ ∃ a, ex j = .ref a) (hax : as[0]? = some ax) (x1 x2 : Int32) : hl_M ex D as tys 69 12 zRk54.1 (hl_I ex as tys zΦ0 zI0 23 t) (.ref ax :: [.int x1, .int x2]) (fun _ ws => ∃ I' ∈ [zI0], hl_I ex as tys zΦ0 I' 23 t ws) :=
  hl_keep hex (qs_vc (ex := ex) hT hA (k := 0) (pc := 504) rfl).1 (fun fc h => zRq54 ex (qΓ1 fc) D as tys hT hA (hr_had0 hT hA (fun f e => by rw [show f = fc from e]; exact h)) (hr_keep hT hA)) (by decide) (rs := (List.replicate 2 (.negSucc 2147483647, .ofNat 2147483647))) rfl rfl [x1, x2] rfl rfl ⟨_, rfl⟩ zck0_sit rfl (hl_rs (xs := [x1, x2])) hax
set_option maxRecDepth 100000 in
theorem zck1_sit : hl_ck zRk110 23 [zI1] = true := by decide +kernel
set_option maxRecDepth 100000 in
theorem zM1_sit (hT : zk_t) (hA : zk_a) (hex : ∀ j, ex j = .null ∨ ∃ a, ex j = .ref a) (hax : as[0]? = some ax) (x1 x2 : Int32) : hl_M ex D as tys 69 12 zRk110.1 (hl_I ex as tys zΦ1 zI1 23 t) (.ref ax :: [.int x1, .int x2]) (fun _ ws => ∃ I' ∈ [zI1], hl_I ex as tys zΦ1 I' 23 t ws) :=
  hl_keep hex (qs_vc (ex := ex) hT hA (k := 0) (pc := 504) rfl).1 (fun fc h => zRq110 ex (qΓ1 fc) D as tys hT hA (hr_keep hT hA) (hr_had1 hT hA (fun f e => by rw [show f = fc from e]; exact h))) (by decide) (rs := (List.replicate 2 (.negSucc 2147483647, .ofNat 2147483647))) rfl rfl [x1, x2] rfl rfl ⟨_, rfl⟩ zck1_sit rfl (hl_rs (xs := [x1, x2])) hax
set_option maxRecDepth 100000 in
theorem zck0_rise : hl_ck zRk49 23 [zI0] = true := by decide +kernel
set_option maxRecDepth 100000 in
theorem zM0_rise (hT : zk_t) (hA : zk_a) (hex : ∀ j, ex j = .null ∨ ∃ a, ex j = .ref a) (hax : as[0]? = some ax) (x1 : Int32) : hl_M ex D as tys 69 12 zRk49.1 (hl_I ex as tys zΦ0 zI0 23 t) (.ref ax :: [.int x1]) (fun _ ws => ∃ I' ∈ [zI0], hl_I ex as tys zΦ0 I' 23 t ws) :=
  hl_keep hex (qs_vc (ex := ex) hT hA (k := 0) (pc := 527) rfl).1 (fun fc h => zRq49 ex (qΓ1 fc) D as tys hT hA (hr_keep hT hA)) (by decide) (rs := (List.replicate 1 (.negSucc 2147483647, .ofNat 2147483647))) rfl rfl [x1] rfl rfl ⟨_, rfl⟩ zck0_rise rfl (hl_rs (xs := [x1])) hax
set_option maxRecDepth 100000 in
theorem zck1_rise : hl_ck zRk105 23 [zI1] = true := by decide +kernel
set_option maxRecDepth 100000 in
theorem zM1_rise (hT : zk_t) (hA : zk_a) (hex : ∀ j, ex j = .null ∨ ∃ a, ex j = .ref a) (hax : as[0]? = some ax) (x1 : Int32) : hl_M ex D as tys 69 12 zRk105.1 (hl_I ex as tys zΦ1 zI1 23 t) (.ref ax :: [.int x1]) (fun _ ws => ∃ I' ∈ [zI1], hl_I ex as tys zΦ1 I' 23 t ws) :=
  hl_keep hex (qs_vc (ex := ex) hT hA (k := 0) (pc := 527) rfl).1 (fun fc h => zRq105 ex (qΓ1 fc) D as tys hT hA (hr_keep hT hA)) (by decide) (rs := (List.replicate 1 (.negSucc 2147483647, .ofNat 2147483647))) rfl rfl [x1] rfl rfl ⟨_, rfl⟩ zck1_rise rfl (hl_rs (xs := [x1])) hax
set_option maxRecDepth 100000 in
theorem zck0_change : hl_ck zRk20 23 [zI0] = true := by decide +kernel
set_option maxRecDepth 100000 in
theorem zM0_change (hT : zk_t) (hA : zk_a) (hex : ∀ j, ex j = .null ∨ ∃ a, ex j = .ref a) (hax : as[0]? = some ax) (x1 x2 : Int32) : hl_M ex D as tys 69 12 zRk20.1 (hl_I ex as tys zΦ0 zI0 23 t) (.ref ax :: [.int x1, .int x2]) (fun _ ws => ∃ I' ∈ [zI0], hl_I ex as tys zΦ0 I' 23 t ws) :=
  hl_keep hex (qs_vc (ex := ex) hT hA (k := 0) (pc := 560) rfl).1 (fun fc h => zRq20 ex (qΓ1 fc) D as tys hT hA (hr_had0 hT hA (fun f e => by rw [show f = fc from e]; exact h)) (hr_keep hT hA)) (by decide) (rs := (List.replicate 2 (.negSucc 2147483647, .ofNat 2147483647))) rfl rfl [x1, x2] rfl rfl ⟨_, rfl⟩ zck0_change rfl (hl_rs (xs := [x1, x2])) hax
set_option maxRecDepth 100000 in
theorem zck1_change : hl_ck zRk79 23 [zI1] = true := by decide +kernel
set_option maxRecDepth 100000 in
theorem zM1_change (hT : zk_t) (hA : zk_a) (hex : ∀ j, ex j = .null ∨ ∃ a, ex j = .ref a) (hax : as[0]? = some ax) (x1 x2 : Int32) : hl_M ex D as tys 69 12 zRk79.1 (hl_I ex as tys zΦ1 zI1 23 t) (.ref ax :: [.int x1, .int x2]) (fun _ ws => ∃ I' ∈ [zI1], hl_I ex as tys zΦ1 I' 23 t ws) :=
  hl_keep hex (qs_vc (ex := ex) hT hA (k := 0) (pc := 560) rfl).1 (fun fc h => zRq79 ex (qΓ1 fc) D as tys hT hA (hr_keep hT hA) (hr_had1 hT hA (fun f e => by rw [show f = fc from e]; exact h))) (by decide) (rs := (List.replicate 2 (.negSucc 2147483647, .ofNat 2147483647))) rfl rfl [x1, x2] rfl rfl ⟨_, rfl⟩ zck1_change rfl (hl_rs (xs := [x1, x2])) hax
set_option maxRecDepth 100000 in
theorem zck0_move : hl_ck zRk37 23 [zI0] = true := by decide +kernel
set_option maxRecDepth 100000 in
theorem zM0_move (hT : zk_t) (hA : zk_a) (hex : ∀ j, ex j = .null ∨ ∃ a, ex j = .ref a) (hax : as[0]? = some ax) (x1 x2 : Int32) : hl_M ex D as tys 69 12 zRk37.1 (hl_I ex as tys zΦ0 zI0 23 t) (.ref ax :: [.int x1, .int x2]) (fun _ ws => ∃ I' ∈ [zI0], hl_I ex as tys zΦ0 I' 23 t ws) :=
  hl_keep hex (qs_vc (ex := ex) hT hA (k := 0) (pc := 593) rfl).1 (fun fc h => zRq37 ex (qΓ1 fc) D as tys hT hA (hr_keep hT hA)) (by decide) (rs := (List.replicate 2 (.negSucc 2147483647, .ofNat 2147483647))) rfl rfl [x1, x2] rfl rfl ⟨_, rfl⟩ zck0_move rfl (hl_rs (xs := [x1, x2])) hax
set_option maxRecDepth 100000 in
theorem zck1_move : hl_ck zRk95 23 [zI1] = true := by decide +kernel
set_option maxRecDepth 100000 in
theorem zM1_move (hT : zk_t) (hA : zk_a) (hex : ∀ j, ex j = .null ∨ ∃ a, ex j = .ref a) (hax : as[0]? = some ax) (x1 x2 : Int32) : hl_M ex D as tys 69 12 zRk95.1 (hl_I ex as tys zΦ1 zI1 23 t) (.ref ax :: [.int x1, .int x2]) (fun _ ws => ∃ I' ∈ [zI1], hl_I ex as tys zΦ1 I' 23 t ws) :=
  hl_keep hex (qs_vc (ex := ex) hT hA (k := 0) (pc := 593) rfl).1 (fun fc h => zRq95 ex (qΓ1 fc) D as tys hT hA (hr_keep hT hA)) (by decide) (rs := (List.replicate 2 (.negSucc 2147483647, .ofNat 2147483647))) rfl rfl [x1, x2] rfl rfl ⟨_, rfl⟩ zck1_move rfl (hl_rs (xs := [x1, x2])) hax
set_option maxRecDepth 100000 in
theorem zck0_fill : hl_ck zRk26 23 [zI0] = true := by decide +kernel
set_option maxRecDepth 100000 in
theorem zM0_fill (hT : zk_t) (hA : zk_a) (hex : ∀ j, ex j = .null ∨ ∃ a, ex j = .ref a) (hax : as[0]? = some ax) (x1 x2 : Int32) : hl_M ex D as tys 69 12 zRk26.1 (hl_I ex as tys zΦ0 zI0 23 t) (.ref ax :: [.int x1, .int x2]) (fun _ ws => ∃ I' ∈ [zI0], hl_I ex as tys zΦ0 I' 23 t ws) :=
  hl_keep hex (qs_vc (ex := ex) hT hA (k := 0) (pc := 626) rfl).1 (fun fc h => zRq26 ex (qΓ1 fc) D as tys hT hA (hr_keep hT hA)) (by decide) (rs := (List.replicate 2 (.negSucc 2147483647, .ofNat 2147483647))) rfl rfl [x1, x2] rfl rfl ⟨_, rfl⟩ zck0_fill rfl (hl_rs (xs := [x1, x2])) hax
set_option maxRecDepth 100000 in
theorem zck1_fill : hl_ck zRk85 23 [zI1] = true := by decide +kernel
set_option maxRecDepth 100000 in
theorem zM1_fill (hT : zk_t) (hA : zk_a) (hex : ∀ j, ex j = .null ∨ ∃ a, ex j = .ref a) (hax : as[0]? = some ax) (x1 x2 : Int32) : hl_M ex D as tys 69 12 zRk85.1 (hl_I ex as tys zΦ1 zI1 23 t) (.ref ax :: [.int x1, .int x2]) (fun _ ws => ∃ I' ∈ [zI1], hl_I ex as tys zΦ1 I' 23 t ws) :=
  hl_keep hex (qs_vc (ex := ex) hT hA (k := 0) (pc := 626) rfl).1 (fun fc h => zRq85 ex (qΓ1 fc) D as tys hT hA (hr_keep hT hA)) (by decide) (rs := (List.replicate 2 (.negSucc 2147483647, .ofNat 2147483647))) rfl rfl [x1, x2] rfl rfl ⟨_, rfl⟩ zck1_fill rfl (hl_rs (xs := [x1, x2])) hax
set_option maxRecDepth 100000 in
theorem zck0_undo : hl_ck zRk60 23 [zI0] = true := by decide +kernel
set_option maxRecDepth 100000 in
theorem zM0_undo (hT : zk_t) (hA : zk_a) (hex : ∀ j, ex j = .null ∨ ∃ a, ex j = .ref a) (hax : as[0]? = some ax) : hl_M ex D as tys 69 12 zRk60.1 (hl_I ex as tys zΦ0 zI0 23 t) (.ref ax :: []) (fun _ ws => ∃ I' ∈ [zI0], hl_I ex as tys zΦ0 I' 23 t ws) :=
  hl_keep hex (qs_vc (ex := ex) hT hA (k := 0) (pc := 639) rfl).1 (fun fc h => zRq60 ex (qΓ1 fc) D as tys hT hA ) (by decide) (rs := (List.replicate 0 (.negSucc 2147483647, .ofNat 2147483647))) rfl rfl [] rfl rfl ⟨_, rfl⟩ zck0_undo rfl (hl_rs (xs := [])) hax
set_option maxRecDepth 100000 in
theorem zck1_undo : hl_ck zRk116 23 [zI1] = true := by decide +kernel
set_option maxRecDepth 100000 in
theorem zM1_undo (hT : zk_t) (hA : zk_a) (hex : ∀ j, ex j = .null ∨ ∃ a, ex j = .ref a) (hax : as[0]? = some ax) : hl_M ex D as tys 69 12 zRk116.1 (hl_I ex as tys zΦ1 zI1 23 t) (.ref ax :: []) (fun _ ws => ∃ I' ∈ [zI1], hl_I ex as tys zΦ1 I' 23 t ws) :=
  hl_keep hex (qs_vc (ex := ex) hT hA (k := 0) (pc := 639) rfl).1 (fun fc h => zRq116 ex (qΓ1 fc) D as tys hT hA ) (by decide) (rs := (List.replicate 0 (.negSucc 2147483647, .ofNat 2147483647))) rfl rfl [] rfl rfl ⟨_, rfl⟩ zck1_undo rfl (hl_rs (xs := [])) hax
set_option maxRecDepth 100000 in
theorem zck0_redo : hl_ck zRk43 23 [zI0] = true := by decide +kernel
set_option maxRecDepth 100000 in
theorem zM0_redo (hT : zk_t) (hA : zk_a) (hex : ∀ j, ex j = .null ∨ ∃ a, ex j = .ref a) (hax : as[0]? = some ax) : hl_M ex D as tys 69 12 zRk43.1 (hl_I ex as tys zΦ0 zI0 23 t) (.ref ax :: []) (fun _ ws => ∃ I' ∈ [zI0], hl_I ex as tys zΦ0 I' 23 t ws) :=
  hl_keep hex (qs_vc (ex := ex) hT hA (k := 0) (pc := 652) rfl).1 (fun fc h => zRq43 ex (qΓ1 fc) D as tys hT hA ) (by decide) (rs := (List.replicate 0 (.negSucc 2147483647, .ofNat 2147483647))) rfl rfl [] rfl rfl ⟨_, rfl⟩ zck0_redo rfl (hl_rs (xs := [])) hax
set_option maxRecDepth 100000 in
theorem zck1_redo : hl_ck zRk99 23 [zI1] = true := by decide +kernel
set_option maxRecDepth 100000 in
theorem zM1_redo (hT : zk_t) (hA : zk_a) (hex : ∀ j, ex j = .null ∨ ∃ a, ex j = .ref a) (hax : as[0]? = some ax) : hl_M ex D as tys 69 12 zRk99.1 (hl_I ex as tys zΦ1 zI1 23 t) (.ref ax :: []) (fun _ ws => ∃ I' ∈ [zI1], hl_I ex as tys zΦ1 I' 23 t ws) :=
  hl_keep hex (qs_vc (ex := ex) hT hA (k := 0) (pc := 652) rfl).1 (fun fc h => zRq99 ex (qΓ1 fc) D as tys hT hA ) (by decide) (rs := (List.replicate 0 (.negSucc 2147483647, .ofNat 2147483647))) rfl rfl [] rfl rfl ⟨_, rfl⟩ zck1_redo rfl (hl_rs (xs := [])) hax
set_option maxRecDepth 100000 in
theorem zck0_will : hl_ck zRk63 23 [zI0] = true := by decide +kernel
set_option maxRecDepth 100000 in
theorem zM0_will (hT : zk_t) (hA : zk_a) (hex : ∀ j, ex j = .null ∨ ∃ a, ex j = .ref a) (hax : as[0]? = some ax) (x1 x2 : Int32) : hl_M ex D as tys 69 12 zRk63.1 (hl_I ex as tys zΦ0 zI0 23 t) (.ref ax :: [.int x1, .int x2]) (fun _ ws => ∃ I' ∈ [zI0], hl_I ex as tys zΦ0 I' 23 t ws) :=
  hl_keep hex (qs_vc (ex := ex) hT hA (k := 0) (pc := 685) rfl).1 (fun fc h => zRq63 ex (qΓ1 fc) D as tys hT hA (hr_had0 hT hA (fun f e => by rw [show f = fc from e]; exact h))) (by decide) (rs := (List.replicate 2 (.negSucc 2147483647, .ofNat 2147483647))) rfl rfl [x1, x2] rfl rfl ⟨_, rfl⟩ zck0_will rfl (hl_rs (xs := [x1, x2])) hax
set_option maxRecDepth 100000 in
theorem zck1_will : hl_ck zRk119 23 [zI1] = true := by decide +kernel
set_option maxRecDepth 100000 in
theorem zM1_will (hT : zk_t) (hA : zk_a) (hex : ∀ j, ex j = .null ∨ ∃ a, ex j = .ref a) (hax : as[0]? = some ax) (x1 x2 : Int32) : hl_M ex D as tys 69 12 zRk119.1 (hl_I ex as tys zΦ1 zI1 23 t) (.ref ax :: [.int x1, .int x2]) (fun _ ws => ∃ I' ∈ [zI1], hl_I ex as tys zΦ1 I' 23 t ws) :=
  hl_keep hex (qs_vc (ex := ex) hT hA (k := 0) (pc := 685) rfl).1 (fun fc h => zRq119 ex (qΓ1 fc) D as tys hT hA (hr_had1 hT hA (fun f e => by rw [show f = fc from e]; exact h))) (by decide) (rs := (List.replicate 2 (.negSucc 2147483647, .ofNat 2147483647))) rfl rfl [x1, x2] rfl rfl ⟨_, rfl⟩ zck1_will rfl (hl_rs (xs := [x1, x2])) hax
set_option maxRecDepth 100000 in
theorem zck0_standing : hl_ck zRk56 23 [zI0] = true := by decide +kernel
set_option maxRecDepth 100000 in
theorem zM0_standing (hT : zk_t) (hA : zk_a) (hex : ∀ j, ex j = .null ∨ ∃ a, ex j = .ref a) (hax : as[0]? = some ax) (x1 : Int32) : hl_M ex D as tys 69 12 zRk56.1 (hl_I ex as tys zΦ0 zI0 23 t) (.ref ax :: [.int x1]) (fun _ ws => ∃ I' ∈ [zI0], hl_I ex as tys zΦ0 I' 23 t ws) :=
  hl_keep hex (qs_vc (ex := ex) hT hA (k := 0) (pc := 708) rfl).1 (fun fc h => zRq56 ex (qΓ1 fc) D as tys hT hA (hr_had0 hT hA (fun f e => by rw [show f = fc from e]; exact h))) (by decide) (rs := (List.replicate 1 (.negSucc 2147483647, .ofNat 2147483647))) rfl rfl [x1] rfl rfl ⟨_, rfl⟩ zck0_standing rfl (hl_rs (xs := [x1])) hax
set_option maxRecDepth 100000 in
theorem zck1_standing : hl_ck zRk112 23 [zI1] = true := by decide +kernel
set_option maxRecDepth 100000 in
theorem zM1_standing (hT : zk_t) (hA : zk_a) (hex : ∀ j, ex j = .null ∨ ∃ a, ex j = .ref a) (hax : as[0]? = some ax) (x1 : Int32) : hl_M ex D as tys 69 12 zRk112.1 (hl_I ex as tys zΦ1 zI1 23 t) (.ref ax :: [.int x1]) (fun _ ws => ∃ I' ∈ [zI1], hl_I ex as tys zΦ1 I' 23 t ws) :=
  hl_keep hex (qs_vc (ex := ex) hT hA (k := 0) (pc := 708) rfl).1 (fun fc h => zRq112 ex (qΓ1 fc) D as tys hT hA (hr_had1 hT hA (fun f e => by rw [show f = fc from e]; exact h))) (by decide) (rs := (List.replicate 1 (.negSucc 2147483647, .ofNat 2147483647))) rfl rfl [x1] rfl rfl ⟨_, rfl⟩ zck1_standing rfl (hl_rs (xs := [x1])) hax
set_option maxRecDepth 100000 in
theorem zck0_out : hl_ck zRk41 23 [zI0] = true := by decide +kernel
set_option maxRecDepth 100000 in
theorem zM0_out (hT : zk_t) (hA : zk_a) (hex : ∀ j, ex j = .null ∨ ∃ a, ex j = .ref a) (hax : as[0]? = some ax) (x1 : Int32) : hl_M ex D as tys 69 12 zRk41.1 (hl_I ex as tys zΦ0 zI0 23 t) (.ref ax :: [.int x1]) (fun _ ws => ∃ I' ∈ [zI0], hl_I ex as tys zΦ0 I' 23 t ws) :=
  hl_keep hex (qs_vc (ex := ex) hT hA (k := 0) (pc := 731) rfl).1 (fun fc h => zRq41 ex (qΓ1 fc) D as tys hT hA (hr_had0 hT hA (fun f e => by rw [show f = fc from e]; exact h))) (by decide) (rs := (List.replicate 1 (.negSucc 2147483647, .ofNat 2147483647))) rfl rfl [x1] rfl rfl ⟨_, rfl⟩ zck0_out rfl (hl_rs (xs := [x1])) hax
set_option maxRecDepth 100000 in
theorem zck1_out : hl_ck zRk98 23 [zI1] = true := by decide +kernel
set_option maxRecDepth 100000 in
theorem zM1_out (hT : zk_t) (hA : zk_a) (hex : ∀ j, ex j = .null ∨ ∃ a, ex j = .ref a) (hax : as[0]? = some ax) (x1 : Int32) : hl_M ex D as tys 69 12 zRk98.1 (hl_I ex as tys zΦ1 zI1 23 t) (.ref ax :: [.int x1]) (fun _ ws => ∃ I' ∈ [zI1], hl_I ex as tys zΦ1 I' 23 t ws) :=
  hl_keep hex (qs_vc (ex := ex) hT hA (k := 0) (pc := 731) rfl).1 (fun fc h => zRq98 ex (qΓ1 fc) D as tys hT hA (hr_had1 hT hA (fun f e => by rw [show f = fc from e]; exact h))) (by decide) (rs := (List.replicate 1 (.negSucc 2147483647, .ofNat 2147483647))) rfl rfl [x1] rfl rfl ⟨_, rfl⟩ zck1_out rfl (hl_rs (xs := [x1])) hax
set_option maxRecDepth 100000 in
theorem zck0_seat : hl_ck zSk73 23 [zI0] = true := by decide +kernel
set_option maxRecDepth 100000 in
theorem zM0_seat (hT : zk_t) (hA : zk_a) (hex : ∀ j, ex j = .null ∨ ∃ a, ex j = .ref a) (hax : as[0]? = some ax) : hl_M ex D as tys 69 12 zSk73.1 (hl_I ex as tys zΦ0 zI0 23 t) (.ref ax :: []) (fun _ ws => ∃ I' ∈ [zI0], hl_I ex as tys zΦ0 I' 23 t ws) :=
  hl_keep hex (qs_vc (ex := ex) hT hA (k := 0) (pc := 744) rfl).1 (fun fc h => zSh73 ex (qΓ1 fc) D as tys hT hA (hrS_had0 hT hA (fun f e => by rw [show f = fc from e]; exact h)) (zSbest0 hT hA (fun f e => by rw [show f = fc from e]; exact hrS_had0 hT hA (fun f e => by rw [show f = fc from e]; exact h)))) (by decide) (rs := (List.replicate 0 (.negSucc 2147483647, .ofNat 2147483647))) rfl rfl [] rfl rfl ⟨_, rfl⟩ zck0_seat rfl (hl_rs (xs := [])) hax
set_option maxRecDepth 100000 in
theorem zck1_seat : hl_ck zSk81 23 [zI1] = true := by decide +kernel
set_option maxRecDepth 100000 in
theorem zM1_seat (hT : zk_t) (hA : zk_a) (hex : ∀ j, ex j = .null ∨ ∃ a, ex j = .ref a) (hax : as[0]? = some ax) : hl_M ex D as tys 69 12 zSk81.1 (hl_I ex as tys zΦ1 zI1 23 t) (.ref ax :: []) (fun _ ws => ∃ I' ∈ [zI1], hl_I ex as tys zΦ1 I' 23 t ws) :=
  hl_keep hex (qs_vc (ex := ex) hT hA (k := 0) (pc := 744) rfl).1 (fun fc h => zSh81 ex (qΓ1 fc) D as tys hT hA (hrS_had1 hT hA (fun f e => by rw [show f = fc from e]; exact h)) (zSbest1 hT hA (fun f e => by rw [show f = fc from e]; exact hrS_had1 hT hA (fun f e => by rw [show f = fc from e]; exact h)))) (by decide) (rs := (List.replicate 0 (.negSucc 2147483647, .ofNat 2147483647))) rfl rfl [] rfl rfl ⟨_, rfl⟩ zck1_seat rfl (hl_rs (xs := [])) hax
set_option maxRecDepth 100000 in
theorem zck0_toll : hl_ck zSk74 23 [zI0] = true := by decide +kernel
set_option maxRecDepth 100000 in
theorem zM0_toll (hT : zk_t) (hA : zk_a) (hex : ∀ j, ex j = .null ∨ ∃ a, ex j = .ref a) (hax : as[0]? = some ax) (x1 : Int32) : hl_M ex D as tys 69 12 zSk74.1 (hl_I ex as tys zΦ0 zI0 23 t) (.ref ax :: [.int x1]) (fun _ ws => ∃ I' ∈ [zI0], hl_I ex as tys zΦ0 I' 23 t ws) :=
  hl_keep hex (qs_vc (ex := ex) hT hA (k := 0) (pc := 767) rfl).1 (fun fc h => zSh74 ex (qΓ1 fc) D as tys hT hA (hrS_had0 hT hA (fun f e => by rw [show f = fc from e]; exact h)) (zSbest0 hT hA (fun f e => by rw [show f = fc from e]; exact hrS_had0 hT hA (fun f e => by rw [show f = fc from e]; exact h)))) (by decide) (rs := (List.replicate 1 (.negSucc 2147483647, .ofNat 2147483647))) rfl rfl [x1] rfl rfl ⟨_, rfl⟩ zck0_toll rfl (hl_rs (xs := [x1])) hax
set_option maxRecDepth 100000 in
theorem zck1_toll : hl_ck zSk82 23 [zI1] = true := by decide +kernel
set_option maxRecDepth 100000 in
theorem zM1_toll (hT : zk_t) (hA : zk_a) (hex : ∀ j, ex j = .null ∨ ∃ a, ex j = .ref a) (hax : as[0]? = some ax) (x1 : Int32) : hl_M ex D as tys 69 12 zSk82.1 (hl_I ex as tys zΦ1 zI1 23 t) (.ref ax :: [.int x1]) (fun _ ws => ∃ I' ∈ [zI1], hl_I ex as tys zΦ1 I' 23 t ws) :=
  hl_keep hex (qs_vc (ex := ex) hT hA (k := 0) (pc := 767) rfl).1 (fun fc h => zSh82 ex (qΓ1 fc) D as tys hT hA (hrS_had1 hT hA (fun f e => by rw [show f = fc from e]; exact h)) (zSbest1 hT hA (fun f e => by rw [show f = fc from e]; exact hrS_had1 hT hA (fun f e => by rw [show f = fc from e]; exact h)))) (by decide) (rs := (List.replicate 1 (.negSucc 2147483647, .ofNat 2147483647))) rfl rfl [x1] rfl rfl ⟨_, rfl⟩ zck1_toll rfl (hl_rs (xs := [x1])) hax
set_option maxRecDepth 100000 in
theorem zck0_opening : hl_ck zSk76 23 [zI0] = true := by decide +kernel
set_option maxRecDepth 100000 in
theorem zM0_opening (hT : zk_t) (hA : zk_a) (hex : ∀ j, ex j = .null ∨ ∃ a, ex j = .ref a) (hax : as[0]? = some ax) (x1 : Int32) : hl_M ex D as tys 69 12 zSk76.1 (hl_I ex as tys zΦ0 zI0 23 t) (.ref ax :: [.int x1]) (fun _ ws => ∃ I' ∈ [zI0], hl_I ex as tys zΦ0 I' 23 t ws) :=
  hl_keep hex (qs_vc (ex := ex) hT hA (k := 0) (pc := 790) rfl).1 (fun fc h => zSh76 ex (qΓ1 fc) D as tys hT hA (zSmoves hT hA)) (by decide) (rs := (List.replicate 1 (.negSucc 2147483647, .ofNat 2147483647))) rfl rfl [x1] rfl rfl ⟨_, rfl⟩ zck0_opening rfl (hl_rs (xs := [x1])) hax
set_option maxRecDepth 100000 in
theorem zck1_opening : hl_ck zSk83 23 [zI1] = true := by decide +kernel
set_option maxRecDepth 100000 in
theorem zM1_opening (hT : zk_t) (hA : zk_a) (hex : ∀ j, ex j = .null ∨ ∃ a, ex j = .ref a) (hax : as[0]? = some ax) (x1 : Int32) : hl_M ex D as tys 69 12 zSk83.1 (hl_I ex as tys zΦ1 zI1 23 t) (.ref ax :: [.int x1]) (fun _ ws => ∃ I' ∈ [zI1], hl_I ex as tys zΦ1 I' 23 t ws) :=
  hl_keep hex (qs_vc (ex := ex) hT hA (k := 0) (pc := 790) rfl).1 (fun fc h => zSh83 ex (qΓ1 fc) D as tys hT hA (zSmoves hT hA)) (by decide) (rs := (List.replicate 1 (.negSucc 2147483647, .ofNat 2147483647))) rfl rfl [x1] rfl rfl ⟨_, rfl⟩ zck1_opening rfl (hl_rs (xs := [x1])) hax
set_option maxRecDepth 100000 in
theorem zck0_trade : hl_ck zRk59 23 [zI0] = true := by decide +kernel
set_option maxRecDepth 100000 in
theorem zM0_trade (hT : zk_t) (hA : zk_a) (hex : ∀ j, ex j = .null ∨ ∃ a, ex j = .ref a) (hax : as[0]? = some ax) (x1 : Int32) : hl_M ex D as tys 69 12 zRk59.1 (hl_I ex as tys zΦ0 zI0 23 t) (.ref ax :: [.int x1]) (fun _ ws => ∃ I' ∈ [zI0], hl_I ex as tys zΦ0 I' 23 t ws) :=
  hl_keep hex (qs_vc (ex := ex) hT hA (k := 0) (pc := 813) rfl).1 (fun fc h => zRq59 ex (qΓ1 fc) D as tys hT hA (hr_had0 hT hA (fun f e => by rw [show f = fc from e]; exact h))) (by decide) (rs := (List.replicate 1 (.negSucc 2147483647, .ofNat 2147483647))) rfl rfl [x1] rfl rfl ⟨_, rfl⟩ zck0_trade rfl (hl_rs (xs := [x1])) hax
set_option maxRecDepth 100000 in
theorem zck1_trade : hl_ck zRk115 23 [zI1] = true := by decide +kernel
set_option maxRecDepth 100000 in
theorem zM1_trade (hT : zk_t) (hA : zk_a) (hex : ∀ j, ex j = .null ∨ ∃ a, ex j = .ref a) (hax : as[0]? = some ax) (x1 : Int32) : hl_M ex D as tys 69 12 zRk115.1 (hl_I ex as tys zΦ1 zI1 23 t) (.ref ax :: [.int x1]) (fun _ ws => ∃ I' ∈ [zI1], hl_I ex as tys zΦ1 I' 23 t ws) :=
  hl_keep hex (qs_vc (ex := ex) hT hA (k := 0) (pc := 813) rfl).1 (fun fc h => zRq115 ex (qΓ1 fc) D as tys hT hA (hr_had1 hT hA (fun f e => by rw [show f = fc from e]; exact h))) (by decide) (rs := (List.replicate 1 (.negSucc 2147483647, .ofNat 2147483647))) rfl rfl [x1] rfl rfl ⟨_, rfl⟩ zck1_trade rfl (hl_rs (xs := [x1])) hax
set_option maxRecDepth 100000 in
theorem zck0_ring : hl_ck zRk48 23 [zI0] = true := by decide +kernel
set_option maxRecDepth 100000 in
theorem zM0_ring (hT : zk_t) (hA : zk_a) (hex : ∀ j, ex j = .null ∨ ∃ a, ex j = .ref a) (hax : as[0]? = some ax) : hl_M ex D as tys 69 12 zRk48.1 (hl_I ex as tys zΦ0 zI0 23 t) (.ref ax :: []) (fun _ ws => ∃ I' ∈ [zI0], hl_I ex as tys zΦ0 I' 23 t ws) :=
  hl_keep hex (qs_vc (ex := ex) hT hA (k := 0) (pc := 826) rfl).1 (fun fc h => zRq48 ex (qΓ1 fc) D as tys hT hA (hr_had0 hT hA (fun f e => by rw [show f = fc from e]; exact h))) (by decide) (rs := (List.replicate 0 (.negSucc 2147483647, .ofNat 2147483647))) rfl rfl [] rfl rfl ⟨_, rfl⟩ zck0_ring rfl (hl_rs (xs := [])) hax
set_option maxRecDepth 100000 in
theorem zck1_ring : hl_ck zRk104 23 [zI1] = true := by decide +kernel
set_option maxRecDepth 100000 in
theorem zM1_ring (hT : zk_t) (hA : zk_a) (hex : ∀ j, ex j = .null ∨ ∃ a, ex j = .ref a) (hax : as[0]? = some ax) : hl_M ex D as tys 69 12 zRk104.1 (hl_I ex as tys zΦ1 zI1 23 t) (.ref ax :: []) (fun _ ws => ∃ I' ∈ [zI1], hl_I ex as tys zΦ1 I' 23 t ws) :=
  hl_keep hex (qs_vc (ex := ex) hT hA (k := 0) (pc := 826) rfl).1 (fun fc h => zRq104 ex (qΓ1 fc) D as tys hT hA (hr_had1 hT hA (fun f e => by rw [show f = fc from e]; exact h))) (by decide) (rs := (List.replicate 0 (.negSucc 2147483647, .ofNat 2147483647))) rfl rfl [] rfl rfl ⟨_, rfl⟩ zck1_ring rfl (hl_rs (xs := [])) hax
set_option maxRecDepth 100000 in
theorem zck0_envy : hl_ck zRk23 23 [zI0] = true := by decide +kernel
set_option maxRecDepth 100000 in
theorem zM0_envy (hT : zk_t) (hA : zk_a) (hex : ∀ j, ex j = .null ∨ ∃ a, ex j = .ref a) (hax : as[0]? = some ax) (x1 : Int32) : hl_M ex D as tys 69 12 zRk23.1 (hl_I ex as tys zΦ0 zI0 23 t) (.ref ax :: [.int x1]) (fun _ ws => ∃ I' ∈ [zI0], hl_I ex as tys zΦ0 I' 23 t ws) :=
  hl_keep hex (qs_vc (ex := ex) hT hA (k := 0) (pc := 849) rfl).1 (fun fc h => zRq23 ex (qΓ1 fc) D as tys hT hA (hr_had0 hT hA (fun f e => by rw [show f = fc from e]; exact h))) (by decide) (rs := (List.replicate 1 (.negSucc 2147483647, .ofNat 2147483647))) rfl rfl [x1] rfl rfl ⟨_, rfl⟩ zck0_envy rfl (hl_rs (xs := [x1])) hax
set_option maxRecDepth 100000 in
theorem zck1_envy : hl_ck zRk82 23 [zI1] = true := by decide +kernel
set_option maxRecDepth 100000 in
theorem zM1_envy (hT : zk_t) (hA : zk_a) (hex : ∀ j, ex j = .null ∨ ∃ a, ex j = .ref a) (hax : as[0]? = some ax) (x1 : Int32) : hl_M ex D as tys 69 12 zRk82.1 (hl_I ex as tys zΦ1 zI1 23 t) (.ref ax :: [.int x1]) (fun _ ws => ∃ I' ∈ [zI1], hl_I ex as tys zΦ1 I' 23 t ws) :=
  hl_keep hex (qs_vc (ex := ex) hT hA (k := 0) (pc := 849) rfl).1 (fun fc h => zRq82 ex (qΓ1 fc) D as tys hT hA (hr_had1 hT hA (fun f e => by rw [show f = fc from e]; exact h))) (by decide) (rs := (List.replicate 1 (.negSucc 2147483647, .ofNat 2147483647))) rfl rfl [x1] rfl rfl ⟨_, rfl⟩ zck1_envy rfl (hl_rs (xs := [x1])) hax
set_option maxRecDepth 100000 in
theorem zck0_row : hl_ck zRk52 23 [zI0] = true := by decide +kernel
set_option maxRecDepth 100000 in
theorem zM0_row (hT : zk_t) (hA : zk_a) (hex : ∀ j, ex j = .null ∨ ∃ a, ex j = .ref a) (hax : as[0]? = some ax) (x1 x2 : Int32) : hl_M ex D as tys 69 12 zRk52.1 (hl_I ex as tys zΦ0 zI0 23 t) (.ref ax :: [.int x1, .int x2]) (fun _ ws => ∃ I' ∈ [zI0], hl_I ex as tys zΦ0 I' 23 t ws) :=
  hl_keep hex (qs_vc (ex := ex) hT hA (k := 0) (pc := 882) rfl).1 (fun fc h => zRq52 ex (qΓ1 fc) D as tys hT hA ) (by decide) (rs := (List.replicate 2 (.negSucc 2147483647, .ofNat 2147483647))) rfl rfl [x1, x2] rfl rfl ⟨_, rfl⟩ zck0_row rfl (hl_rs (xs := [x1, x2])) hax
set_option maxRecDepth 100000 in
theorem zck1_row : hl_ck zRk108 23 [zI1] = true := by decide +kernel
set_option maxRecDepth 100000 in
theorem zM1_row (hT : zk_t) (hA : zk_a) (hex : ∀ j, ex j = .null ∨ ∃ a, ex j = .ref a) (hax : as[0]? = some ax) (x1 x2 : Int32) : hl_M ex D as tys 69 12 zRk108.1 (hl_I ex as tys zΦ1 zI1 23 t) (.ref ax :: [.int x1, .int x2]) (fun _ ws => ∃ I' ∈ [zI1], hl_I ex as tys zΦ1 I' 23 t ws) :=
  hl_keep hex (qs_vc (ex := ex) hT hA (k := 0) (pc := 882) rfl).1 (fun fc h => zRq108 ex (qΓ1 fc) D as tys hT hA ) (by decide) (rs := (List.replicate 2 (.negSucc 2147483647, .ofNat 2147483647))) rfl rfl [x1, x2] rfl rfl ⟨_, rfl⟩ zck1_row rfl (hl_rs (xs := [x1, x2])) hax
set_option maxRecDepth 100000 in
theorem zck0_rivals : hl_ck zRk51 23 [zI0] = true := by decide +kernel
set_option maxRecDepth 100000 in
theorem zM0_rivals (hT : zk_t) (hA : zk_a) (hex : ∀ j, ex j = .null ∨ ∃ a, ex j = .ref a) (hax : as[0]? = some ax) (x1 x2 : Int32) : hl_M ex D as tys 69 12 zRk51.1 (hl_I ex as tys zΦ0 zI0 23 t) (.ref ax :: [.int x1, .int x2]) (fun _ ws => ∃ I' ∈ [zI0], hl_I ex as tys zΦ0 I' 23 t ws) :=
  hl_keep hex (qs_vc (ex := ex) hT hA (k := 0) (pc := 915) rfl).1 (fun fc h => zRq51 ex (qΓ1 fc) D as tys hT hA (hr_had0 hT hA (fun f e => by rw [show f = fc from e]; exact h))) (by decide) (rs := (List.replicate 2 (.negSucc 2147483647, .ofNat 2147483647))) rfl rfl [x1, x2] rfl rfl ⟨_, rfl⟩ zck0_rivals rfl (hl_rs (xs := [x1, x2])) hax
set_option maxRecDepth 100000 in
theorem zck1_rivals : hl_ck zRk107 23 [zI1] = true := by decide +kernel
set_option maxRecDepth 100000 in
theorem zM1_rivals (hT : zk_t) (hA : zk_a) (hex : ∀ j, ex j = .null ∨ ∃ a, ex j = .ref a) (hax : as[0]? = some ax) (x1 x2 : Int32) : hl_M ex D as tys 69 12 zRk107.1 (hl_I ex as tys zΦ1 zI1 23 t) (.ref ax :: [.int x1, .int x2]) (fun _ ws => ∃ I' ∈ [zI1], hl_I ex as tys zΦ1 I' 23 t ws) :=
  hl_keep hex (qs_vc (ex := ex) hT hA (k := 0) (pc := 915) rfl).1 (fun fc h => zRq107 ex (qΓ1 fc) D as tys hT hA (hr_had1 hT hA (fun f e => by rw [show f = fc from e]; exact h))) (by decide) (rs := (List.replicate 2 (.negSucc 2147483647, .ofNat 2147483647))) rfl rfl [x1, x2] rfl rfl ⟨_, rfl⟩ zck1_rivals rfl (hl_rs (xs := [x1, x2])) hax
set_option maxRecDepth 100000 in
theorem zck0_best : hl_ck zRk15 23 [zI0] = true := by decide +kernel
set_option maxRecDepth 100000 in
theorem zM0_best (hT : zk_t) (hA : zk_a) (hex : ∀ j, ex j = .null ∨ ∃ a, ex j = .ref a) (hax : as[0]? = some ax) (x1 x2 : Int32) : hl_M ex D as tys 69 12 zRk15.1 (hl_I ex as tys zΦ0 zI0 23 t) (.ref ax :: [.int x1, .int x2]) (fun _ ws => ∃ I' ∈ [zI0], hl_I ex as tys zΦ0 I' 23 t ws) :=
  hl_keep hex (qs_vc (ex := ex) hT hA (k := 0) (pc := 948) rfl).1 (fun fc h => zRq15 ex (qΓ1 fc) D as tys hT hA (hr_had0 hT hA (fun f e => by rw [show f = fc from e]; exact h))) (by decide) (rs := (List.replicate 2 (.negSucc 2147483647, .ofNat 2147483647))) rfl rfl [x1, x2] rfl rfl ⟨_, rfl⟩ zck0_best rfl (hl_rs (xs := [x1, x2])) hax
set_option maxRecDepth 100000 in
theorem zck1_best : hl_ck zRk75 23 [zI1] = true := by decide +kernel
set_option maxRecDepth 100000 in
theorem zM1_best (hT : zk_t) (hA : zk_a) (hex : ∀ j, ex j = .null ∨ ∃ a, ex j = .ref a) (hax : as[0]? = some ax) (x1 x2 : Int32) : hl_M ex D as tys 69 12 zRk75.1 (hl_I ex as tys zΦ1 zI1 23 t) (.ref ax :: [.int x1, .int x2]) (fun _ ws => ∃ I' ∈ [zI1], hl_I ex as tys zΦ1 I' 23 t ws) :=
  hl_keep hex (qs_vc (ex := ex) hT hA (k := 0) (pc := 948) rfl).1 (fun fc h => zRq75 ex (qΓ1 fc) D as tys hT hA (hr_had1 hT hA (fun f e => by rw [show f = fc from e]; exact h))) (by decide) (rs := (List.replicate 2 (.negSucc 2147483647, .ofNat 2147483647))) rfl rfl [x1, x2] rfl rfl ⟨_, rfl⟩ zck1_best rfl (hl_rs (xs := [x1, x2])) hax
set_option maxRecDepth 100000 in
theorem zck0_noon : hl_ck zRk38 23 [zI0] = true := by decide +kernel
set_option maxRecDepth 100000 in
theorem zM0_noon (hT : zk_t) (hA : zk_a) (hex : ∀ j, ex j = .null ∨ ∃ a, ex j = .ref a) (hax : as[0]? = some ax) (x1 x2 : Int32) : hl_M ex D as tys 69 12 zRk38.1 (hl_I ex as tys zΦ0 zI0 23 t) (.ref ax :: [.int x1, .int x2]) (fun _ ws => ∃ I' ∈ [zI0], hl_I ex as tys zΦ0 I' 23 t ws) :=
  hl_keep hex (qs_vc (ex := ex) hT hA (k := 0) (pc := 981) rfl).1 (fun fc h => zRq38 ex (qΓ1 fc) D as tys hT hA (hr_had0 hT hA (fun f e => by rw [show f = fc from e]; exact h))) (by decide) (rs := (List.replicate 2 (.negSucc 2147483647, .ofNat 2147483647))) rfl rfl [x1, x2] rfl rfl ⟨_, rfl⟩ zck0_noon rfl (hl_rs (xs := [x1, x2])) hax
set_option maxRecDepth 100000 in
theorem zck1_noon : hl_ck zRk96 23 [zI1] = true := by decide +kernel
set_option maxRecDepth 100000 in
theorem zM1_noon (hT : zk_t) (hA : zk_a) (hex : ∀ j, ex j = .null ∨ ∃ a, ex j = .ref a) (hax : as[0]? = some ax) (x1 x2 : Int32) : hl_M ex D as tys 69 12 zRk96.1 (hl_I ex as tys zΦ1 zI1 23 t) (.ref ax :: [.int x1, .int x2]) (fun _ ws => ∃ I' ∈ [zI1], hl_I ex as tys zΦ1 I' 23 t ws) :=
  hl_keep hex (qs_vc (ex := ex) hT hA (k := 0) (pc := 981) rfl).1 (fun fc h => zRq96 ex (qΓ1 fc) D as tys hT hA (hr_had1 hT hA (fun f e => by rw [show f = fc from e]; exact h))) (by decide) (rs := (List.replicate 2 (.negSucc 2147483647, .ofNat 2147483647))) rfl rfl [x1, x2] rfl rfl ⟨_, rfl⟩ zck1_noon rfl (hl_rs (xs := [x1, x2])) hax
set_option maxRecDepth 100000 in
theorem zck0_lonely : hl_ck zRk35 23 [zI0] = true := by decide +kernel
set_option maxRecDepth 100000 in
theorem zM0_lonely (hT : zk_t) (hA : zk_a) (hex : ∀ j, ex j = .null ∨ ∃ a, ex j = .ref a) (hax : as[0]? = some ax) : hl_M ex D as tys 69 12 zRk35.1 (hl_I ex as tys zΦ0 zI0 23 t) (.ref ax :: []) (fun _ ws => ∃ I' ∈ [zI0], hl_I ex as tys zΦ0 I' 23 t ws) :=
  hl_keep hex (qs_vc (ex := ex) hT hA (k := 0) (pc := 994) rfl).1 (fun fc h => zRq35 ex (qΓ1 fc) D as tys hT hA ) (by decide) (rs := (List.replicate 0 (.negSucc 2147483647, .ofNat 2147483647))) rfl rfl [] rfl rfl ⟨_, rfl⟩ zck0_lonely rfl (hl_rs (xs := [])) hax
set_option maxRecDepth 100000 in
theorem zck1_lonely : hl_ck zRk94 23 [zI1] = true := by decide +kernel
set_option maxRecDepth 100000 in
theorem zM1_lonely (hT : zk_t) (hA : zk_a) (hex : ∀ j, ex j = .null ∨ ∃ a, ex j = .ref a) (hax : as[0]? = some ax) : hl_M ex D as tys 69 12 zRk94.1 (hl_I ex as tys zΦ1 zI1 23 t) (.ref ax :: []) (fun _ ws => ∃ I' ∈ [zI1], hl_I ex as tys zΦ1 I' 23 t ws) :=
  hl_keep hex (qs_vc (ex := ex) hT hA (k := 0) (pc := 994) rfl).1 (fun fc h => zRq94 ex (qΓ1 fc) D as tys hT hA ) (by decide) (rs := (List.replicate 0 (.negSucc 2147483647, .ofNat 2147483647))) rfl rfl [] rfl rfl ⟨_, rfl⟩ zck1_lonely rfl (hl_rs (xs := [])) hax
set_option maxRecDepth 100000 in
theorem zck0_gap : hl_ck zRk27 23 [zI0] = true := by decide +kernel
set_option maxRecDepth 100000 in
theorem zM0_gap (hT : zk_t) (hA : zk_a) (hex : ∀ j, ex j = .null ∨ ∃ a, ex j = .ref a) (hax : as[0]? = some ax) : hl_M ex D as tys 69 12 zRk27.1 (hl_I ex as tys zΦ0 zI0 23 t) (.ref ax :: []) (fun _ ws => ∃ I' ∈ [zI0], hl_I ex as tys zΦ0 I' 23 t ws) :=
  hl_keep hex (qs_vc (ex := ex) hT hA (k := 0) (pc := 1007) rfl).1 (fun fc h => zRq27 ex (qΓ1 fc) D as tys hT hA ) (by decide) (rs := (List.replicate 0 (.negSucc 2147483647, .ofNat 2147483647))) rfl rfl [] rfl rfl ⟨_, rfl⟩ zck0_gap rfl (hl_rs (xs := [])) hax
set_option maxRecDepth 100000 in
theorem zck1_gap : hl_ck zRk86 23 [zI1] = true := by decide +kernel
set_option maxRecDepth 100000 in
theorem zM1_gap (hT : zk_t) (hA : zk_a) (hex : ∀ j, ex j = .null ∨ ∃ a, ex j = .ref a) (hax : as[0]? = some ax) : hl_M ex D as tys 69 12 zRk86.1 (hl_I ex as tys zΦ1 zI1 23 t) (.ref ax :: []) (fun _ ws => ∃ I' ∈ [zI1], hl_I ex as tys zΦ1 I' 23 t ws) :=
  hl_keep hex (qs_vc (ex := ex) hT hA (k := 0) (pc := 1007) rfl).1 (fun fc h => zRq86 ex (qΓ1 fc) D as tys hT hA ) (by decide) (rs := (List.replicate 0 (.negSucc 2147483647, .ofNat 2147483647))) rfl rfl [] rfl rfl ⟨_, rfl⟩ zck1_gap rfl (hl_rs (xs := [])) hax
set_option maxRecDepth 100000 in
theorem zck0_broke : hl_ck zRk16 23 [zI0] = true := by decide +kernel
set_option maxRecDepth 100000 in
theorem zM0_broke (hT : zk_t) (hA : zk_a) (hex : ∀ j, ex j = .null ∨ ∃ a, ex j = .ref a) (hax : as[0]? = some ax) : hl_M ex D as tys 69 12 zRk16.1 (hl_I ex as tys zΦ0 zI0 23 t) (.ref ax :: []) (fun _ ws => ∃ I' ∈ [zI0], hl_I ex as tys zΦ0 I' 23 t ws) :=
  hl_keep hex (qs_vc (ex := ex) hT hA (k := 0) (pc := 1020) rfl).1 (fun fc h => zRq16 ex (qΓ1 fc) D as tys hT hA (hr_had0 hT hA (fun f e => by rw [show f = fc from e]; exact h))) (by decide) (rs := (List.replicate 0 (.negSucc 2147483647, .ofNat 2147483647))) rfl rfl [] rfl rfl ⟨_, rfl⟩ zck0_broke rfl (hl_rs (xs := [])) hax
set_option maxRecDepth 100000 in
theorem zck1_broke : hl_ck zRk76 23 [zI1] = true := by decide +kernel
set_option maxRecDepth 100000 in
theorem zM1_broke (hT : zk_t) (hA : zk_a) (hex : ∀ j, ex j = .null ∨ ∃ a, ex j = .ref a) (hax : as[0]? = some ax) : hl_M ex D as tys 69 12 zRk76.1 (hl_I ex as tys zΦ1 zI1 23 t) (.ref ax :: []) (fun _ ws => ∃ I' ∈ [zI1], hl_I ex as tys zΦ1 I' 23 t ws) :=
  hl_keep hex (qs_vc (ex := ex) hT hA (k := 0) (pc := 1020) rfl).1 (fun fc h => zRq76 ex (qΓ1 fc) D as tys hT hA (hr_had1 hT hA (fun f e => by rw [show f = fc from e]; exact h))) (by decide) (rs := (List.replicate 0 (.negSucc 2147483647, .ofNat 2147483647))) rfl rfl [] rfl rfl ⟨_, rfl⟩ zck1_broke rfl (hl_rs (xs := [])) hax
set_option maxRecDepth 100000 in
theorem zck0_throne : hl_ck zRk58 23 [zI0] = true := by decide +kernel
set_option maxRecDepth 100000 in
theorem zM0_throne (hT : zk_t) (hA : zk_a) (hex : ∀ j, ex j = .null ∨ ∃ a, ex j = .ref a) (hax : as[0]? = some ax) : hl_M ex D as tys 69 12 zRk58.1 (hl_I ex as tys zΦ0 zI0 23 t) (.ref ax :: []) (fun _ ws => ∃ I' ∈ [zI0], hl_I ex as tys zΦ0 I' 23 t ws) :=
  hl_keep hex (qs_vc (ex := ex) hT hA (k := 0) (pc := 1033) rfl).1 (fun fc h => zRq58 ex (qΓ1 fc) D as tys hT hA ) (by decide) (rs := (List.replicate 0 (.negSucc 2147483647, .ofNat 2147483647))) rfl rfl [] rfl rfl ⟨_, rfl⟩ zck0_throne rfl (hl_rs (xs := [])) hax
set_option maxRecDepth 100000 in
theorem zck1_throne : hl_ck zRk114 23 [zI1] = true := by decide +kernel
set_option maxRecDepth 100000 in
theorem zM1_throne (hT : zk_t) (hA : zk_a) (hex : ∀ j, ex j = .null ∨ ∃ a, ex j = .ref a) (hax : as[0]? = some ax) : hl_M ex D as tys 69 12 zRk114.1 (hl_I ex as tys zΦ1 zI1 23 t) (.ref ax :: []) (fun _ ws => ∃ I' ∈ [zI1], hl_I ex as tys zΦ1 I' 23 t ws) :=
  hl_keep hex (qs_vc (ex := ex) hT hA (k := 0) (pc := 1033) rfl).1 (fun fc h => zRq114 ex (qΓ1 fc) D as tys hT hA ) (by decide) (rs := (List.replicate 0 (.negSucc 2147483647, .ofNat 2147483647))) rfl rfl [] rfl rfl ⟨_, rfl⟩ zck1_throne rfl (hl_rs (xs := [])) hax
set_option maxRecDepth 100000 in
theorem zck0_couples : hl_ck zRk21 23 [zI0] = true := by decide +kernel
set_option maxRecDepth 100000 in
theorem zM0_couples (hT : zk_t) (hA : zk_a) (hex : ∀ j, ex j = .null ∨ ∃ a, ex j = .ref a) (hax : as[0]? = some ax) : hl_M ex D as tys 69 12 zRk21.1 (hl_I ex as tys zΦ0 zI0 23 t) (.ref ax :: []) (fun _ ws => ∃ I' ∈ [zI0], hl_I ex as tys zΦ0 I' 23 t ws) :=
  hl_keep hex (qs_vc (ex := ex) hT hA (k := 0) (pc := 1046) rfl).1 (fun fc h => zRq21 ex (qΓ1 fc) D as tys hT hA ) (by decide) (rs := (List.replicate 0 (.negSucc 2147483647, .ofNat 2147483647))) rfl rfl [] rfl rfl ⟨_, rfl⟩ zck0_couples rfl (hl_rs (xs := [])) hax
set_option maxRecDepth 100000 in
theorem zck1_couples : hl_ck zRk80 23 [zI1] = true := by decide +kernel
set_option maxRecDepth 100000 in
theorem zM1_couples (hT : zk_t) (hA : zk_a) (hex : ∀ j, ex j = .null ∨ ∃ a, ex j = .ref a) (hax : as[0]? = some ax) : hl_M ex D as tys 69 12 zRk80.1 (hl_I ex as tys zΦ1 zI1 23 t) (.ref ax :: []) (fun _ ws => ∃ I' ∈ [zI1], hl_I ex as tys zΦ1 I' 23 t ws) :=
  hl_keep hex (qs_vc (ex := ex) hT hA (k := 0) (pc := 1046) rfl).1 (fun fc h => zRq80 ex (qΓ1 fc) D as tys hT hA ) (by decide) (rs := (List.replicate 0 (.negSucc 2147483647, .ofNat 2147483647))) rfl rfl [] rfl rfl ⟨_, rfl⟩ zck1_couples rfl (hl_rs (xs := [])) hax
set_option maxRecDepth 100000 in
theorem zck0_veteran : hl_ck zRk62 23 [zI0] = true := by decide +kernel
set_option maxRecDepth 100000 in
theorem zM0_veteran (hT : zk_t) (hA : zk_a) (hex : ∀ j, ex j = .null ∨ ∃ a, ex j = .ref a) (hax : as[0]? = some ax) : hl_M ex D as tys 69 12 zRk62.1 (hl_I ex as tys zΦ0 zI0 23 t) (.ref ax :: []) (fun _ ws => ∃ I' ∈ [zI0], hl_I ex as tys zΦ0 I' 23 t ws) :=
  hl_keep hex (qs_vc (ex := ex) hT hA (k := 0) (pc := 1059) rfl).1 (fun fc h => zRq62 ex (qΓ1 fc) D as tys hT hA ) (by decide) (rs := (List.replicate 0 (.negSucc 2147483647, .ofNat 2147483647))) rfl rfl [] rfl rfl ⟨_, rfl⟩ zck0_veteran rfl (hl_rs (xs := [])) hax
set_option maxRecDepth 100000 in
theorem zck1_veteran : hl_ck zRk118 23 [zI1] = true := by decide +kernel
set_option maxRecDepth 100000 in
theorem zM1_veteran (hT : zk_t) (hA : zk_a) (hex : ∀ j, ex j = .null ∨ ∃ a, ex j = .ref a) (hax : as[0]? = some ax) : hl_M ex D as tys 69 12 zRk118.1 (hl_I ex as tys zΦ1 zI1 23 t) (.ref ax :: []) (fun _ ws => ∃ I' ∈ [zI1], hl_I ex as tys zΦ1 I' 23 t ws) :=
  hl_keep hex (qs_vc (ex := ex) hT hA (k := 0) (pc := 1059) rfl).1 (fun fc h => zRq118 ex (qΓ1 fc) D as tys hT hA ) (by decide) (rs := (List.replicate 0 (.negSucc 2147483647, .ofNat 2147483647))) rfl rfl [] rfl rfl ⟨_, rfl⟩ zck1_veteran rfl (hl_rs (xs := [])) hax
set_option maxRecDepth 100000 in
theorem zck0_richest : hl_ck zRk44 23 [zI0] = true := by decide +kernel
set_option maxRecDepth 100000 in
theorem zM0_richest (hT : zk_t) (hA : zk_a) (hex : ∀ j, ex j = .null ∨ ∃ a, ex j = .ref a) (hax : as[0]? = some ax) : hl_M ex D as tys 69 12 zRk44.1 (hl_I ex as tys zΦ0 zI0 23 t) (.ref ax :: []) (fun _ ws => ∃ I' ∈ [zI0], hl_I ex as tys zΦ0 I' 23 t ws) :=
  hl_keep hex (qs_vc (ex := ex) hT hA (k := 0) (pc := 1072) rfl).1 (fun fc h => zRq44 ex (qΓ1 fc) D as tys hT hA ) (by decide) (rs := (List.replicate 0 (.negSucc 2147483647, .ofNat 2147483647))) rfl rfl [] rfl rfl ⟨_, rfl⟩ zck0_richest rfl (hl_rs (xs := [])) hax
set_option maxRecDepth 100000 in
theorem zck1_richest : hl_ck zRk100 23 [zI1] = true := by decide +kernel
set_option maxRecDepth 100000 in
theorem zM1_richest (hT : zk_t) (hA : zk_a) (hex : ∀ j, ex j = .null ∨ ∃ a, ex j = .ref a) (hax : as[0]? = some ax) : hl_M ex D as tys 69 12 zRk100.1 (hl_I ex as tys zΦ1 zI1 23 t) (.ref ax :: []) (fun _ ws => ∃ I' ∈ [zI1], hl_I ex as tys zΦ1 I' 23 t ws) :=
  hl_keep hex (qs_vc (ex := ex) hT hA (k := 0) (pc := 1072) rfl).1 (fun fc h => zRq100 ex (qΓ1 fc) D as tys hT hA ) (by decide) (rs := (List.replicate 0 (.negSucc 2147483647, .ofNat 2147483647))) rfl rfl [] rfl rfl ⟨_, rfl⟩ zck1_richest rfl (hl_rs (xs := [])) hax
set_option maxRecDepth 100000 in
theorem zck0_takings : hl_ck zRk57 23 [zI0] = true := by decide +kernel
set_option maxRecDepth 100000 in
theorem zM0_takings (hT : zk_t) (hA : zk_a) (hex : ∀ j, ex j = .null ∨ ∃ a, ex j = .ref a) (hax : as[0]? = some ax) : hl_M ex D as tys 69 12 zRk57.1 (hl_I ex as tys zΦ0 zI0 23 t) (.ref ax :: []) (fun _ ws => ∃ I' ∈ [zI0], hl_I ex as tys zΦ0 I' 23 t ws) :=
  hl_keep hex (qs_vc (ex := ex) hT hA (k := 0) (pc := 1085) rfl).1 (fun fc h => zRq57 ex (qΓ1 fc) D as tys hT hA ) (by decide) (rs := (List.replicate 0 (.negSucc 2147483647, .ofNat 2147483647))) rfl rfl [] rfl rfl ⟨_, rfl⟩ zck0_takings rfl (hl_rs (xs := [])) hax
set_option maxRecDepth 100000 in
theorem zck1_takings : hl_ck zRk113 23 [zI1] = true := by decide +kernel
set_option maxRecDepth 100000 in
theorem zM1_takings (hT : zk_t) (hA : zk_a) (hex : ∀ j, ex j = .null ∨ ∃ a, ex j = .ref a) (hax : as[0]? = some ax) : hl_M ex D as tys 69 12 zRk113.1 (hl_I ex as tys zΦ1 zI1 23 t) (.ref ax :: []) (fun _ ws => ∃ I' ∈ [zI1], hl_I ex as tys zΦ1 I' 23 t ws) :=
  hl_keep hex (qs_vc (ex := ex) hT hA (k := 0) (pc := 1085) rfl).1 (fun fc h => zRq113 ex (qΓ1 fc) D as tys hT hA ) (by decide) (rs := (List.replicate 0 (.negSucc 2147483647, .ofNat 2147483647))) rfl rfl [] rfl rfl ⟨_, rfl⟩ zck1_takings rfl (hl_rs (xs := [])) hax
set_option maxRecDepth 100000 in
theorem zck0_law : hl_ck zRk33 23 [zI0] = true := by decide +kernel
set_option maxRecDepth 100000 in
theorem zM0_law (hT : zk_t) (hA : zk_a) (hex : ∀ j, ex j = .null ∨ ∃ a, ex j = .ref a) (hax : as[0]? = some ax) (x1 : Int32) : hl_M ex D as tys 69 12 zRk33.1 (hl_I ex as tys zΦ0 zI0 23 t) (.ref ax :: [.int x1]) (fun _ ws => ∃ I' ∈ [zI0], hl_I ex as tys zΦ0 I' 23 t ws) :=
  hl_keep hex (qs_vc (ex := ex) hT hA (k := 0) (pc := 1108) rfl).1 (fun fc h => zRq33 ex (qΓ1 fc) D as tys hT hA (hr_had0 hT hA (fun f e => by rw [show f = fc from e]; exact h))) (by decide) (rs := (List.replicate 1 (.negSucc 2147483647, .ofNat 2147483647))) rfl rfl [x1] rfl rfl ⟨_, rfl⟩ zck0_law rfl (hl_rs (xs := [x1])) hax
set_option maxRecDepth 100000 in
theorem zck1_law : hl_ck zRk92 23 [zI1] = true := by decide +kernel
set_option maxRecDepth 100000 in
theorem zM1_law (hT : zk_t) (hA : zk_a) (hex : ∀ j, ex j = .null ∨ ∃ a, ex j = .ref a) (hax : as[0]? = some ax) (x1 : Int32) : hl_M ex D as tys 69 12 zRk92.1 (hl_I ex as tys zΦ1 zI1 23 t) (.ref ax :: [.int x1]) (fun _ ws => ∃ I' ∈ [zI1], hl_I ex as tys zΦ1 I' 23 t ws) :=
  hl_keep hex (qs_vc (ex := ex) hT hA (k := 0) (pc := 1108) rfl).1 (fun fc h => zRq92 ex (qΓ1 fc) D as tys hT hA (hr_had1 hT hA (fun f e => by rw [show f = fc from e]; exact h))) (by decide) (rs := (List.replicate 1 (.negSucc 2147483647, .ofNat 2147483647))) rfl rfl [x1] rfl rfl ⟨_, rfl⟩ zck1_law rfl (hl_rs (xs := [x1])) hax
set_option maxRecDepth 100000 in
theorem zck0_worst : hl_ck zSk77 23 [zI0] = true := by decide +kernel
set_option maxRecDepth 100000 in
theorem zM0_worst (hT : zk_t) (hA : zk_a) (hex : ∀ j, ex j = .null ∨ ∃ a, ex j = .ref a) (hax : as[0]? = some ax) (x1 : Int32) : hl_M ex D as tys 69 12 zSk77.1 (hl_I ex as tys zΦ0 zI0 23 t) (.ref ax :: [.int x1]) (fun _ ws => ∃ I' ∈ [zI0], hl_I ex as tys zΦ0 I' 23 t ws) :=
  hl_keep hex (qs_vc (ex := ex) hT hA (k := 0) (pc := 1130) rfl).1 (fun fc h => zSh77 ex (qΓ1 fc) D as tys hT hA (zSmoves hT hA)) (by decide) (rs := (List.replicate 1 (.negSucc 2147483647, .ofNat 2147483647))) rfl rfl [x1] rfl rfl ⟨_, rfl⟩ zck0_worst rfl (hl_rs (xs := [x1])) hax
set_option maxRecDepth 100000 in
theorem zck1_worst : hl_ck zSk84 23 [zI1] = true := by decide +kernel
set_option maxRecDepth 100000 in
theorem zM1_worst (hT : zk_t) (hA : zk_a) (hex : ∀ j, ex j = .null ∨ ∃ a, ex j = .ref a) (hax : as[0]? = some ax) (x1 : Int32) : hl_M ex D as tys 69 12 zSk84.1 (hl_I ex as tys zΦ1 zI1 23 t) (.ref ax :: [.int x1]) (fun _ ws => ∃ I' ∈ [zI1], hl_I ex as tys zΦ1 I' 23 t ws) :=
  hl_keep hex (qs_vc (ex := ex) hT hA (k := 0) (pc := 1130) rfl).1 (fun fc h => zSh84 ex (qΓ1 fc) D as tys hT hA (zSmoves hT hA)) (by decide) (rs := (List.replicate 1 (.negSucc 2147483647, .ofNat 2147483647))) rfl rfl [x1] rfl rfl ⟨_, rfl⟩ zck1_worst rfl (hl_rs (xs := [x1])) hax
set_option maxRecDepth 100000 in
theorem zck0_odds : hl_ck zRk40 23 [zI0] = true := by decide +kernel
set_option maxRecDepth 100000 in
theorem zM0_odds (hT : zk_t) (hA : zk_a) (hex : ∀ j, ex j = .null ∨ ∃ a, ex j = .ref a) (hax : as[0]? = some ax) (x1 x2 : Int32) : hl_M ex D as tys 69 12 zRk40.1 (hl_I ex as tys zΦ0 zI0 23 t) (.ref ax :: [.int x1, .int x2]) (fun _ ws => ∃ I' ∈ [zI0], hl_I ex as tys zΦ0 I' 23 t ws) :=
  hl_keep hex (qs_vc (ex := ex) hT hA (k := 0) (pc := 1164) rfl).1 (fun fc h => zRq40 ex (qΓ1 fc) D as tys hT hA ) (by decide) (rs := (List.replicate 2 (.negSucc 2147483647, .ofNat 2147483647))) rfl rfl [x1, x2] rfl rfl ⟨_, rfl⟩ zck0_odds rfl (hl_rs (xs := [x1, x2])) hax
set_option maxRecDepth 100000 in
theorem zck1_odds : hl_ck zRk97 23 [zI1] = true := by decide +kernel
set_option maxRecDepth 100000 in
theorem zM1_odds (hT : zk_t) (hA : zk_a) (hex : ∀ j, ex j = .null ∨ ∃ a, ex j = .ref a) (hax : as[0]? = some ax) (x1 x2 : Int32) : hl_M ex D as tys 69 12 zRk97.1 (hl_I ex as tys zΦ1 zI1 23 t) (.ref ax :: [.int x1, .int x2]) (fun _ ws => ∃ I' ∈ [zI1], hl_I ex as tys zΦ1 I' 23 t ws) :=
  hl_keep hex (qs_vc (ex := ex) hT hA (k := 0) (pc := 1164) rfl).1 (fun fc h => zRq97 ex (qΓ1 fc) D as tys hT hA ) (by decide) (rs := (List.replicate 2 (.negSucc 2147483647, .ofNat 2147483647))) rfl rfl [x1, x2] rfl rfl ⟨_, rfl⟩ zck1_odds rfl (hl_rs (xs := [x1, x2])) hax
set_option maxRecDepth 100000 in
theorem zck0_lies : hl_ck zRk34 23 [zI0] = true := by decide +kernel
set_option maxRecDepth 100000 in
theorem zM0_lies (hT : zk_t) (hA : zk_a) (hex : ∀ j, ex j = .null ∨ ∃ a, ex j = .ref a) (hax : as[0]? = some ax) (x1 : Int32) : hl_M ex D as tys 69 12 zRk34.1 (hl_I ex as tys zΦ0 zI0 23 t) (.ref ax :: [.int x1]) (fun _ ws => ∃ I' ∈ [zI0], hl_I ex as tys zΦ0 I' 23 t ws) :=
  hl_keep hex (qs_vc (ex := ex) hT hA (k := 0) (pc := 1187) rfl).1 (fun fc h => zRq34 ex (qΓ1 fc) D as tys hT hA ) (by decide) (rs := (List.replicate 1 (.negSucc 2147483647, .ofNat 2147483647))) rfl rfl [x1] rfl rfl ⟨_, rfl⟩ zck0_lies rfl (hl_rs (xs := [x1])) hax
set_option maxRecDepth 100000 in
theorem zck1_lies : hl_ck zRk93 23 [zI1] = true := by decide +kernel
set_option maxRecDepth 100000 in
theorem zM1_lies (hT : zk_t) (hA : zk_a) (hex : ∀ j, ex j = .null ∨ ∃ a, ex j = .ref a) (hax : as[0]? = some ax) (x1 : Int32) : hl_M ex D as tys 69 12 zRk93.1 (hl_I ex as tys zΦ1 zI1 23 t) (.ref ax :: [.int x1]) (fun _ ws => ∃ I' ∈ [zI1], hl_I ex as tys zΦ1 I' 23 t ws) :=
  hl_keep hex (qs_vc (ex := ex) hT hA (k := 0) (pc := 1187) rfl).1 (fun fc h => zRq93 ex (qΓ1 fc) D as tys hT hA ) (by decide) (rs := (List.replicate 1 (.negSucc 2147483647, .ofNat 2147483647))) rfl rfl [x1] rfl rfl ⟨_, rfl⟩ zck1_lies rfl (hl_rs (xs := [x1])) hax
set_option maxRecDepth 100000 in
theorem zck0_seen : hl_ck zRk53 23 [zI0] = true := by decide +kernel
set_option maxRecDepth 100000 in
theorem zM0_seen (hT : zk_t) (hA : zk_a) (hex : ∀ j, ex j = .null ∨ ∃ a, ex j = .ref a) (hax : as[0]? = some ax) (x1 x2 x3 : Int32) (hb : x3 = 0 ∨ x3 = 1) : hl_M ex D as tys 69 12 zRk53.1 (hl_I ex as tys zΦ0 zI0 23 t) (.ref ax :: [.int x1, .int x2, .int x3]) (fun _ ws => ∃ I' ∈ [zI0], hl_I ex as tys zΦ0 I' 23 t ws) :=
  hl_keep hex (qs_vc (ex := ex) hT hA (k := 0) (pc := 1246) rfl).1 (fun fc h => zRq53 ex (qΓ1 fc) D as tys hT hA ) (by decide) (rs := [(.negSucc 2147483647, .ofNat 2147483647), (.negSucc 2147483647, .ofNat 2147483647), (.ofNat 0, .ofNat 1)]) rfl rfl [x1, x2, x3] rfl rfl ⟨_, rfl⟩ zck0_seen rfl (hl_rsb hb) hax
set_option maxRecDepth 100000 in
theorem zck1_seen : hl_ck zRk109 23 [zI1] = true := by decide +kernel
set_option maxRecDepth 100000 in
theorem zM1_seen (hT : zk_t) (hA : zk_a) (hex : ∀ j, ex j = .null ∨ ∃ a, ex j = .ref a) (hax : as[0]? = some ax) (x1 x2 x3 : Int32) (hb : x3 = 0 ∨ x3 = 1) : hl_M ex D as tys 69 12 zRk109.1 (hl_I ex as tys zΦ1 zI1 23 t) (.ref ax :: [.int x1, .int x2, .int x3]) (fun _ ws => ∃ I' ∈ [zI1], hl_I ex as tys zΦ1 I' 23 t ws) :=
  hl_keep hex (qs_vc (ex := ex) hT hA (k := 0) (pc := 1246) rfl).1 (fun fc h => zRq109 ex (qΓ1 fc) D as tys hT hA ) (by decide) (rs := [(.negSucc 2147483647, .ofNat 2147483647), (.negSucc 2147483647, .ofNat 2147483647), (.ofNat 0, .ofNat 1)]) rfl rfl [x1, x2, x3] rfl rfl ⟨_, rfl⟩ zck1_seen rfl (hl_rsb hb) hax
set_option maxRecDepth 100000 in
theorem zck0_untell : hl_ck zRk61 23 [zI0] = true := by decide +kernel
set_option maxRecDepth 100000 in
theorem zM0_untell (hT : zk_t) (hA : zk_a) (hex : ∀ j, ex j = .null ∨ ∃ a, ex j = .ref a) (hax : as[0]? = some ax) (x1 : Int32) : hl_M ex D as tys 69 12 zRk61.1 (hl_I ex as tys zΦ0 zI0 23 t) (.ref ax :: [.int x1]) (fun _ ws => ∃ I' ∈ [zI0], hl_I ex as tys zΦ0 I' 23 t ws) :=
  hl_keep hex (qs_vc (ex := ex) hT hA (k := 0) (pc := 1269) rfl).1 (fun fc h => zRq61 ex (qΓ1 fc) D as tys hT hA ) (by decide) (rs := (List.replicate 1 (.negSucc 2147483647, .ofNat 2147483647))) rfl rfl [x1] rfl rfl ⟨_, rfl⟩ zck0_untell rfl (hl_rs (xs := [x1])) hax
set_option maxRecDepth 100000 in
theorem zck1_untell : hl_ck zRk117 23 [zI1] = true := by decide +kernel
set_option maxRecDepth 100000 in
theorem zM1_untell (hT : zk_t) (hA : zk_a) (hex : ∀ j, ex j = .null ∨ ∃ a, ex j = .ref a) (hax : as[0]? = some ax) (x1 : Int32) : hl_M ex D as tys 69 12 zRk117.1 (hl_I ex as tys zΦ1 zI1 23 t) (.ref ax :: [.int x1]) (fun _ ws => ∃ I' ∈ [zI1], hl_I ex as tys zΦ1 I' 23 t ws) :=
  hl_keep hex (qs_vc (ex := ex) hT hA (k := 0) (pc := 1269) rfl).1 (fun fc h => zRq117 ex (qΓ1 fc) D as tys hT hA ) (by decide) (rs := (List.replicate 1 (.negSucc 2147483647, .ofNat 2147483647))) rfl rfl [x1] rfl rfl ⟨_, rfl⟩ zck1_untell rfl (hl_rs (xs := [x1])) hax
set_option maxRecDepth 100000 in
theorem zck0_fits : hl_ck zRk10 23 [zI0] = true := by decide +kernel
set_option maxRecDepth 100000 in
theorem zM0_fits (hT : zk_t) (hA : zk_a) (hex : ∀ j, ex j = .null ∨ ∃ a, ex j = .ref a) (hax : as[0]? = some ax) (x1 : Int32) : hl_M ex D as tys 69 12 zRk10.1 (hl_I ex as tys zΦ0 zI0 23 t) (.ref ax :: [.int x1]) (fun _ ws => ∃ I' ∈ [zI0], hl_I ex as tys zΦ0 I' 23 t ws) :=
  hl_keep hex (qs_vc (ex := ex) hT hA (k := 0) (pc := 1315) rfl).1 (fun fc h => zRq10 ex (qΓ1 fc) D as tys hT hA (hr_had0 hT hA (fun f e => by rw [show f = fc from e]; exact h))) (by decide) (rs := (List.replicate 1 (.negSucc 2147483647, .ofNat 2147483647))) rfl rfl [x1] rfl rfl ⟨_, rfl⟩ zck0_fits rfl (hl_rs (xs := [x1])) hax
set_option maxRecDepth 100000 in
theorem zck1_fits : hl_ck zRk71 23 [zI1] = true := by decide +kernel
set_option maxRecDepth 100000 in
theorem zM1_fits (hT : zk_t) (hA : zk_a) (hex : ∀ j, ex j = .null ∨ ∃ a, ex j = .ref a) (hax : as[0]? = some ax) (x1 : Int32) : hl_M ex D as tys 69 12 zRk71.1 (hl_I ex as tys zΦ1 zI1 23 t) (.ref ax :: [.int x1]) (fun _ ws => ∃ I' ∈ [zI1], hl_I ex as tys zΦ1 I' 23 t ws) :=
  hl_keep hex (qs_vc (ex := ex) hT hA (k := 0) (pc := 1315) rfl).1 (fun fc h => zRq71 ex (qΓ1 fc) D as tys hT hA (hr_had1 hT hA (fun f e => by rw [show f = fc from e]; exact h))) (by decide) (rs := (List.replicate 1 (.negSucc 2147483647, .ofNat 2147483647))) rfl rfl [x1] rfl rfl ⟨_, rfl⟩ zck1_fits rfl (hl_rs (xs := [x1])) hax
set_option maxRecDepth 100000 in
theorem zck0_sure : hl_ck zUk10 23 [zI0] = true := by decide +kernel
set_option maxRecDepth 100000 in
theorem zM0_sure (hT : zk_t) (hA : zk_a) (hex : ∀ j, ex j = .null ∨ ∃ a, ex j = .ref a) (hax : as[0]? = some ax) (x1 x2 : Int32) : hl_M ex D as tys 69 12 zUk10.1 (hl_I ex as tys zΦ0 zI0 23 t) (.ref ax :: [.int x1, .int x2]) (fun _ ws => ∃ I' ∈ [zI0], hl_I ex as tys zΦ0 I' 23 t ws) :=
  hl_keep hex (qs_vc (ex := ex) hT hA (k := 0) (pc := 1348) rfl).1 (fun fc h => zUsure0 hT hA (fun f e => by rw [show f = fc from e]; exact hrU_had0 hT hA (fun f e => by rw [show f = fc from e]; exact h))) (by decide) (rs := (List.replicate 2 (.negSucc 2147483647, .ofNat 2147483647))) rfl rfl [x1, x2] rfl rfl ⟨_, rfl⟩ zck0_sure rfl (hl_rs (xs := [x1, x2])) hax
set_option maxRecDepth 100000 in
theorem zck1_sure : hl_ck zUk11 23 [zI1] = true := by decide +kernel
set_option maxRecDepth 100000 in
theorem zM1_sure (hT : zk_t) (hA : zk_a) (hex : ∀ j, ex j = .null ∨ ∃ a, ex j = .ref a) (hax : as[0]? = some ax) (x1 x2 : Int32) : hl_M ex D as tys 69 12 zUk11.1 (hl_I ex as tys zΦ1 zI1 23 t) (.ref ax :: [.int x1, .int x2]) (fun _ ws => ∃ I' ∈ [zI1], hl_I ex as tys zΦ1 I' 23 t ws) :=
  hl_keep hex (qs_vc (ex := ex) hT hA (k := 0) (pc := 1348) rfl).1 (fun fc h => zUsure1 hT hA (fun f e => by rw [show f = fc from e]; exact hrU_had1 hT hA (fun f e => by rw [show f = fc from e]; exact h))) (by decide) (rs := (List.replicate 2 (.negSucc 2147483647, .ofNat 2147483647))) rfl rfl [x1, x2] rfl rfl ⟨_, rfl⟩ zck1_sure rfl (hl_rs (xs := [x1, x2])) hax
set_option maxRecDepth 100000 in
theorem zck0_ask : hl_ck zRk12 23 [zI0] = true := by decide +kernel
set_option maxRecDepth 100000 in
theorem zM0_ask (hT : zk_t) (hA : zk_a) (hex : ∀ j, ex j = .null ∨ ∃ a, ex j = .ref a) (hax : as[0]? = some ax) (x1 x2 : Int32) : hl_M ex D as tys 69 12 zRk12.1 (hl_I ex as tys zΦ0 zI0 23 t) (.ref ax :: [.int x1, .int x2]) (fun _ ws => ∃ I' ∈ [zI0], hl_I ex as tys zΦ0 I' 23 t ws) :=
  hl_keep hex (qs_vc (ex := ex) hT hA (k := 0) (pc := 1381) rfl).1 (fun fc h => zRq12 ex (qΓ1 fc) D as tys hT hA (hr_had0 hT hA (fun f e => by rw [show f = fc from e]; exact h))) (by decide) (rs := (List.replicate 2 (.negSucc 2147483647, .ofNat 2147483647))) rfl rfl [x1, x2] rfl rfl ⟨_, rfl⟩ zck0_ask rfl (hl_rs (xs := [x1, x2])) hax
set_option maxRecDepth 100000 in
theorem zck1_ask : hl_ck zRk72 23 [zI1] = true := by decide +kernel
set_option maxRecDepth 100000 in
theorem zM1_ask (hT : zk_t) (hA : zk_a) (hex : ∀ j, ex j = .null ∨ ∃ a, ex j = .ref a) (hax : as[0]? = some ax) (x1 x2 : Int32) : hl_M ex D as tys 69 12 zRk72.1 (hl_I ex as tys zΦ1 zI1 23 t) (.ref ax :: [.int x1, .int x2]) (fun _ ws => ∃ I' ∈ [zI1], hl_I ex as tys zΦ1 I' 23 t ws) :=
  hl_keep hex (qs_vc (ex := ex) hT hA (k := 0) (pc := 1381) rfl).1 (fun fc h => zRq72 ex (qΓ1 fc) D as tys hT hA (hr_had1 hT hA (fun f e => by rw [show f = fc from e]; exact h))) (by decide) (rs := (List.replicate 2 (.negSucc 2147483647, .ofNat 2147483647))) rfl rfl [x1, x2] rfl rfl ⟨_, rfl⟩ zck1_ask rfl (hl_rs (xs := [x1, x2])) hax
set_option maxRecDepth 100000 in
theorem zck0_image : hl_ck zRk31 23 [zI0] = true := by decide +kernel
set_option maxRecDepth 100000 in
theorem zM0_image (hT : zk_t) (hA : zk_a) (hex : ∀ j, ex j = .null ∨ ∃ a, ex j = .ref a) (hax : as[0]? = some ax) (x1 : Int32) : hl_M ex D as tys 69 12 zRk31.1 (hl_I ex as tys zΦ0 zI0 23 t) (.ref ax :: [.int x1]) (fun _ ws => ∃ I' ∈ [zI0], hl_I ex as tys zΦ0 I' 23 t ws) :=
  hl_keep hex (qs_vc (ex := ex) hT hA (k := 0) (pc := 1404) rfl).1 (fun fc h => zRq31 ex (qΓ1 fc) D as tys hT hA ) (by decide) (rs := (List.replicate 1 (.negSucc 2147483647, .ofNat 2147483647))) rfl rfl [x1] rfl rfl ⟨_, rfl⟩ zck0_image rfl (hl_rs (xs := [x1])) hax
set_option maxRecDepth 100000 in
theorem zck1_image : hl_ck zRk90 23 [zI1] = true := by decide +kernel
set_option maxRecDepth 100000 in
theorem zM1_image (hT : zk_t) (hA : zk_a) (hex : ∀ j, ex j = .null ∨ ∃ a, ex j = .ref a) (hax : as[0]? = some ax) (x1 : Int32) : hl_M ex D as tys 69 12 zRk90.1 (hl_I ex as tys zΦ1 zI1 23 t) (.ref ax :: [.int x1]) (fun _ ws => ∃ I' ∈ [zI1], hl_I ex as tys zΦ1 I' 23 t ws) :=
  hl_keep hex (qs_vc (ex := ex) hT hA (k := 0) (pc := 1404) rfl).1 (fun fc h => zRq90 ex (qΓ1 fc) D as tys hT hA ) (by decide) (rs := (List.replicate 1 (.negSucc 2147483647, .ofNat 2147483647))) rfl rfl [x1] rfl rfl ⟨_, rfl⟩ zck1_image rfl (hl_rs (xs := [x1])) hax
set_option maxRecDepth 100000 in
theorem zck0_back : hl_ck zRk13 23 [zI0] = true := by decide +kernel
set_option maxRecDepth 100000 in
theorem zM0_back (hT : zk_t) (hA : zk_a) (hex : ∀ j, ex j = .null ∨ ∃ a, ex j = .ref a) (hax : as[0]? = some ax) (x1 : Int32) : hl_M ex D as tys 69 12 zRk13.1 (hl_I ex as tys zΦ0 zI0 23 t) (.ref ax :: [.int x1]) (fun _ ws => ∃ I' ∈ [zI0], hl_I ex as tys zΦ0 I' 23 t ws) :=
  hl_keep hex (qs_vc (ex := ex) hT hA (k := 0) (pc := 1427) rfl).1 (fun fc h => zRq13 ex (qΓ1 fc) D as tys hT hA ) (by decide) (rs := (List.replicate 1 (.negSucc 2147483647, .ofNat 2147483647))) rfl rfl [x1] rfl rfl ⟨_, rfl⟩ zck0_back rfl (hl_rs (xs := [x1])) hax
set_option maxRecDepth 100000 in
theorem zck1_back : hl_ck zRk73 23 [zI1] = true := by decide +kernel
set_option maxRecDepth 100000 in
theorem zM1_back (hT : zk_t) (hA : zk_a) (hex : ∀ j, ex j = .null ∨ ∃ a, ex j = .ref a) (hax : as[0]? = some ax) (x1 : Int32) : hl_M ex D as tys 69 12 zRk73.1 (hl_I ex as tys zΦ1 zI1 23 t) (.ref ax :: [.int x1]) (fun _ ws => ∃ I' ∈ [zI1], hl_I ex as tys zΦ1 I' 23 t ws) :=
  hl_keep hex (qs_vc (ex := ex) hT hA (k := 0) (pc := 1427) rfl).1 (fun fc h => zRq73 ex (qΓ1 fc) D as tys hT hA ) (by decide) (rs := (List.replicate 1 (.negSucc 2147483647, .ofNat 2147483647))) rfl rfl [x1] rfl rfl ⟨_, rfl⟩ zck1_back rfl (hl_rs (xs := [x1])) hax
set_option maxRecDepth 100000 in
theorem zck0_about : hl_ck zRk2 23 [zI0] = true := by decide +kernel
set_option maxRecDepth 100000 in
theorem zM0_about (hT : zk_t) (hA : zk_a) (hex : ∀ j, ex j = .null ∨ ∃ a, ex j = .ref a) (hax : as[0]? = some ax) (x1 : Int32) : hl_M ex D as tys 69 12 zRk2.1 (hl_I ex as tys zΦ0 zI0 23 t) (.ref ax :: [.int x1]) (fun _ ws => ∃ I' ∈ [zI0], hl_I ex as tys zΦ0 I' 23 t ws) :=
  hl_keep hex (qs_vc (ex := ex) hT hA (k := 0) (pc := 1450) rfl).1 (fun fc h => zRq2 ex (qΓ1 fc) D as tys hT hA ) (by decide) (rs := (List.replicate 1 (.negSucc 2147483647, .ofNat 2147483647))) rfl rfl [x1] rfl rfl ⟨_, rfl⟩ zck0_about rfl (hl_rs (xs := [x1])) hax
set_option maxRecDepth 100000 in
theorem zck1_about : hl_ck zRk66 23 [zI1] = true := by decide +kernel
set_option maxRecDepth 100000 in
theorem zM1_about (hT : zk_t) (hA : zk_a) (hex : ∀ j, ex j = .null ∨ ∃ a, ex j = .ref a) (hax : as[0]? = some ax) (x1 : Int32) : hl_M ex D as tys 69 12 zRk66.1 (hl_I ex as tys zΦ1 zI1 23 t) (.ref ax :: [.int x1]) (fun _ ws => ∃ I' ∈ [zI1], hl_I ex as tys zΦ1 I' 23 t ws) :=
  hl_keep hex (qs_vc (ex := ex) hT hA (k := 0) (pc := 1450) rfl).1 (fun fc h => zRq66 ex (qΓ1 fc) D as tys hT hA ) (by decide) (rs := (List.replicate 1 (.negSucc 2147483647, .ofNat 2147483647))) rfl rfl [x1] rfl rfl ⟨_, rfl⟩ zck1_about rfl (hl_rs (xs := [x1])) hax
end zMETH
