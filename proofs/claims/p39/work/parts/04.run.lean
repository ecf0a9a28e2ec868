/-! which handler an instruction has; the executor -/
def zx_a1 (a : List Nat) (f : Nat → zx_Hd) : zx_Hd := match a with
  | i :: _ => f i
  | _ => zx_bad
def zx_a2 (a : List Nat) (f : Nat → Nat → zx_Hd) : zx_Hd := match a with
  | i :: j :: _ => f i j
  | _ => zx_bad
def zx_a3 (a : List Nat) (f : Nat → Nat → Nat → zx_Hd) : zx_Hd := match a with
  | i :: j :: k :: _ => f i j k
  | _ => zx_bad
def zx_bx (t : Nat) : Bool := Nat.beq t 1 || Nat.beq t 2
noncomputable def zx_inv (a : List Nat) (nx : Nat) : zx_Hd := match a with
  | 0 :: _ => zx_oin nx
  | 1 :: _ => zx_cpy nx
  | 4 :: _ => zx_mmx nx
  | 5 :: _ => zx_mmn nx
  | _ :: rk :: ci :: k :: mc :: ms :: _ :: _ :: _ :: _ :: mx :: is => zx_call rk ci k mc ms mx is nx
  | _ => zx_bad
noncomputable def zx_h (xa : List (Nat × Nat × List zx_V)) (e : zx_RI) : zx_Hd := match e.1 with
  | .aload_n _ => zx_a1 e.2.2.2 fun i => zx_load zx_isA i e.2.2.1
  | .aload _ => zx_a1 e.2.2.2 fun i => zx_load zx_isA i e.2.2.1
  | .iload_n _ => zx_a1 e.2.2.2 fun i => zx_load zx_isI i e.2.2.1
  | .iload _ => zx_a1 e.2.2.2 fun i => zx_load zx_isI i e.2.2.1
  | .lload_n _ => zx_a1 e.2.2.2 fun i => zx_load zx_isL i e.2.2.1
  | .istore_n _ => zx_a1 e.2.2.2 fun i => zx_sto1 zx_isI i e.2.2.1
  | .istore _ => zx_a1 e.2.2.2 fun i => zx_sto1 zx_isI i e.2.2.1
  | .astore_n _ => zx_a1 e.2.2.2 fun i => zx_sto1 zx_isA i e.2.2.1
  | .lstore_n _ => zx_a1 e.2.2.2 fun i => zx_sto2 i e.2.2.1
  | .iconst _ => zx_a1 e.2.2.2 fun n => zx_push (.inl n) e.2.2.1
  | .bipush _ => zx_a1 e.2.2.2 fun n => zx_push (.inl n) e.2.2.1
  | .sipush _ => zx_a1 e.2.2.2 fun n => zx_push (.inl n) e.2.2.1
  | .lconst _ => zx_a1 e.2.2.2 fun n => zx_push (.inr (.inr (.inl n))) e.2.2.1
  | .ldc _ => zx_a2 e.2.2.2 fun t n => cond (Nat.beq t 0) (zx_push (.inl n) e.2.2.1) (zx_push (.inr (.inr (.inr (.inr (.inl n))))) e.2.2.1)
  | .ldc_w _ => zx_a2 e.2.2.2 fun t n => cond (Nat.beq t 0) (zx_push (.inl n) e.2.2.1) zx_bad
  | .ldc2_w _ => zx_a1 e.2.2.2 fun n => zx_push (.inr (.inr (.inl n))) e.2.2.1
  | .iinc _ _ => zx_a2 e.2.2.2 fun i c => zx_inc i c e.2.2.1
  | .iadd => zx_bin zx_add e.2.2.1
  | .isub => zx_bin (zx_bop (fun a b => (a + (4294967296 - b % 4294967296)) % 4294967296)) e.2.2.1
  | .imul => zx_bin (zx_bop (fun a b => (a * b) % 4294967296)) e.2.2.1
  | .iand => zx_bin (zx_bop (zx_i2 fun x y => x &&& y)) e.2.2.1
  | .ior => zx_bin (zx_bop (zx_i2 fun x y => x ||| y)) e.2.2.1
  | .ixor => zx_bin (zx_bop (zx_i2 fun x y => x ^^^ y)) e.2.2.1
  | .ishl => zx_bin (zx_bop (zx_i2 fun x y => x <<< (y &&& 31))) e.2.2.1
  | .ishr => zx_bin (zx_bop (zx_i2 fun x y => x >>> (y &&& 31))) e.2.2.1
  | .iushr => zx_bin (zx_bop (zx_i2 fun x y => (x.toUInt32 >>> (y.toUInt32 &&& Int32.toUInt32 31)).toInt32)) e.2.2.1
  | .idiv => zx_bin (zx_div (zx_i2 fun x y => x / y)) e.2.2.1
  | .irem => zx_bin (zx_div (zx_i2 fun x y => x - x / y * y)) e.2.2.1
  | .ladd => zx_bin (zx_lop (zx_l2 fun x y => x + y)) e.2.2.1
  | .lmul => zx_bin (zx_lop (zx_l2 fun x y => x * y)) e.2.2.1
  | .i2l => zx_una (zx_cvL fun n => (Int32.ofNat n).toInt64.toUInt64.toNat) e.2.2.1
  | .i2b => zx_una (zx_cvI fun n => ((Int32.ofNat n).toInt8.toInt32).toUInt32.toNat) e.2.2.1
  | .i2c => zx_una (zx_cvI fun n => (((Int32.ofNat n).toUInt32 % 65536).toInt32).toUInt32.toNat) e.2.2.1
  | .dup => zx_stk zx_dup e.2.2.1
  | .pop => zx_stk zx_pop e.2.2.1
  | .dup2 => zx_stk zx_dup2 e.2.2.1
  | .ifCond c _ => zx_a1 e.2.2.2 fun t => zx_if1 c t e.2.2.1
  | .if_icmp c _ => zx_a1 e.2.2.2 fun t => zx_if2 c t e.2.2.1
  | .goto _ => zx_a1 e.2.2.2 fun t => zx_goto t
  | .tableswitch _ lo _ _ => zx_tsw lo e.2.2.2
  | .getfield _ => zx_a3 e.2.2.2 fun t ci j => cond (Nat.beq t 0) (zx_gf ci j e.2.2.1) (cond (Nat.beq ci 0) (zx_xgf zx_xv e.2.2.1) (zx_xgf zx_xc e.2.2.1))
  | .putfield _ => zx_a3 e.2.2.2 fun ci j t => zx_pf ci j t e.2.2.1
  | .getstatic _ => zx_a1 e.2.2.2 fun t => cond (Nat.beq t 0) (zx_push (.inr (.inr (.inr (.inr (.inl 0))))) e.2.2.1) (cond (Nat.beq t 1) (zx_push (.inl 1) e.2.2.1) (zx_push (.inr (.inr (.inr (.inr (.inl 7))))) e.2.2.1))
  | .new _ => zx_a2 e.2.2.2 fun ci N => zx_new ci N (zx_dfl.getD ci []) e.2.2.1
  | .newarray t => (match t with
    | .int => zx_newa 0 (.inl 0) e.2.2.1
    | .byte => zx_newa 1 (.inl 0) e.2.2.1
    | .boolean => zx_newa 2 (.inl 0) e.2.2.1
    | .long => zx_newa 3 (.inr (.inr (.inl 0))) e.2.2.1
    | _ => zx_bad)
  | .arraylength => zx_alen xa e.2.2.1
  | .iaload => zx_ald xa (fun t => Nat.beq t 0) e.2.2.1
  | .baload => zx_ald xa zx_bx e.2.2.1
  | .iastore => zx_ast (fun t => Nat.beq t 0) e.2.2.1
  | .bastore => zx_ast zx_bx e.2.2.1
  | .lastore => zx_ast (fun t => Nat.beq t 3) e.2.2.1
  | .invokevirtual _ => zx_inv e.2.2.2 e.2.2.1
  | .invokestatic _ => zx_inv e.2.2.2 e.2.2.1
  | .invokespecial _ => zx_inv e.2.2.2 e.2.2.1
  | .ireturn => zx_a1 e.2.2.2 fun t => zx_ret t
  | .lreturn => zx_ret 3
  | .return_ => zx_vret
  | _ => zx_bad
noncomputable def zx_ent (xa : List (Nat × Nat × List zx_V)) (k pc : Nat) : zx_Hd := match (zx_code.getD k [])[pc]? with
  | some e => zx_h xa e
  | none => zx_bad
noncomputable def zx_run (xa : List (Nat × Nat × List zx_V)) (n : Nat) : zx_Rec := Nat.rec (motive := fun _ => zx_Rec) (fun _ _ _ _ _ _ _ _ => none)
  (fun _ ih fr g w cs sl lo st pc => cond (Nat.beq pc fr.2.2.1) (some [(g, w, .inr (cs, sl, lo, st))]) (zx_ent xa fr.2.1 pc ih fr g w cs sl lo st pc)) n
noncomputable def zx_xa0 : List (Nat × Nat × List zx_V) := zx_xa.filter fun q => !Nat.beq q.1 1
def zx_full : Int × Int := (-2147483648, 2147483647)
def zx_g0 : zx_G := [zx_full, zx_full, zx_full, zx_full, zx_full, zx_full]
