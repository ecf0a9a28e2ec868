/-! handlers -/
/-- what a field or an answer of a kind may hold: int, boolean, reference, long, char, byte -/
noncomputable def q_fit (t : Nat) (g : qG) (v : qV) (k : qR) : qR := match t with
  | 0 => cond (q_isI v) k none
  | 1 => q_rg g v fun lo hi => cond (q_le 0 lo && q_le hi 1) k none
  | 2 => cond (q_isA v) k none
  | 3 => cond (q_isL v) k none
  | 4 => q_rg g v fun lo hi => cond (q_le 0 lo && q_le hi 127) k none
  | _ => q_rg g v fun lo hi => cond (q_le 0 lo && q_le hi 127) k none
def q_push (v : qV) (nx : Nat) : qHd := fun rec fr g w lo st _ => rec fr g w lo (v :: st) nx
noncomputable def q_load (ok : qV → Bool) (i nx : Nat) : qHd := fun rec fr g w lo st _ => q_get lo i fun v => cond (ok v) (rec fr g w lo (v :: st) nx) none
noncomputable def q_sto1 (ok : qV → Bool) (i nx : Nat) : qHd := fun rec fr g w lo st _ => match st with
  | v :: r => cond (ok v) (q_fil (fun q => Nat.beq q.1 i || (Nat.beq (Nat.succ q.1) i && q_isL q.2)) lo fun lo2 => rec fr g w ((i, v) :: lo2) r nx) none
  | _ => none
noncomputable def q_sto2 (i nx : Nat) : qHd := fun rec fr g w lo st _ => match st with
  | v :: r => cond (q_isL v) (q_fil (fun q => Nat.beq q.1 i || (Nat.beq q.1 (Nat.succ i) || (Nat.beq (Nat.succ q.1) i && q_isL q.2))) lo fun lo2 => rec fr g w ((i, v) :: lo2) r nx) none
  | _ => none
noncomputable def q_bin (f : qG → qV → qV → (qG → qV → qR) → qR) (nx : Nat) : qHd := fun rec fr g w lo st _ => match st with
  | b :: a :: r => f g a b fun g v => rec fr g w lo (v :: r) nx
  | _ => none
/-- a byte made one of 0 .. 255: as it is, or 256 more -/
noncomputable def q_anb (nx : Nat) : qHd := fun rec fr g w lo st pc => match st with
  | .inl z :: .inr (.inl (s, c, d)) :: r => q_rg g (.inr (.inl (s, c, d))) fun l h => cond (q_eq z 255 && (q_eq c 1 && (q_eq d 0 && (q_le (.negSucc 127) l && q_le h 127))))
    (q_app (q_lb g (.inr (.inl (s, c, d))) 0 fun g => rec fr g w lo (.inr (.inl (s, c, d)) :: r) nx) (q_ub g (.inr (.inl (s, c, d))) (.negSucc 0) fun g => rec fr g w lo (.inr (.inl (s, 1, 256)) :: r) nx))
    (q_bin q_and nx rec fr g w lo st pc)
  | st => q_bin q_and nx rec fr g w lo st pc
noncomputable def q_una (f : qG → qV → (qG → qV → qR) → qR) (nx : Nat) : qHd := fun rec fr g w lo st _ => match st with
  | a :: r => f g a fun g v => rec fr g w lo (v :: r) nx
  | _ => none
noncomputable def q_inc (i : Nat) (c : Int) (nx : Nat) : qHd := fun rec fr g w lo st _ => q_get lo i fun v => q_sum 1 g v (.inl c) fun g u => q_fil (fun q => Nat.beq q.1 i || (Nat.beq (Nat.succ q.1) i && q_isL q.2)) lo fun lo2 => rec fr g w ((i, u) :: lo2) st nx
/-- longs: some long comes of it -/
noncomputable def q_lop (nx : Nat) : qHd := fun rec fr g w lo st _ => match st with
  | b :: a :: r => cond (q_isL a && q_isL b) (q_frL g fun g v => rec fr g w lo (v :: r) nx) none
  | _ => none
noncomputable def q_lsh (nx : Nat) : qHd := fun rec fr g w lo st _ => match st with
  | b :: a :: r => cond (q_isL a && q_isI b) (q_frL g fun g v => rec fr g w lo (v :: r) nx) none
  | _ => none
noncomputable def q_i2l (nx : Nat) : qHd := fun rec fr g w lo st _ => match st with
  | a :: r => cond (q_isI a) (q_frL g fun g v => rec fr g w lo (v :: r) nx) none
  | _ => none
noncomputable def q_l2i (nx : Nat) : qHd := fun rec fr g w lo st _ => match st with
  | a :: r => cond (q_isL a) (q_fr g q_mn q_mx fun g v => rec fr g w lo (v :: r) nx) none
  | _ => none
/-- a long against a long that is known: three ways; else -1, 0 or 1 -/
noncomputable def q_lcmp (nx : Nat) : qHd := fun rec fr g w lo st _ => match st with
  | b :: a :: r => (match a with
    | .inr (.inr (.inr (.inr (.inr (.inl s))))) => (match b with
      | .inr (.inr (.inr (.inr (.inl z)))) => q_at g.1 (fun q => q_app (cond (q_le z q.1) (some []) (zx_i (q_mni q.2 (Int.sub z 1)) fun hi => q_set (q.1, hi) g.1 s fun l => rec fr (l, g.2) w lo (.inl (.negSucc 0) :: r) nx))
          (q_app (cond (q_le q.1 z && q_le z q.2) (q_set (z, z) g.1 s fun l => rec fr (l, g.2) w lo (.inl 0 :: r) nx) (some []))
            (cond (q_le q.2 z) (some []) (zx_i (q_mxi q.1 (Int.add z 1)) fun l0 => q_set (l0, q.2) g.1 s fun l => rec fr (l, g.2) w lo (.inl 1 :: r) nx)))) s
      | .inr (.inr (.inr (.inr (.inr (.inl _))))) => q_fr g (.negSucc 0) 1 fun g v => rec fr g w lo (v :: r) nx
      | _ => none)
    | .inr (.inr (.inr (.inr (.inl _)))) => cond (q_isL b) (q_fr g (.negSucc 0) 1 fun g v => rec fr g w lo (v :: r) nx) none
    | _ => none)
  | _ => none
noncomputable def q_if1 (c : ClassFile.Cond) (tgt nx : Nat) : qHd := fun rec fr g w lo st _ => match st with
  | a :: r => q_br c a (.inl 0) g (fun g => rec fr g w lo r tgt) (fun g => rec fr g w lo r nx)
  | _ => none
noncomputable def q_if2 (c : ClassFile.Cond) (tgt nx : Nat) : qHd := fun rec fr g w lo st _ => match st with
  | b :: a :: r => q_br c a b g (fun g => rec fr g w lo r tgt) (fun g => rec fr g w lo r nx)
  | _ => none
def q_goto (tgt : Nat) : qHd := fun rec fr g w lo st _ => rec fr g w lo st tgt
/-- cases one by one: a key and where it leads -/
noncomputable def q_cs (g : qG) (v : qV) (k : qG → Nat → qR) (ks : List (Int × Nat)) : qR := List.rec (motive := fun _ => qR) (some []) (fun q _ ih => q_app (q_as .eq g v (.inl q.1) fun g => k g q.2) ih) ks
/-- lo, lo + 1 .. -/
noncomputable def q_num (ts : List Nat) : Int → (List (Int × Nat) → qR) → qR := List.rec (motive := fun _ => Int → (List (Int × Nat) → qR) → qR) (fun _ k => k []) (fun t _ ih lo k => zx_i (Int.add lo 1) fun lo2 => ih lo2 fun r => k ((lo, t) :: r)) ts
noncomputable def q_tsw (lo hi : Int) (tg : List Nat) : qHd := fun rec fr g w lo2 st _ => match st with
  | v :: r => (match tg with
    | d :: ts => q_nm g v fun v => q_num ts lo fun ks => q_app (q_cs g v (fun g t => rec fr g w lo2 r t) ks) (q_app (q_as .lt g v (.inl lo) fun g => rec fr g w lo2 r d) (q_as .gt g v (.inl hi) fun g => rec fr g w lo2 r d))
    | _ => none)
  | _ => none
noncomputable def q_zip (ps : List (Int × Int)) : List Nat → (List (Int × Nat) → qR) → qR := List.rec (motive := fun _ => List Nat → (List (Int × Nat) → qR) → qR) (fun _ k => k []) (fun p _ ih ts k => match ts with
  | t :: r => ih r fun l => k ((p.1, t) :: l)
  | [] => none) ps
noncomputable def q_lsw (ps : List (Int × Int)) (tg : List Nat) : qHd := fun rec fr g w lo2 st _ => match st with
  | v :: r => (match tg with
    | d :: ts => q_nm g v fun v => q_zip ps ts fun ks => cond (q_isI v) (q_app (q_cs g v (fun g t => rec fr g w lo2 r t) ks) (rec fr g w lo2 r d)) none
    | _ => none)
  | _ => none
def q_stk (f : List qV → Option (List qV)) (nx : Nat) : qHd := fun rec fr g w lo st _ => match f st with
  | some s2 => rec fr g w lo s2 nx
  | none => none
def q_dup (st : List qV) : Option (List qV) := match st with
  | a :: r => cond (q_isL a) none (some (a :: a :: r))
  | _ => none
def q_pop (st : List qV) : Option (List qV) := match st with
  | a :: r => cond (q_isL a) none (some r)
  | _ => none
def q_dup2 (st : List qV) : Option (List qV) := match st with
  | b :: a :: r => cond (q_isL a || q_isL b) none (some (b :: a :: b :: a :: r))
  | _ => none
def q_dupx (st : List qV) : Option (List qV) := match st with
  | a :: b :: r => cond (q_isL a || q_isL b) none (some (a :: b :: a :: r))
  | _ => none
noncomputable def q_gf (ci j nx : Nat) : qHd := fun rec fr g w lo st _ => match st with
  | .inr (.inr (.inl (some a))) :: r => q_at w (fun c => match c with
    | .inr (.inl q) => cond (Nat.beq q.1 ci) (q_at q.2 (fun x => rec fr g w lo (x :: r) nx) j) none
    | _ => none) a
  | _ => none
noncomputable def q_pf (ci j t nx : Nat) : qHd := fun rec fr g w lo st _ => match st with
  | x :: .inr (.inr (.inl (some a))) :: r => q_fit t g x (q_at w (fun c => match c with
    | .inr (.inl q) => cond (Nat.beq q.1 ci) (q_set x q.2 j fun fs => q_set (.inr (.inl (ci, fs))) w a fun w2 => rec fr g w2 lo r nx) none
    | _ => none) a)
  | _ => none
/-- a field of a text from before: its bytes (0), its coder -/
noncomputable def q_xgf (t nx : Nat) : qHd := fun rec fr g w lo st _ => match st with
  | .inr (.inr (.inr (.inl a))) :: r => cond (Nat.beq a 2 || Nat.beq a 3 || Nat.beq a 8) (cond (Nat.beq t 0) (zx_n (Nat.succ (Nat.succ a)) fun b => rec fr g w lo (.inr (.inr (.inr (.inl b))) :: r) nx) (rec fr g w lo (.inl 0 :: r) nx)) none
  | _ => none
/-! arrays -/
noncomputable def q_pd (sg : qS) : Nat := List.rec (motive := fun _ => Nat) 0 (fun q _ ih => Nat.add q.1 ih) sg
/-- the least and the greatest of what stands at the places a .. b, from place o on -/
noncomputable def q_lo (a b : Nat) (sg : qS) : Nat → Int := List.rec (motive := fun _ => Nat → Int) (fun _ => .ofNat 9223372036854775807) (fun q _ ih o => cond (Nat.ble o b && Nat.ble (Nat.succ a) (Nat.add o q.1)) (q_mni q.2.1 (ih (Nat.add o q.1))) (ih (Nat.add o q.1))) sg
noncomputable def q_hi (a b : Nat) (sg : qS) : Nat → Int := List.rec (motive := fun _ => Nat → Int) (fun _ => .negSucc 9223372036854775807) (fun q _ ih o => cond (Nat.ble o b && Nat.ble (Nat.succ a) (Nat.add o q.1)) (q_mxi q.2.2 (ih (Nat.add o q.1))) (ih (Nat.add o q.1))) sg
/-- all that stands at the places a .. b may be l .. h -/
noncomputable def q_fa (l h : Int) (a b : Nat) (sg : qS) : Nat → Bool := List.rec (motive := fun _ => Nat → Bool) (fun _ => true) (fun q _ ih o => cond (Nat.ble o b && Nat.ble (Nat.succ a) (Nat.add o q.1)) (cond (q_le q.2.1 l && q_le h q.2.2) (ih (Nat.add o q.1)) false) (ih (Nat.add o q.1))) sg
/-- the rests by the period that an index may have -/
noncomputable def q_ri (sg : qS) (j : qV) (l h : Int) (k : Nat → Nat → qR) : qR := zx_n (q_pd sg) fun P => cond (Nat.beq P 0) none (cond (Nat.beq P 1) (k 0 0) (match j with
  | .inr (.inl (_, c, d)) => cond (Nat.beq (Int.toNat (Int.emod c (Int.ofNat P))) 0) (zx_n (Int.toNat (Int.emod d (Int.ofNat P))) fun r => k r r)
    (zx_n (Nat.mod (Int.toNat l) P) fun a => zx_n (Nat.mod (Int.toNat h) P) fun b => cond (Nat.ble (Nat.succ (Nat.sub (Int.toNat h) (Int.toNat l))) P && Nat.ble a b) (k a b) (k 0 (Nat.sub P 1)))
  | .inl z => zx_n (Nat.mod (Int.toNat z) P) fun r => k r r
  | _ => none))
def q_ve (a b : qV) : Bool := match a with
  | .inl x => (match b with | .inl y => q_eq x y | _ => false)
  | .inr (.inl (s, c, d)) => (match b with | .inr (.inl (s2, c2, d2)) => Nat.beq s s2 && (q_eq c c2 && q_eq d d2) | _ => false)
  | _ => false
noncomputable def q_kn (j : qV) (l : List (qV × qV)) (k : qV → qR) (no : qR) : qR := List.rec (motive := fun _ => qR) no (fun q _ ih => cond (q_ve j q.1) (k q.2) ih) l
def q_t3 (l : List (qV × qV)) : List (qV × qV) := match l with
  | a :: b :: c :: _ => [a, b, c]
  | l => l
/-- the range of an array's literals (any int, if one is none) -/
noncomputable def q_xl (vs : List qV) : Int := List.rec (motive := fun _ => Int) q_mx (fun v _ ih => match v with
  | .inl z => q_mni z ih
  | _ => q_mn) vs
noncomputable def q_xh (vs : List qV) : Int := List.rec (motive := fun _ => Int) q_mn (fun v _ ih => match v with
  | .inl z => q_mxi z ih
  | _ => q_mx) vs
noncomputable def q_zl (vs : List zx_V) : Int := List.rec (motive := fun _ => Int) q_mx (fun v _ ih => match v with
  | .inl n => q_mni (zx_s n) ih
  | _ => q_mn) vs
noncomputable def q_zh (vs : List zx_V) : Int := List.rec (motive := fun _ => Int) q_mn (fun v _ ih => match v with
  | .inl n => q_mxi (zx_s n) ih
  | _ => q_mx) vs
def q_i0 (l h : Int) (n : Nat) : Bool := q_le 0 l && q_le (Int.add h 1) (Int.ofNat n)
noncomputable def q_ald (xa : List (Nat × Nat × List zx_V)) (ts : Nat → Bool) (nx : Nat) : qHd := fun rec fr g w lo st _ => match st with
  | j :: .inr (.inr (.inl (some a))) :: r => q_nm g j fun j => q_rg g j fun l h => q_at w (fun c => match c with
    | .inl q => cond (ts q.1 && q_i0 l h (zx_len q.2)) (cond (q_eq l h) (q_at q.2 (fun x => match x with
        | .inr (.inr (.inr (.inr (.inr (.inr (.inl _)))))) => q_fr g q_mn q_mx fun g v => rec fr g w lo (v :: r) nx
        | x => rec fr g w lo (x :: r) nx) (Int.toNat l)) (zx_i (q_xl q.2) fun l0 => zx_i (q_xh q.2) fun h0 => q_fr g l0 h0 fun g v => rec fr g w lo (v :: r) nx)) none
    | .inr (.inr (.inl q)) => cond (ts q.1 && q_i0 l h q.2.1) (q_kn j q.2.2.2 (fun v => rec fr g w lo (v :: r) nx) (q_ri q.2.2.1 j l h fun x y => zx_i (q_lo x y q.2.2.1 0) fun l0 => zx_i (q_hi x y q.2.2.1 0) fun h0 => q_fr g l0 h0 fun g v => q_set (.inr (.inr (.inl (q.1, q.2.1, q.2.2.1, (j, v) :: q_t3 q.2.2.2)))) w a fun w => rec fr g w lo (v :: r) nx)) none
    | .inr (.inr (.inr q)) => cond (ts q.1 && q_i0 l h q.2.1) (match q.2.2.2.2 with
      | [] => q_kn j q.2.2.2.1 (fun v => rec fr g w lo (v :: r) nx) (q_fr g q_mn q_mx fun g v => q_set (.inr (.inr (.inr (q.1, q.2.1, q.2.2.1, (j, v) :: q_t3 q.2.2.2.1, [])))) w a fun w => rec fr g w lo (v :: r) nx)
      | _ :: _ => q_fr g q_mn q_mx fun g v => rec fr g w lo (v :: r) nx) none
    | _ => none) a
  | j :: .inr (.inr (.inr (.inl a))) :: r => q_nm g j fun j => q_rg g j fun l h => List.rec (motive := fun _ => qR) none (fun q _ ih => cond (Nat.beq q.1 a) (cond (ts q.2.1 && q_i0 l h (zx_len q.2.2)) (cond (q_eq l h) (q_at q.2.2 (fun x => match x with
      | .inl n => zx_i (zx_s n) fun z => rec fr g w lo (.inl z :: r) nx
      | _ => none) (Int.toNat l)) (zx_i (q_zl q.2.2) fun l0 => zx_i (q_zh q.2.2) fun h0 => q_fr g l0 h0 fun g v => rec fr g w lo (v :: r) nx)) none) ih) xa
  | _ => none
noncomputable def q_lald (nx : Nat) : qHd := fun rec fr g w lo st _ => match st with
  | j :: .inr (.inr (.inl (some a))) :: r => q_rg g j fun l h => q_at w (fun c => match c with
    | .inr (.inr (.inl q)) => cond (Nat.beq q.1 3 && q_i0 l h q.2.1) (q_frL g fun g v => rec fr g w lo (v :: r) nx) none
    | _ => none) a
  | _ => none
/-- what an array of a type takes as it is -/
noncomputable def q_nar (t : Nat) (g : qG) (x : qV) (k : Int → Int → qR) : qR := q_rg g x fun l h => match t with
  | 0 => k l h
  | 1 => cond (q_le (.negSucc 127) l && q_le h 127) (k l h) none
  | 2 => cond (q_le 0 l && q_le h 1) (k l h) none
  | _ => none
noncomputable def q_ast (ts : Nat → Bool) (nx : Nat) : qHd := fun rec fr g w lo st _ => match st with
  | x :: j :: .inr (.inr (.inl (some a))) :: r => q_nm g j fun j => q_rg g j fun l h => q_at w (fun c => match c with
    | .inl q => cond (ts q.1 && (q_i0 l h (zx_len q.2) && q_eq l h)) (q_nar q.1 g x fun _ _ => q_set x q.2 (Int.toNat l) fun vs => q_set (.inl (q.1, vs)) w a fun w => rec fr g w lo r nx) none
    | .inr (.inr (.inl q)) => cond (ts q.1 && q_i0 l h q.2.1) (q_nar q.1 g x fun vl vh => q_ri q.2.2.1 j l h fun y z => cond (q_fa vl vh y z q.2.2.1 0) (q_set (.inr (.inr (.inl (q.1, q.2.1, q.2.2.1, [(j, x)])))) w a fun w => rec fr g w lo r nx) none) none
    | .inr (.inr (.inr q)) => cond (ts q.1 && (q_i0 l h q.2.1 && q_isN q.2.2.2.2)) (q_nar q.1 g x fun _ _ => q_set (.inr (.inr (.inr (q.1, q.2.1, q.2.2.1, q.2.2.2.1, [(j, x)])))) w a fun w => rec fr g w lo r nx) none
    | _ => none) a
  | _ => none
noncomputable def q_last (nx : Nat) : qHd := fun rec fr g w lo st _ => match st with
  | x :: j :: .inr (.inr (.inl (some a))) :: r => q_rg g j fun l h => q_at w (fun c => match c with
    | .inr (.inr (.inl q)) => cond (q_isL x && (Nat.beq q.1 3 && q_i0 l h q.2.1)) (rec fr g w lo r nx) none
    | _ => none) a
  | _ => none
noncomputable def q_alen (xa : List (Nat × Nat × List zx_V)) (nx : Nat) : qHd := fun rec fr g w lo st _ => match st with
  | .inr (.inr (.inl (some a))) :: r => q_at w (fun c => match c with
    | .inl q => zx_n (zx_len q.2) fun n => cond (q_le (Int.ofNat n) q_mx) (rec fr g w lo (.inl (Int.ofNat n) :: r) nx) none
    | .inr (.inr (.inl q)) => cond (q_le (Int.ofNat q.2.1) q_mx) (rec fr g w lo (.inl (Int.ofNat q.2.1) :: r) nx) none
    | .inr (.inr (.inr q)) => cond (q_le (Int.ofNat q.2.1) q_mx) (rec fr g w lo (.inl (Int.ofNat q.2.1) :: r) nx) none
    | _ => none) a
  | .inr (.inr (.inr (.inl a))) :: r => List.rec (motive := fun _ => qR) none (fun q _ ih => cond (Nat.beq q.1 a) (zx_n (zx_len q.2.2) fun n => cond (q_le (Int.ofNat n) q_mx) (rec fr g w lo (.inl (Int.ofNat n) :: r) nx) none) ih) xa
  | _ => none
/-- copying n from place sp + i on, dp + i on: what each may be fits where it comes to -/
noncomputable def q_cpw (sa sb : qS) (sp dp : Nat) : Nat → Nat → Bool := fun n => Nat.rec (motive := fun _ => Nat → Bool) (fun _ => true) (fun _ ih i => cond (q_fa (q_lo (Nat.mod (Nat.add sp i) (q_pd sa)) (Nat.mod (Nat.add sp i) (q_pd sa)) sa 0) (q_hi (Nat.mod (Nat.add sp i) (q_pd sa)) (Nat.mod (Nat.add sp i) (q_pd sa)) sa 0) (Nat.mod (Nat.add dp i) (q_pd sb)) (Nat.mod (Nat.add dp i) (q_pd sb)) sb 0) (ih (Nat.succ i)) false) n
def q_se (a b : qS) : Bool := match a, b with
  | [], [] => true
  | x :: r, y :: t => Nat.beq x.1 y.1 && (q_eq x.2.1 y.2.1 && (q_eq x.2.2 y.2.2 && q_se r t))
  | _, _ => false
noncomputable def q_cpy (nx : Nat) : qHd := fun rec fr g w lo st _ => match st with
  | .inl n :: dp :: .inr (.inr (.inl (some d))) :: sp :: .inr (.inr (.inl (some s))) :: r => q_nm g dp fun dp => q_nm g sp fun sp => q_rg g dp fun dl dh => q_rg g sp fun sl sh => q_at w (fun c => match c with
    | .inr (.inr (.inl q)) => q_at w (fun c2 => match c2 with
      | .inr (.inr (.inl q2)) => cond (Nat.beq q.1 0 && Nat.beq q2.1 0 && q_le 0 n && q_le 0 dl && q_le 0 sl && q_le (Int.add sh n) (Int.ofNat q.2.1) && q_le (Int.add dh n) (Int.ofNat q2.2.1) && Nat.ble (q_dep r) 8 && Nat.ble 1 fr.1)
        (q_ri q.2.2.1 sp sl sh fun sa sb => q_ri q2.2.2.1 dp dl dh fun da db => cond (Nat.beq sa sb && Nat.beq da db && cond (q_se q.2.2.1 q2.2.2.1 && Nat.beq sa da) true (Nat.ble (Int.toNat n) 64 && q_cpw q.2.2.1 q2.2.2.1 sa da (Int.toNat n) 0))
          (q_set (.inr (.inr (.inl (q2.1, q2.2.1, q2.2.2.1, [])))) w d fun w => rec fr g w lo r nx) none) none
      | _ => none) d
    | _ => none) s
  | _ => none
def q_bad : qHd := fun _ _ _ _ _ _ _ => none
