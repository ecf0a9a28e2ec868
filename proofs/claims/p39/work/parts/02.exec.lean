/-! An executor of bytecode over a picture of the heap. Values: an int, a reference (or null), a long, an int of the script by its place, an object from before the law, some int.
A cell: an array (its type's number, its contents) or an object (its class's number, its fields). All is written so that the kernel has every number at hand when it goes on. -/
abbrev zx_V : Type := Nat ⊕ Option Nat ⊕ Nat ⊕ Nat ⊕ Nat ⊕ Unit
abbrev zx_E : Type := (Nat × List zx_V) ⊕ (Nat × List zx_V)
abbrev zx_Wd : Type := List zx_E
abbrev zx_G : Type := List (Int × Int)
abbrev zx_L : Type := List (Nat × zx_V)
abbrev zx_O : Type := zx_G × zx_Wd × (Option zx_V ⊕ (Nat × Nat × zx_L × List zx_V))
abbrev zx_R : Type := Option (List zx_O)
/-- depth, method, breakpoint, most cells, most slots -/
abbrev zx_Fr : Type := Nat × Nat × Nat × Nat × Nat
abbrev zx_Rec : Type := zx_Fr → zx_G → zx_Wd → Nat → Nat → zx_L → List zx_V → Nat → zx_R
abbrev zx_Hd : Type := zx_Rec → zx_Rec
abbrev zx_RI : Type := Instr × Nat × Nat × List Nat
noncomputable def zx_n {α : Type} (n : Nat) (f : Nat → α) : α := Nat.rec (motive := fun _ => α) (f 0) (fun m _ => f (Nat.succ m)) n
noncomputable def zx_i {α : Type} (x : Int) (f : Int → α) : α := Int.rec (motive := fun _ => α) (fun n => zx_n n fun n => f (Int.ofNat n)) (fun n => zx_n n fun n => f (Int.negSucc n)) x
noncomputable def zx_get (l : zx_L) (i : Nat) (k : zx_V → zx_R) : zx_R := List.rec (motive := fun _ => zx_R) none (fun q _ ih => cond (Nat.beq q.1 i) (k q.2) ih) l
noncomputable def zx_fil (bad : Nat × zx_V → Bool) (l : zx_L) : (zx_L → zx_R) → zx_R := List.rec (motive := fun _ => (zx_L → zx_R) → zx_R) (fun k => k []) (fun q _ ih k => cond (bad q) (ih k) (ih fun r => k (q :: r))) l
noncomputable def zx_at {α : Type} (l : List α) (k : α → zx_R) : Nat → zx_R := List.rec (motive := fun _ => Nat → zx_R) (fun _ => none) (fun x _ ih i => Nat.rec (motive := fun _ => zx_R) (k x) (fun j _ => ih j) i) l
noncomputable def zx_set {α : Type} (v : α) (l : List α) : Nat → (List α → zx_R) → zx_R := List.rec (motive := fun _ => Nat → (List α → zx_R) → zx_R) (fun _ _ => none) (fun x t ih i k => Nat.rec (motive := fun _ => zx_R) (k (v :: t)) (fun j _ => ih j fun r => k (x :: r)) i) l
noncomputable def zx_snoc {α : Type} (v : α) (l : List α) : (List α → zx_R) → zx_R := List.rec (motive := fun _ => (List α → zx_R) → zx_R) (fun k => k [v]) (fun x _ ih k => ih fun r => k (x :: r)) l
noncomputable def zx_len {α : Type} (l : List α) : Nat := List.rec (motive := fun _ => Nat) 0 (fun _ _ ih => Nat.succ ih) l
/-- the rest behind i -/
noncomputable def zx_drop {α : Type} (l : List α) : Nat → (List α → zx_R) → zx_R := List.rec (motive := fun _ => Nat → (List α → zx_R) → zx_R) (fun i k => Nat.rec (motive := fun _ => zx_R) (k []) (fun _ _ => none) i) (fun x t ih i k => Nat.rec (motive := fun _ => zx_R) (k (x :: t)) (fun j _ => ih j k) i) l
/-- the first n of l, put over the first n of m -/
noncomputable def zx_over {α : Type} (l : List α) : Nat → List α → (List α → zx_R) → zx_R := List.rec (motive := fun _ => Nat → List α → (List α → zx_R) → zx_R) (fun n m k => Nat.rec (motive := fun _ => zx_R) (k m) (fun _ _ => none) n)
  (fun x _ ih n m k => Nat.rec (motive := fun _ => zx_R) (k m) (fun j _ => List.rec (motive := fun _ => zx_R) none (fun _ m' _ => ih j m' fun r => k (x :: r)) m) n) l
/-- behind the first d of m: l's first n over it -/
noncomputable def zx_into {α : Type} (l : List α) (n : Nat) (m : List α) : Nat → (List α → zx_R) → zx_R := List.rec (motive := fun _ => Nat → (List α → zx_R) → zx_R) (fun d k => Nat.rec (motive := fun _ => zx_R) (zx_over l n [] k) (fun _ _ => none) d)
  (fun x t ih d k => Nat.rec (motive := fun _ => zx_R) (zx_over l n (x :: t) k) (fun j _ => ih j fun r => k (x :: r)) d) m
def zx_isI (v : zx_V) : Bool := match v with
  | .inl _ => true
  | .inr (.inr (.inr (.inl _))) => true
  | .inr (.inr (.inr (.inr (.inr _)))) => true
  | _ => false
def zx_isA (v : zx_V) : Bool := match v with
  | .inr (.inl _) => true
  | .inr (.inr (.inr (.inr (.inl _)))) => true
  | _ => false
def zx_isL (v : zx_V) : Bool := match v with
  | .inr (.inr (.inl _)) => true
  | _ => false
def zx_top : zx_V := .inr (.inr (.inr (.inr (.inr ()))))
/-- what a field or an answer of a kind may hold: int, boolean, reference, long, char -/
def zx_fit (t : Nat) (v : zx_V) : Bool := match t with
  | 0 => zx_isI v
  | 1 => (match v with | .inl n => Nat.ble n 1 | _ => false)
  | 2 => zx_isA v
  | 3 => zx_isL v
  | 4 => (match v with | .inl n => Nat.ble n 127 | _ => false)
  | _ => (match v with | .inl n => Nat.ble n 127 | _ => false)
def zx_dep (st : List zx_V) : Nat := match st with
  | [] => 0
  | v :: r => cond (zx_isL v) 2 1 + zx_dep r
noncomputable def zx_u (x : Int) : Nat := (x % 4294967296).toNat
/-- a script's int whose range is one number is that number -/
noncomputable def zx_nm (g : zx_G) (v : zx_V) (k : zx_V → zx_R) : zx_R := match v with
  | .inr (.inr (.inr (.inl i))) => zx_at g (fun q => cond (decide (q.1 = q.2)) (zx_n (zx_u q.1) fun n => k (.inl n)) (k v)) i
  | _ => k v
def zx_push (v : zx_V) (nx : Nat) : zx_Hd := fun rec fr g w cs sl lo st _ => rec fr g w cs sl lo (v :: st) nx
noncomputable def zx_load (ok : zx_V → Bool) (i nx : Nat) : zx_Hd := fun rec fr g w cs sl lo st _ => zx_get lo i fun v => cond (ok v) (rec fr g w cs sl lo (v :: st) nx) none
noncomputable def zx_sto1 (ok : zx_V → Bool) (i nx : Nat) : zx_Hd := fun rec fr g w cs sl lo st _ => match st with
  | v :: r => cond (ok v) (zx_fil (fun q => Nat.beq q.1 i || (Nat.beq (Nat.succ q.1) i && zx_isL q.2)) lo fun lo2 => rec fr g w cs sl ((i, v) :: lo2) r nx) none
  | _ => none
noncomputable def zx_sto2 (i nx : Nat) : zx_Hd := fun rec fr g w cs sl lo st _ => match st with
  | v :: r => cond (zx_isL v) (zx_fil (fun q => Nat.beq q.1 i || (Nat.beq q.1 (Nat.succ i) || (Nat.beq (Nat.succ q.1) i && zx_isL q.2))) lo fun lo2 => rec fr g w cs sl ((i, v) :: lo2) r nx) none
  | _ => none
noncomputable def zx_bop (f : Nat → Nat → Nat) (a b : zx_V) (k : zx_V → zx_R) : zx_R := match a with
  | .inl x => (match b with
    | .inl y => zx_n (f x y) fun n => k (.inl n)
    | v => cond (zx_isI v) (k zx_top) none)
  | u => cond (zx_isI u && zx_isI b) (k zx_top) none
/-- a sum: 0 and a script's int is that int -/
noncomputable def zx_add (a b : zx_V) (k : zx_V → zx_R) : zx_R := match a with
  | .inl x => (match b with
    | .inl y => zx_n ((x + y) % 4294967296) fun n => k (.inl n)
    | v => cond (zx_isI v) (cond (Nat.beq x 0) (k v) (k zx_top)) none)
  | u => (match b with
    | .inl y => cond (zx_isI u) (cond (Nat.beq y 0) (k u) (k zx_top)) none
    | v => cond (zx_isI u && zx_isI v) (k zx_top) none)
noncomputable def zx_bin (f : zx_V → zx_V → (zx_V → zx_R) → zx_R) (nx : Nat) : zx_Hd := fun rec fr g w cs sl lo st _ => match st with
  | b :: a :: r => f a b fun v => rec fr g w cs sl lo (v :: r) nx
  | _ => none
noncomputable def zx_una (f : zx_V → (zx_V → zx_R) → zx_R) (nx : Nat) : zx_Hd := fun rec fr g w cs sl lo st _ => match st with
  | a :: r => f a fun v => rec fr g w cs sl lo (v :: r) nx
  | _ => none
noncomputable def zx_inc (i : Nat) (c : Nat) (nx : Nat) : zx_Hd := fun rec fr g w cs sl lo st _ => zx_get lo i fun v => zx_add v (.inl c) fun u => zx_fil (fun q => Nat.beq q.1 i || (Nat.beq (Nat.succ q.1) i && zx_isL q.2)) lo fun lo2 => rec fr g w cs sl ((i, u) :: lo2) st nx
/-- a division or its rest: by what isn't 0 -/
noncomputable def zx_div (f : Nat → Nat → Nat) (a b : zx_V) (k : zx_V → zx_R) : zx_R := match a with
  | .inl x => (match b with
    | .inl y => cond (Nat.beq (y % 4294967296) 0) none (zx_n (f x y) fun n => k (.inl n))
    | _ => none)
  | _ => none
noncomputable def zx_lop (f : Nat → Nat → Nat) (a b : zx_V) (k : zx_V → zx_R) : zx_R := match a with
  | .inr (.inr (.inl x)) => (match b with
    | .inr (.inr (.inl y)) => zx_n (f x y) fun n => k (.inr (.inr (.inl n)))
    | _ => none)
  | _ => none
/-- a conversion of an int: to an int (exact, or some), to a long -/
noncomputable def zx_cvI (f : Nat → Nat) (a : zx_V) (k : zx_V → zx_R) : zx_R := match a with
  | .inl x => zx_n (f x) fun n => k (.inl n)
  | v => cond (zx_isI v) (k zx_top) none
noncomputable def zx_cvL (f : Nat → Nat) (a : zx_V) (k : zx_V → zx_R) : zx_R := match a with
  | .inl x => zx_n (f x) fun n => k (.inr (.inr (.inl n)))
  | _ => none
def zx_bs (n : Nat) : Nat := (n + 2147483648) % 4294967296
def zx_cmp (c : ClassFile.Cond) (a b : Nat) : Bool := match c with
  | .eq => Nat.beq (zx_bs a) (zx_bs b)
  | .ne => !Nat.beq (zx_bs a) (zx_bs b)
  | .lt => Nat.ble (Nat.succ (zx_bs a)) (zx_bs b)
  | .ge => Nat.ble (zx_bs b) (zx_bs a)
  | .gt => Nat.ble (Nat.succ (zx_bs b)) (zx_bs a)
  | .le => Nat.ble (zx_bs a) (zx_bs b)
def zx_neg (c : ClassFile.Cond) : ClassFile.Cond := match c with
  | .eq => .ne | .ne => .eq | .lt => .ge | .ge => .lt | .gt => .le | .le => .gt
def zx_mir (c : ClassFile.Cond) : ClassFile.Cond := match c with
  | .eq => .eq | .ne => .ne | .lt => .gt | .ge => .le | .gt => .lt | .le => .ge
/-- the signed number of a word -/
def zx_s (n : Nat) : Int := (Int.ofNat (zx_bs n)) - 2147483648
/-- a range, made smaller by what a comparison with t says -/
noncomputable def zx_ref (c : ClassFile.Cond) (t lo hi : Int) : Int × Int := match c with
  | .eq => (cond (decide (lo ≤ t)) t lo, cond (decide (t ≤ hi)) t hi)
  | .ne => (cond (decide (lo = t)) (t + 1) lo, cond (decide (hi = t)) (t - 1) hi)
  | .lt => (lo, cond (decide (t ≤ hi)) (t - 1) hi)
  | .ge => (cond (decide (lo ≤ t)) t lo, hi)
  | .gt => (cond (decide (lo ≤ t)) (t + 1) lo, hi)
  | .le => (lo, cond (decide (t ≤ hi)) t hi)
/-- two ways: each that can be gone is gone -/
noncomputable def zx_two (p q : Bool) (x y : zx_R) : zx_R := cond p (cond q (match x with
    | none => none
    | some l => (match y with
      | none => none
      | some l2 => some (l ++ l2))) x) (cond q y (some []))
noncomputable def zx_fork (c : ClassFile.Cond) (i : Nat) (t : Int) (g : zx_G) (kt kf : zx_G → zx_R) : zx_R := zx_at g (fun q =>
  zx_i (zx_ref c t q.1 q.2).1 fun l1 => zx_i (zx_ref c t q.1 q.2).2 fun h1 => zx_i (zx_ref (zx_neg c) t q.1 q.2).1 fun l2 => zx_i (zx_ref (zx_neg c) t q.1 q.2).2 fun h2 =>
    zx_two (decide (l1 ≤ h1)) (decide (l2 ≤ h2)) (zx_set (l1, h1) g i kt) (zx_set (l2, h2) g i kf)) i
noncomputable def zx_br (c : ClassFile.Cond) (a b : zx_V) (g : zx_G) (kt kf : zx_G → zx_R) : zx_R := zx_nm g a fun a => zx_nm g b fun b => match a with
  | .inl x => (match b with
    | .inl y => cond (zx_cmp c x y) (kt g) (kf g)
    | .inr (.inr (.inr (.inl i))) => zx_i (zx_s x) fun t => zx_fork (zx_mir c) i t g kt kf
    | _ => none)
  | .inr (.inr (.inr (.inl i))) => (match b with
    | .inl y => zx_i (zx_s y) fun t => zx_fork c i t g kt kf
    | .inr (.inr (.inr (.inl j))) => cond (Nat.beq i j) (cond (zx_cmp c 0 0) (kt g) (kf g)) none
    | _ => none)
  | _ => none
noncomputable def zx_if1 (c : ClassFile.Cond) (tgt nx : Nat) : zx_Hd := fun rec fr g w cs sl lo st _ => match st with
  | a :: r => zx_br c a (.inl 0) g (fun g => rec fr g w cs sl lo r tgt) (fun g => rec fr g w cs sl lo r nx)
  | _ => none
noncomputable def zx_if2 (c : ClassFile.Cond) (tgt nx : Nat) : zx_Hd := fun rec fr g w cs sl lo st _ => match st with
  | b :: a :: r => zx_br c a b g (fun g => rec fr g w cs sl lo r tgt) (fun g => rec fr g w cs sl lo r nx)
  | _ => none
def zx_goto (tgt : Nat) : zx_Hd := fun rec fr g w cs sl lo st _ => rec fr g w cs sl lo st tgt
/-- the table's targets from lo on; the other one ahead of them -/
noncomputable def zx_tsw (lo : Int) (tg : List Nat) : zx_Hd := fun rec fr g w cs sl lo2 st _ => match st with
  | v :: r => zx_nm g v fun v => (match v with
    | .inl n => (match tg with
      | d :: ts => zx_i (zx_s n - lo) fun x => (match x with
        | Int.ofNat j => List.rec (motive := fun _ => Nat → zx_R) (fun _ => rec fr g w cs sl lo2 r d) (fun t _ ih j => Nat.rec (motive := fun _ => zx_R) (rec fr g w cs sl lo2 r t) (fun i _ => ih i) j) ts j
        | Int.negSucc _ => rec fr g w cs sl lo2 r d)
      | _ => none)
    | .inr (.inr (.inr (.inl i))) => (match tg with
      | d :: ts => zx_at g (fun q => cond (decide (q.2 < lo) || decide (lo + ts.length ≤ q.1)) (rec fr g w cs sl lo2 r d) none) i
      | _ => none)
    | _ => none)
  | _ => none
def zx_stk (f : List zx_V → Option (List zx_V)) (nx : Nat) : zx_Hd := fun rec fr g w cs sl lo st _ => match f st with
  | some s2 => rec fr g w cs sl lo s2 nx
  | none => none
def zx_dup (st : List zx_V) : Option (List zx_V) := match st with
  | a :: r => cond (zx_isL a) none (some (a :: a :: r))
  | _ => none
def zx_pop (st : List zx_V) : Option (List zx_V) := match st with
  | a :: r => cond (zx_isL a) none (some r)
  | _ => none
def zx_dup2 (st : List zx_V) : Option (List zx_V) := match st with
  | b :: a :: r => cond (zx_isL a || zx_isL b) none (some (b :: a :: b :: a :: r))
  | _ => none
def zx_dupx (st : List zx_V) : Option (List zx_V) := match st with
  | a :: b :: r => cond (zx_isL a || zx_isL b) none (some (a :: b :: a :: r))
  | _ => none
noncomputable def zx_gf (ci j nx : Nat) : zx_Hd := fun rec fr g w cs sl lo st _ => match st with
  | .inr (.inl (some a)) :: r => zx_at w (fun c => match c with
    | .inr q => cond (Nat.beq q.1 ci) (zx_at q.2 (fun x => rec fr g w cs sl lo (x :: r) nx) j) none
    | .inl _ => none) a
  | _ => none
noncomputable def zx_pf (ci j t nx : Nat) : zx_Hd := fun rec fr g w cs sl lo st _ => match st with
  | x :: .inr (.inl (some a)) :: r => cond (zx_fit t x) (zx_at w (fun c => match c with
    | .inr q => cond (Nat.beq q.1 ci) (zx_set x q.2 j fun fs => zx_set (.inr (ci, fs)) w a fun w2 => rec fr g w2 cs sl lo r nx) none
    | .inl _ => none) a) none
  | _ => none
/-- a field of an object from before the law -/
noncomputable def zx_xgf (fs : List (Nat × zx_V)) (nx : Nat) : zx_Hd := fun rec fr g w cs sl lo st _ => match st with
  | .inr (.inr (.inr (.inr (.inl a)))) :: r => zx_get fs a fun x => rec fr g w cs sl lo (x :: r) nx
  | _ => none
noncomputable def zx_new (ci N : Nat) (fs : List zx_V) (nx : Nat) : zx_Hd := fun rec fr g w cs sl lo st _ => zx_n (cs + 1) fun cs2 => zx_n (sl + N) fun sl2 => cond (Nat.ble cs2 fr.2.2.2.1 && Nat.ble sl2 fr.2.2.2.2)
  (zx_n (zx_len w) fun a => zx_snoc (.inr (ci, fs)) w fun w2 => rec fr g w2 cs2 sl2 lo (.inr (.inl (some a)) :: st) nx) none
noncomputable def zx_newa (t : Nat) (v : zx_V) (nx : Nat) : zx_Hd := fun rec fr g w cs sl lo st _ => match st with
  | .inl n :: r => zx_n (cs + 1) fun cs2 => zx_n (sl + n) fun sl2 => cond (Nat.ble cs2 fr.2.2.2.1 && Nat.ble sl2 fr.2.2.2.2 && Nat.ble n 1000000)
    (zx_n (zx_len w) fun a => zx_snoc (.inl (t, List.replicate n v)) w fun w2 => rec fr g w2 cs2 sl2 lo (.inr (.inl (some a)) :: r) nx) none
  | _ => none
noncomputable def zx_alen (xa : List (Nat × Nat × List zx_V)) (nx : Nat) : zx_Hd := fun rec fr g w cs sl lo st _ => match st with
  | .inr (.inl (some a)) :: r => zx_at w (fun c => match c with
    | .inl q => zx_n (zx_len q.2) fun n => rec fr g w cs sl lo (.inl n :: r) nx
    | .inr _ => none) a
  | .inr (.inr (.inr (.inr (.inl a)))) :: r => List.rec (motive := fun _ => zx_R) none (fun q _ ih => cond (Nat.beq q.1 a) (zx_n (zx_len q.2.2) fun n => rec fr g w cs sl lo (.inl n :: r) nx) ih) xa
  | _ => none
noncomputable def zx_ald (xa : List (Nat × Nat × List zx_V)) (ts : Nat → Bool) (nx : Nat) : zx_Hd := fun rec fr g w cs sl lo st _ => match st with
  | i :: .inr (.inl (some a)) :: r => zx_nm g i fun i => (match i with
    | .inl n => zx_at w (fun c => match c with
      | .inl q => cond (ts q.1 && Nat.ble n 1000000) (zx_at q.2 (fun x => rec fr g w cs sl lo (x :: r) nx) n) none
      | .inr _ => none) a
    | _ => none)
  | i :: .inr (.inr (.inr (.inr (.inl a)))) :: r => zx_nm g i fun i => (match i with
    | .inl n => List.rec (motive := fun _ => zx_R) none (fun q _ ih => cond (Nat.beq q.1 a) (cond (ts q.2.1 && Nat.ble n 1000000) (zx_at q.2.2 (fun x => zx_nm g x fun x => rec fr g w cs sl lo (x :: r) nx) n) none) ih) xa
    | _ => none)
  | _ => none
/-- what an array of a type keeps of a value -/
noncomputable def zx_nar (t : Nat) (x : zx_V) (k : zx_V → zx_R) : zx_R := match t with
  | 0 => cond (zx_isI x) (k x) none
  | 1 => zx_cvI (fun n => (vp_nar .byte (Int32.ofNat n)).toUInt32.toNat) x k
  | 2 => zx_cvI (fun n => (vp_nar .boolean (Int32.ofNat n)).toUInt32.toNat) x k
  | _ => cond (zx_isL x) (k x) none
noncomputable def zx_ast (ts : Nat → Bool) (nx : Nat) : zx_Hd := fun rec fr g w cs sl lo st _ => match st with
  | x :: i :: .inr (.inl (some a)) :: r => zx_nm g i fun i => (match i with
    | .inl n => zx_at w (fun c => match c with
      | .inl q => cond (ts q.1 && Nat.ble n 1000000) (zx_nar q.1 x fun y => zx_set y q.2 n fun vs => zx_set (.inl (q.1, vs)) w a fun w2 => rec fr g w2 cs sl lo r nx) none
      | .inr _ => none) a
    | _ => none)
  | _ => none
noncomputable def zx_cpy (nx : Nat) : zx_Hd := fun rec fr g w cs sl lo st _ => match st with
  | .inl n :: .inl dp :: .inr (.inl (some d)) :: .inl sp :: .inr (.inl (some s)) :: r => cond (Nat.ble n 1000000 && Nat.ble dp 1000000 && Nat.ble sp 1000000 && Nat.ble (zx_dep r) 8 && Nat.ble 1 fr.1) (zx_at w (fun c => match c with
    | .inl q => cond (Nat.beq q.1 0) (zx_at w (fun c2 => match c2 with
      | .inl q2 => cond (Nat.beq q2.1 0) (zx_drop q.2 sp fun l => zx_into l n q2.2 dp fun vs => zx_set (.inl (0, vs)) w d fun w2 => rec fr g w2 cs sl lo r nx) none
      | .inr _ => none) d) none
    | .inr _ => none) s) none
  | _ => none
noncomputable def zx_args (is : List Nat) : List zx_V → zx_L → (zx_L → List zx_V → zx_R) → zx_R := List.rec (motive := fun _ => List zx_V → zx_L → (zx_L → List zx_V → zx_R) → zx_R) (fun st lo k => k lo st) (fun i _ ih st lo k => match st with
  | v :: r => ih r ((i, v) :: lo) k
  | [] => none) is
/-- the receiver: 0 none; 1 an object from before of the numbers told; else an object of class ci -/
noncomputable def zx_rcv (rk ci : Nat) (w : zx_Wd) (lo : zx_L) (k : zx_R) : zx_R := match rk with
  | 0 => k
  | 1 => (match lo with
    | (_, .inr (.inr (.inr (.inr (.inl a))))) :: _ => cond (Nat.beq a 2 || Nat.beq a 3) k none
    | _ => none)
  | _ => (match lo with
    | (_, .inr (.inl (some a))) :: _ => zx_at w (fun c => match c with
      | .inr q => cond (Nat.beq q.1 ci) k none
      | .inl _ => none) a
    | _ => none)
noncomputable def zx_each (l : List zx_O) (f : zx_O → zx_R) : zx_R := List.rec (motive := fun _ => zx_R) (some []) (fun o t ih => match t with
  | [] => f o
  | _ :: _ => (match f o with
    | none => none
    | some l1 => (match ih with
      | none => none
      | some l2 => some (l1 ++ l2)))) l
/-- the arguments' places: one behind the other, a long takes two; not more than mx -/
noncomputable def zx_pos (mx : Nat) (l : zx_L) : Nat → Bool := List.rec (motive := fun _ => Nat → Bool) (fun n => Nat.ble n mx) (fun q _ ih n => cond (Nat.beq q.1 n) (cond (zx_isL q.2) (ih (n + 2)) (ih (n + 1))) false) l
noncomputable def zx_call (rk ci k mc ms mx : Nat) (is : List Nat) (nx : Nat) : zx_Hd := fun rec fr g w cs sl lo st _ => zx_args is st [] fun av r => cond (Nat.ble (zx_dep r) 8 && zx_pos mx av 0) (zx_rcv rk ci w av (zx_n (cs + mc) fun cs2 => zx_n (sl + ms) fun sl2 => cond (Nat.ble cs2 fr.2.2.2.1 && Nat.ble sl2 fr.2.2.2.2)
  (Nat.rec (motive := fun _ => zx_R) none (fun d _ => match rec (d, k, 1000000, mc, ms) g w 0 0 av [] 0 with
    | none => none
    | some outs => zx_each outs fun o => (match o.2.2 with
      | .inl none => rec fr o.1 o.2.1 cs2 sl2 lo r nx
      | .inl (some v) => rec fr o.1 o.2.1 cs2 sl2 lo (v :: r) nx
      | .inr _ => none)) fr.1) none)) none
/-- Object's own constructor -/
def zx_oin (nx : Nat) : zx_Hd := fun rec fr g w cs sl lo st _ => match st with
  | .inr (.inl (some _)) :: r => cond (Nat.ble (zx_dep r) 8 && Nat.ble 1 fr.1) (rec fr g w cs sl lo r nx) none
  | _ => none
/-- Math.max, Math.min -/
noncomputable def zx_mmx (nx : Nat) : zx_Hd := fun rec fr g w cs sl lo st _ => match st with
  | .inl y :: .inl x :: r => cond (Nat.ble (zx_dep r) 8 && Nat.ble 1 fr.1) (cond (zx_cmp .lt x y) (rec fr g w cs sl lo (.inl y :: r) nx) (rec fr g w cs sl lo (.inl x :: r) nx)) none
  | _ => none
noncomputable def zx_mmn (nx : Nat) : zx_Hd := fun rec fr g w cs sl lo st _ => match st with
  | .inl y :: .inl x :: r => cond (Nat.ble (zx_dep r) 8 && Nat.ble 1 fr.1) (cond (zx_cmp .lt y x) (rec fr g w cs sl lo (.inl y :: r) nx) (rec fr g w cs sl lo (.inl x :: r) nx)) none
  | _ => none
def zx_ret (t : Nat) : zx_Hd := fun _ _ g w _ _ _ st _ => match st with
  | [v] => cond (zx_fit t v) (some [(g, w, .inl (some v))]) none
  | _ => none
def zx_vret : zx_Hd := fun _ _ g w _ _ _ st _ => match st with
  | [] => some [(g, w, .inl none)]
  | _ => none
def zx_bad : zx_Hd := fun _ _ _ _ _ _ _ _ _ => none
noncomputable def zx_i2 (f : Int32 → Int32 → Int32) (a b : Nat) : Nat := (f (Int32.ofNat a) (Int32.ofNat b)).toUInt32.toNat
noncomputable def zx_l2 (f : Int64 → Int64 → Int64) (a b : Nat) : Nat := (f (Int64.ofNat a) (Int64.ofNat b)).toUInt64.toNat
