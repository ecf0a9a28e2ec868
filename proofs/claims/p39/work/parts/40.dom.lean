/-! A second executor: ints are symbols with ranges (or c * symbol + d), arrays are typed by ranges, calls go by contracts. Written for the kernel like the first one. -/
abbrev qV : Type := Int ⊕ (Nat × Int × Int) ⊕ Option Nat ⊕ Nat ⊕ Int ⊕ Nat ⊕ Unit ⊕ Unit
abbrev qS : Type := List (Nat × Int × Int)
/-- an array told out; an object; an array by types (type, length, segments, what is known of it); an array whose content is a ghost (type, length, which one, what is known of the ghost, what was written over it) -/
abbrev qE : Type := (Nat × List qV) ⊕ (Nat × List qV) ⊕ (Nat × Nat × qS × List (qV × qV)) ⊕ (Nat × Nat × Nat × List (qV × qV) × List (qV × qV))
/-- a fact: a * (symbol i) + b * (symbol j) is c at least -/
abbrev qF : Type := Int × Nat × Int × Nat × Int
abbrev qG : Type := List (Int × Int) × List qF
abbrev qL : Type := List (Nat × qV)
abbrev qO : Type := qG × List qE × (Option qV ⊕ (Nat × qL × List qV))
abbrev qR : Type := Option (List qO)
/-- depth, method, where it pauses -/
abbrev qFr : Type := Nat × Nat × List Nat
abbrev qRec : Type := qFr → qG → List qE → qL → List qV → Nat → qR
abbrev qHd : Type := qRec → qRec
/-- a contract: method, depth, its start (ranges and facts, cells, arguments), its ends -/
abbrev qC : Type := Nat × Nat × qG × List qE × qL × List (qG × List qE × Option qV)
def q_le (x y : Int) : Bool := match Int.sub y x with
  | .ofNat _ => true
  | .negSucc _ => false
def q_eq (x y : Int) : Bool := q_le x y && q_le y x
def q_mn : Int := .negSucc 2147483647
def q_mx : Int := .ofNat 2147483647
def q_in (lo hi : Int) : Bool := q_le q_mn lo && q_le hi q_mx
noncomputable def q_get (l : qL) (i : Nat) (k : qV → qR) : qR := List.rec (motive := fun _ => qR) none (fun q _ ih => cond (Nat.beq q.1 i) (k q.2) ih) l
noncomputable def q_fil (bad : Nat × qV → Bool) (l : qL) : (qL → qR) → qR := List.rec (motive := fun _ => (qL → qR) → qR) (fun k => k []) (fun q _ ih k => cond (bad q) (ih k) (ih fun r => k (q :: r))) l
noncomputable def q_at {α : Type} (l : List α) (k : α → qR) : Nat → qR := List.rec (motive := fun _ => Nat → qR) (fun _ => none) (fun x _ ih i => Nat.rec (motive := fun _ => qR) (k x) (fun j _ => ih j) i) l
noncomputable def q_set {α : Type} (v : α) (l : List α) : Nat → (List α → qR) → qR := List.rec (motive := fun _ => Nat → (List α → qR) → qR) (fun _ _ => none) (fun x t ih i k => Nat.rec (motive := fun _ => qR) (k (v :: t)) (fun j _ => ih j fun r => k (x :: r)) i) l
noncomputable def q_snoc {α : Type} (v : α) (l : List α) : (List α → qR) → qR := List.rec (motive := fun _ => (List α → qR) → qR) (fun k => k [v]) (fun x _ ih k => ih fun r => k (x :: r)) l
noncomputable def q_app (x y : qR) : qR := match x with
  | none => none
  | some l => (match y with
    | none => none
    | some l2 => some (l ++ l2))
def q_isN {α : Type} (l : List α) : Bool := match l with
  | [] => true
  | _ :: _ => false
def q_isI (v : qV) : Bool := match v with
  | .inl _ => true
  | .inr (.inl _) => true
  | _ => false
def q_isA (v : qV) : Bool := match v with
  | .inr (.inr (.inl _)) => true
  | .inr (.inr (.inr (.inl _))) => true
  | .inr (.inr (.inr (.inr (.inr (.inr (.inr _)))))) => true
  | _ => false
def q_isL (v : qV) : Bool := match v with
  | .inr (.inr (.inr (.inr (.inl _)))) => true
  | .inr (.inr (.inr (.inr (.inr (.inl _))))) => true
  | _ => false
def q_dep (st : List qV) : Nat := match st with
  | [] => 0
  | v :: r => cond (q_isL v) 2 1 + q_dep r
/-- a value's range -/
noncomputable def q_rg (g : qG) (a : qV) (k : Int → Int → qR) : qR := match a with
  | .inl z => k z z
  | .inr (.inl (s, c, d)) => q_at g.1 (fun q => cond (q_le 0 c) (zx_i (Int.add (Int.mul c q.1) d) fun lo => zx_i (Int.add (Int.mul c q.2) d) fun hi => k lo hi) (zx_i (Int.add (Int.mul c q.2) d) fun lo => zx_i (Int.add (Int.mul c q.1) d) fun hi => k lo hi)) s
  | _ => none
/-- a value whose range is one number is that number -/
noncomputable def q_nm (g : qG) (a : qV) (k : qV → qR) : qR := match a with
  | .inr (.inl (s, c, d)) => q_at g.1 (fun q => cond (q_eq q.1 q.2) (zx_i (Int.add (Int.mul c q.1) d) fun z => k (.inl z)) (k a)) s
  | _ => k a
/-- a new symbol -/
noncomputable def q_fr (g : qG) (lo hi : Int) (k : qG → qV → qR) : qR := zx_n (zx_len g.1) fun n => q_snoc (lo, hi) g.1 fun l => k (l, g.2) (.inr (.inl (n, 1, 0)))
noncomputable def q_frL (g : qG) (k : qG → qV → qR) : qR := zx_n (zx_len g.1) fun n => q_snoc (.negSucc 9223372036854775807, .ofNat 9223372036854775807) g.1 fun l => k (l, g.2) (.inr (.inr (.inr (.inr (.inr (.inl n))))))
/-- a new symbol, of any int if the range is too wide -/
noncomputable def q_fw (g : qG) (lo hi : Int) (k : qG → qV → qR) : qR := cond (q_in lo hi) (q_fr g lo hi k) (q_fr g q_mn q_mx k)
/-- c * s + d, or a new symbol if that may wrap -/
noncomputable def q_ln (g : qG) (s : Nat) (c d : Int) (k : qG → qV → qR) : qR := cond (q_eq c 0) (cond (q_in d d) (k g (.inl d)) none) (q_rg g (.inr (.inl (s, c, d))) fun lo hi => cond (q_in lo hi) (k g (.inr (.inl (s, c, d)))) (q_fr g q_mn q_mx k))
def q_bm (x : Int) : Int := Int.bmod x 4294967296
/-- the most that is known of i - j, not below m -/
noncomputable def q_kd (D : List qF) (i j : Nat) (m : Int) : Int := List.rec (motive := fun _ => Int) m (fun f _ ih => cond (Nat.beq f.2.1 i && Nat.beq f.2.2.2.1 j && q_eq f.1 1 && q_eq f.2.2.1 (.negSucc 0) && q_le ih f.2.2.2.2) f.2.2.2.2 ih) D
noncomputable def q_sum (sg : Int) (g : qG) (a b : qV) (k : qG → qV → qR) : qR := q_nm g a fun a => q_nm g b fun b => match a with
  | .inl x => (match b with
    | .inl y => zx_i (q_bm (Int.add x (Int.mul sg y))) fun z => k g (.inl z)
    | .inr (.inl (s, c, d)) => zx_i (Int.mul sg c) fun c' => zx_i (Int.add x (Int.mul sg d)) fun d' => q_ln g s c' d' k
    | _ => none)
  | .inr (.inl (s, c, d)) => (match b with
    | .inl y => zx_i (Int.add d (Int.mul sg y)) fun d' => q_ln g s c d' k
    | .inr (.inl (s2, c2, d2)) => cond (Nat.beq s s2) (zx_i (Int.add c (Int.mul sg c2)) fun c' => zx_i (Int.add d (Int.mul sg d2)) fun d' => q_ln g s c' d' k)
      (q_rg g a fun l1 h1 => q_rg g b fun l2 h2 => cond (q_le 0 sg) (zx_i (Int.add l1 l2) fun lo => zx_i (Int.add h1 h2) fun hi => q_fw g lo hi k)
        (zx_i (Int.sub l1 h2) fun lo => zx_i (Int.sub h1 l2) fun hi => cond (q_eq c 1 && q_eq c2 1) (zx_i (q_kd g.2 s s2 (Int.sub lo (Int.sub d d2))) fun m => zx_i (Int.add m (Int.sub d d2)) fun lo2 => q_fw g lo2 hi k) (q_fw g lo hi k)))
    | _ => none)
  | _ => none
noncomputable def q_mul (g : qG) (a b : qV) (k : qG → qV → qR) : qR := q_nm g a fun a => q_nm g b fun b => match a with
  | .inl x => (match b with
    | .inl y => zx_i (q_bm (Int.mul x y)) fun z => k g (.inl z)
    | .inr (.inl (s, c, d)) => zx_i (Int.mul x c) fun c' => zx_i (Int.mul x d) fun d' => q_ln g s c' d' k
    | _ => none)
  | .inr (.inl (s, c, d)) => (match b with
    | .inl y => zx_i (Int.mul c y) fun c' => zx_i (Int.mul d y) fun d' => q_ln g s c' d' k
    | .inr (.inl _) => q_rg g a fun l1 h1 => q_rg g b fun l2 h2 => cond (q_le 0 l1 && q_le 0 l2) (zx_i (Int.mul l1 l2) fun lo => zx_i (Int.mul h1 h2) fun hi => q_fw g lo hi k) (q_fr g q_mn q_mx k)
    | _ => none)
  | _ => none
def q_mxi (a b : Int) : Int := cond (q_le a b) b a
def q_mni (a b : Int) : Int := cond (q_le a b) a b
noncomputable def q_div (g : qG) (a b : qV) (k : qG → qV → qR) : qR := q_nm g a fun a => q_nm g b fun b => q_rg g a fun l1 h1 => q_rg g b fun l2 h2 => cond (q_le 1 l2)
  (cond (q_le 0 l1 && q_eq l2 h2) (zx_i (Int.tdiv l1 l2) fun lo => zx_i (Int.tdiv h1 l2) fun hi => cond (q_eq lo hi) (k g (.inl lo)) (q_fw g lo hi k)) (zx_i (q_mni l1 0) fun lo => zx_i (q_mxi h1 0) fun hi => q_fw g lo hi k))
  (cond (q_le h2 (.negSucc 0)) (q_fr g q_mn q_mx k) none)
/-- a rest is less than what was divided by: that is kept as a fact -/
noncomputable def q_rem (g : qG) (a b : qV) (k : qG → qV → qR) : qR := q_nm g a fun a => q_nm g b fun b => q_rg g a fun l1 h1 => q_rg g b fun l2 h2 => cond (q_le 1 l2)
  (cond (q_eq l1 h1 && q_eq l2 h2) (zx_i (Int.tmod l1 l2) fun z => k g (.inl z))
    (zx_i (cond (q_le 0 l1) 0 (Int.sub 1 h2)) fun lo => zx_i (cond (q_le 0 l1) (q_mni h1 (Int.sub h2 1)) (Int.sub h2 1)) fun hi => cond (q_in lo hi) (q_fr g lo hi fun g2 v => match b with
      | .inr (.inl (s, c, d)) => cond (q_eq c 1) (zx_i (Int.sub 1 d) fun m => zx_n (zx_len g.1) fun n => k (g2.1, (1, s, .negSucc 0, n, m) :: g2.2) v) (k g2 v)
      | _ => k g2 v) none))
  (cond (q_le h2 (.negSucc 0)) (q_fr g q_mn q_mx k) none)
noncomputable def q_and (g : qG) (a b : qV) (k : qG → qV → qR) : qR := q_nm g a fun a => q_nm g b fun b => match a with
  | .inl x => (match b with
    | .inl y => zx_i (Int32.toInt (Int32.ofInt x &&& Int32.ofInt y)) fun z => k g (.inl z)
    | .inr (.inl _) => cond (q_le 0 x) (q_fr g 0 x k) (q_fr g q_mn q_mx k)
    | _ => none)
  | .inr (.inl _) => (match b with
    | .inl y => cond (q_le 0 y) (q_fr g 0 y k) (q_fr g q_mn q_mx k)
    | .inr (.inl _) => q_fr g q_mn q_mx k
    | _ => none)
  | _ => none
noncomputable def q_bit (f : Int32 → Int32 → Int32) (g : qG) (a b : qV) (k : qG → qV → qR) : qR := q_nm g a fun a => q_nm g b fun b => match a with
  | .inl x => (match b with
    | .inl y => zx_i (Int32.toInt (f (Int32.ofInt x) (Int32.ofInt y))) fun z => k g (.inl z)
    | .inr (.inl _) => q_fr g q_mn q_mx k
    | _ => none)
  | .inr (.inl _) => cond (q_isI b) (q_fr g q_mn q_mx k) none
  | _ => none
/-- a conversion that leaves what is in lo .. hi -/
noncomputable def q_cv (lo hi : Int) (g : qG) (a : qV) (k : qG → qV → qR) : qR := q_rg g a fun l h => cond (q_le lo l && q_le h hi) (k g a) (q_fr g lo hi k)
noncomputable def q_mmx (g : qG) (a b : qV) (k : qG → qV → qR) : qR := q_rg g a fun l1 h1 => q_rg g b fun l2 h2 => zx_i (q_mxi l1 l2) fun lo => zx_i (q_mxi h1 h2) fun hi => cond (q_eq lo hi) (k g (.inl lo)) (q_fr g lo hi k)
noncomputable def q_mmn (g : qG) (a b : qV) (k : qG → qV → qR) : qR := q_rg g a fun l1 h1 => q_rg g b fun l2 h2 => zx_i (q_mni l1 l2) fun lo => zx_i (q_mni h1 h2) fun hi => cond (q_eq lo hi) (k g (.inl lo)) (q_fr g lo hi k)
/-! what a comparison tells -/
/-- a value is u at most -/
noncomputable def q_ub (g : qG) (a : qV) (u : Int) (k : qG → qR) : qR := match a with
  | .inl z => cond (q_le z u) (k g) (some [])
  | .inr (.inl (s, c, d)) => cond (q_le 1 c) (q_at g.1 (fun q => zx_i (q_mni q.2 (Int.ediv (Int.sub u d) c)) fun hi => cond (q_le q.1 hi) (q_set (q.1, hi) g.1 s fun l => k (l, g.2)) (some [])) s) (k g)
  | _ => none
/-- u at least -/
noncomputable def q_lb (g : qG) (a : qV) (u : Int) (k : qG → qR) : qR := match a with
  | .inl z => cond (q_le u z) (k g) (some [])
  | .inr (.inl (s, c, d)) => cond (q_le 1 c) (q_at g.1 (fun q => zx_i (q_mxi q.1 (Int.neg (Int.ediv (Int.sub d u) c))) fun lo => cond (q_le lo q.2) (q_set (lo, q.2) g.1 s fun l => k (l, g.2)) (some [])) s) (k g)
  | _ => none
/-- x - y is n at least: facts may say no; it becomes a fact -/
noncomputable def q_df (g : qG) (a b : qV) (n : Int) (k : qG → qR) : qR := match a with
  | .inr (.inl (s, c, d)) => (match b with
    | .inr (.inl (s2, c2, d2)) => cond (q_eq c 1 && q_eq c2 1 && !Nat.beq s s2) (zx_i (Int.sub (Int.add n d2) d) fun m => cond (q_le (Int.add (q_kd g.2 s2 s (Int.sub (Int.neg m) 1)) m) 0) (cond (q_le m (q_kd g.2 s s2 (Int.sub m 1))) (k g) (k (g.1, (1, s, .negSucc 0, s2, m) :: g.2))) (some [])) (k g)
    | _ => k g)
  | _ => k g
noncomputable def q_ne (g : qG) (a b : qV) (k : qG → qR) : qR := match a with
  | .inl x => (match b with
    | .inl y => cond (q_eq x y) (some []) (k g)
    | .inr (.inl _) => q_rg g b fun lo hi => cond (q_eq x lo) (q_lb g b (Int.add x 1) k) (cond (q_eq x hi) (q_ub g b (Int.sub x 1) k) (cond (q_eq x 0) (q_app (q_ub g b (.negSucc 0) k) (q_lb g b 1 k)) (k g)))
    | _ => none)
  | .inr (.inl (s, c, d)) => (match b with
    | .inl y => q_rg g a fun lo hi => cond (q_eq y lo) (q_lb g a (Int.add y 1) k) (cond (q_eq y hi) (q_ub g a (Int.sub y 1) k) (cond (q_eq y 0) (q_app (q_ub g a (.negSucc 0) k) (q_lb g a 1 k)) (k g)))
    | .inr (.inl (s2, c2, d2)) => cond (Nat.beq s s2 && q_eq c c2) (cond (q_eq d d2) (some []) (k g)) (cond (q_eq c 1 && q_eq c2 1)
      (cond (q_le (Int.sub d2 d) (q_kd g.2 s s2 (Int.sub (Int.sub d2 d) 1))) (q_rg g a fun _ h1 => q_ub g b (Int.sub h1 1) fun g => q_df g a b 1 k)
        (cond (q_le (Int.sub d d2) (q_kd g.2 s2 s (Int.sub (Int.sub d d2) 1))) (q_rg g b fun _ h2 => q_ub g a (Int.sub h2 1) fun g => q_df g b a 1 k) (k g))) (k g))
    | _ => none)
  | _ => none
/-- both are lines of one symbol with one factor: their difference -/
def q_sm (a b : qV) : Option Int := match a with
  | .inr (.inl (s, c, d)) => (match b with
    | .inr (.inl (s2, c2, d2)) => cond (Nat.beq s s2 && q_eq c c2) (some (Int.sub d d2)) none
    | _ => none)
  | _ => none
/-- a - b is n at least -/
noncomputable def q_ge (g : qG) (a b : qV) (n : Int) (k : qG → qR) : qR := match q_sm a b with
  | some z => cond (q_le n z) (k g) (some [])
  | none => q_rg g a fun _ h1 => q_rg g b fun l2 _ => q_lb g a (Int.add l2 n) fun g => q_ub g b (Int.sub h1 n) fun g => q_df g a b n k
noncomputable def q_as (c : ClassFile.Cond) (g : qG) (a b : qV) (k : qG → qR) : qR := match c with
  | .eq => q_ge g a b 0 fun g => q_ge g b a 0 k
  | .ne => q_ne g a b k
  | .lt => q_ge g b a 1 k
  | .ge => q_ge g a b 0 k
  | .gt => q_ge g a b 1 k
  | .le => q_ge g b a 0 k
noncomputable def q_br (c : ClassFile.Cond) (a b : qV) (g : qG) (kt kf : qG → qR) : qR := q_nm g a fun a => q_nm g b fun b => q_app (q_as c g a b kt) (q_as (zx_neg c) g a b kf)
