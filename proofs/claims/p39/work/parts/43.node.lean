/-! nodes of a method: patterns at places where runs pause; a measure falls from node to node -/
abbrev qM : Type := Int × List (Int × Nat)
abbrev qN : Type := Nat × qG × List qE × qL × List qV × qM
/-- a * (symbol i) more -/
noncomputable def q_ad (a : Int) (i : Nat) (l : List (Int × Nat)) : List (Int × Nat) := List.rec (motive := fun _ => List (Int × Nat)) [(a, i)] (fun q t ih => cond (Nat.beq q.2 i) (zx_i (Int.add q.1 a) fun b => (b, i) :: t) (q :: ih)) l
/-- the least that a sum can be -/
noncomputable def q_lw (g : List (Int × Int)) (c : Int) (l : List (Int × Nat)) (k : Int → qR) : qR := List.rec (motive := fun _ => Int → qR) (fun c => k c) (fun q _ ih c => q_at g (fun r => zx_i (Int.add c (q_tm q.1 r.1 r.2)) fun c => ih c) q.2) l c
/-- the source's sum less the target's -/
noncomputable def q_dm (p : Nat) (sg : List qV) (l : List (Int × Nat)) : Int → List (Int × Nat) → (Int → List (Int × Nat) → qR) → qR := List.rec (motive := fun _ => Int → List (Int × Nat) → (Int → List (Int × Nat) → qR) → qR) (fun c acc k => k c acc) (fun q _ ih c acc k => q_sy p sg q.2 fun v => match v with
  | .inl z => zx_i (Int.sub c (Int.mul q.1 z)) fun c => ih c acc k
  | .inr (.inl (s, c2, d2)) => zx_i (Int.sub c (Int.mul q.1 d2)) fun c => zx_i (Int.neg (Int.mul q.1 c2)) fun a => ih c (q_ad a s acc) k
  | _ => none) l
/-- from measure ms (of the run's first symbols) to measure mt (of the target's symbols): it falls, and was above 0 -/
noncomputable def q_fl (p : Nat) (g : qG) (sg : List qV) (ms mt : qM) : qR := q_lw g.1 ms.1 ms.2 fun m => cond (q_le 1 m) (q_dm p sg mt.2 (Int.sub ms.1 mt.1) ms.2 fun c l => q_lw g.1 c l fun m => cond (q_le 1 m) (some []) none) none
noncomputable def q_lp (p : Nat) (o : qO) (rv : Option qV) (l : List (qG × List qE × Option qV)) : qR := List.rec (motive := fun _ => qR) none (fun c _ ih => q_mt p c.1 c.2.1 [] [] c.2.2 o.1 o.2.1 [] [] rv (fun _ => some []) ih) l
noncomputable def q_ln2 (p : Nat) (o : qO) (pc : Nat) (lo : qL) (st : List qV) (ms : Option qM) (l : List qN) : qR := List.rec (motive := fun _ => qR) none (fun c _ ih => cond (Nat.beq c.1 pc) (q_mt p c.2.1 c.2.2.1 c.2.2.2.1 c.2.2.2.2.1 none o.1 o.2.1 lo st none (fun sg => match ms with
  | none => some []
  | some m => q_fl p o.1 sg m c.2.2.2.2.2) ih) ih) l
noncomputable def q_land (p : Nat) (posts : List (qG × List qE × Option qV)) (nodes : List qN) (ms : Option qM) (o : qO) : qR := match o.2.2 with
  | .inl rv => q_lp p o rv posts
  | .inr (pc, lo, st) => q_ln2 p o pc lo st ms nodes
noncomputable def q_all (f : qO → qR) (l : List qO) : Bool := List.rec (motive := fun _ => Bool) true (fun o _ ih => match f o with
  | some _ => ih
  | none => false) l
noncomputable def q_okR (f : qO → qR) (r : qR) : Bool := match r with
  | some l => q_all f l
  | none => false
/-- a measure's symbols are the node's -/
noncomputable def q_ms (n : Nat) (l : List (Int × Nat)) : Bool := List.rec (motive := fun _ => Bool) true (fun q _ ih => cond (Nat.ble (Nat.succ q.2) n) ih false) l
noncomputable def q_chn (f : qN → Bool) (l : List qN) : Bool := List.rec (motive := fun _ => Bool) true (fun n _ ih => cond (f n) ih false) l
noncomputable def q_chk (ct : List qC) (xa : List (Nat × Nat × List zx_V)) (fuel : Nat) (c : qC) (cuts : List Nat) (nodes : List qN) : Bool :=
  cond (q_okR (q_land (zx_len c.2.2.1.1) c.2.2.2.2.2 nodes none) (q_run ct xa fuel (c.2.1, c.1, cuts) c.2.2.1 c.2.2.2.1 c.2.2.2.2.1 [] 0))
    (q_chn (fun n => cond (q_ms (zx_len n.2.1.1) n.2.2.2.2.2.2) (q_okR (q_land (zx_len c.2.2.1.1) c.2.2.2.2.2 nodes (some n.2.2.2.2.2)) (q_go ct xa fuel (c.2.1, c.1, cuts) n.2.1 n.2.2.1 n.2.2.2.1 n.2.2.2.2.1 n.1)) false) nodes) false
