/-! patterns: a state against a pattern; contracts; calls; the executor -/
abbrev qK : Type := Nat → List qV → List (Int × Int) → qR
noncomputable def q_tx (a lo hi : Int) : Int := cond (q_le 0 a) (Int.mul a hi) (Int.mul a lo)
/-- a range made smaller by facts -/
noncomputable def q_r1 (g : qG) (a b : Int) (j : Nat) (m d : Int) (lo hi : Int) (k : Int → Int → qR) : qR := q_at g.1 (fun r => cond (q_eq a 1) (zx_i (q_mxi lo (Int.add (Int.sub m (q_tx b r.1 r.2)) d)) fun lo => k lo hi) (cond (q_eq a (.negSucc 0)) (zx_i (q_mni hi (Int.add (Int.sub (q_tx b r.1 r.2) m) d)) fun hi => k lo hi) (k lo hi))) j
noncomputable def q_rd (g : qG) (v : qV) (lo hi : Int) (k : Int → Int → qR) : qR := match v with
  | .inr (.inl (s, c, d)) => cond (q_eq c 1) (List.rec (motive := fun _ => Int → Int → qR) (fun lo hi => k lo hi) (fun f _ ih lo hi => cond (Nat.beq f.2.1 s) (q_r1 g f.1 f.2.2.1 f.2.2.2.1 f.2.2.2.2 d lo hi ih) (cond (Nat.beq f.2.2.2.1 s) (q_r1 g f.2.2.1 f.1 f.2.1 f.2.2.2.2 d lo hi ih) (ih lo hi))) g.2 lo hi) (k lo hi)
  | _ => k lo hi
/-- one value against a pattern's: symbols below p are the same on both sides, the others come in order -/
noncomputable def q_mv (p : Nat) (g : qG) (pat act : qV) (n : Nat) (sg : List qV) (gs : List (Int × Int)) (k : qK) (no : qR) : qR := match pat with
  | .inl z => q_nm g act fun a => (match a with
    | .inl y => cond (q_eq z y) (k n sg gs) no
    | _ => no)
  | .inr (.inl (i, c, d)) => cond (Nat.ble (Nat.succ i) p) (cond (q_ve pat act) (k n sg gs) no) (cond (q_isI act && (Nat.beq i n && (q_eq c 1 && q_eq d 0))) (match gs with
      | q :: r => q_rg g act fun lo hi => cond (q_le q.1 lo && q_le hi q.2) (zx_n (Nat.succ n) fun m => k m (act :: sg) r) (q_rd g act lo hi fun lo hi => cond (q_le q.1 lo && q_le hi q.2) (zx_n (Nat.succ n) fun m => k m (act :: sg) r) no)
      | [] => no) no)
  | .inr (.inr (.inl none)) => (match act with
    | .inr (.inr (.inl none)) => k n sg gs
    | _ => no)
  | .inr (.inr (.inl (some a))) => (match act with
    | .inr (.inr (.inl (some b))) => cond (Nat.beq a b) (k n sg gs) no
    | _ => no)
  | .inr (.inr (.inr (.inl a))) => (match act with
    | .inr (.inr (.inr (.inl b))) => cond (Nat.beq a b) (k n sg gs) no
    | _ => no)
  | .inr (.inr (.inr (.inr (.inl x)))) => (match act with
    | .inr (.inr (.inr (.inr (.inl y)))) => cond (q_eq x y) (k n sg gs) no
    | _ => no)
  | .inr (.inr (.inr (.inr (.inr (.inl i))))) => cond (Nat.ble (Nat.succ i) p) (match act with
      | .inr (.inr (.inr (.inr (.inr (.inl j))))) => cond (Nat.beq i j) (k n sg gs) no
      | _ => no) (cond (Nat.beq i n) (match gs with
      | q :: r => (match act with
        | .inr (.inr (.inr (.inr (.inl y)))) => cond (q_le q.1 y && q_le y q.2) (zx_n (Nat.succ n) fun m => k m (act :: sg) r) no
        | .inr (.inr (.inr (.inr (.inr (.inl j))))) => q_at g.1 (fun u => cond (q_le q.1 u.1 && q_le u.2 q.2) (zx_n (Nat.succ n) fun m => k m (act :: sg) r) no) j
        | _ => no)
      | [] => no) no)
  | .inr (.inr (.inr (.inr (.inr (.inr (.inl _)))))) => (match act with
    | .inr (.inr (.inr (.inr (.inr (.inr (.inl _)))))) => k n sg gs
    | a => cond (q_isI a) (k n sg gs) no)
  | .inr (.inr (.inr (.inr (.inr (.inr (.inr _)))))) => cond (q_isA act) (k n sg gs) no
noncomputable def q_ml (p : Nat) (g : qG) (no : qR) (ps : List qV) : List qV → Nat → List qV → List (Int × Int) → qK → qR := List.rec (motive := fun _ => List qV → Nat → List qV → List (Int × Int) → qK → qR) (fun as n sg gs k => match as with
    | [] => k n sg gs
    | _ :: _ => no) (fun x _ ih as n sg gs k => match as with
    | a :: r => q_mv p g x a n sg gs (fun n sg gs => ih r n sg gs k) no
    | [] => no) ps
/-- pairs one by one; what is behind the pattern's last doesn't matter -/
noncomputable def q_mk (p : Nat) (g : qG) (no : qR) (ps : List (qV × qV)) : List (qV × qV) → Nat → List qV → List (Int × Int) → qK → qR := List.rec (motive := fun _ => List (qV × qV) → Nat → List qV → List (Int × Int) → qK → qR) (fun _ n sg gs k => k n sg gs) (fun x _ ih as n sg gs k => match as with
    | a :: r => q_mv p g x.1 a.1 n sg gs (fun n sg gs => q_mv p g x.2 a.2 n sg gs (fun n sg gs => ih r n sg gs k) no) no
    | [] => no) ps
/-- values told out against what is known of a ghost, from place j on -/
noncomputable def q_mkk (p : Nat) (g : qG) (no : qR) (kn : List (qV × qV)) (vs : List qV) : Nat → Nat → List qV → List (Int × Int) → qK → qR := List.rec (motive := fun _ => Nat → Nat → List qV → List (Int × Int) → qK → qR) (fun _ n sg gs k => k n sg gs) (fun x _ ih j n sg gs k => q_kn (.inl (Int.ofNat j)) kn (fun v => q_mv p g x v n sg gs (fun n sg gs => zx_n (Nat.succ j) fun j => ih j n sg gs k) no) no) vs
/-- told-out literals that are what the types say, from place i on -/
noncomputable def q_tl (t : Nat) (P : Nat) (sg : qS) (vs : List qV) : Nat → Bool := List.rec (motive := fun _ => Nat → Bool) (fun _ => true) (fun v _ ih i => cond (Nat.beq t 3) (cond (q_isL v) (ih i) false) (match v with
  | .inl z => cond (q_fa z z i i sg 0) (zx_n (Nat.mod (Nat.succ i) P) fun i => ih i) false
  | _ => false)) vs
noncomputable def q_mc (p : Nat) (g : qG) (no : qR) (x a : qE) (n : Nat) (sg : List qV) (gs : List (Int × Int)) (k : qK) : qR := match x with
  | .inl q => (match a with
    | .inl r => cond (Nat.beq q.1 r.1) (q_ml p g no q.2 r.2 n sg gs k) no
    | .inr (.inr (.inr r)) => cond (Nat.beq q.1 r.1 && (Nat.beq (zx_len q.2) r.2.1 && q_isN r.2.2.2.2)) (q_mkk p g no r.2.2.2.1 q.2 0 n sg gs k) no
    | _ => no)
  | .inr (.inl q) => (match a with
    | .inr (.inl r) => cond (Nat.beq q.1 r.1) (q_ml p g no q.2 r.2 n sg gs k) no
    | _ => no)
  | .inr (.inr (.inl q)) => (match a with
    | .inr (.inr (.inl r)) => cond (Nat.beq q.1 r.1 && (Nat.beq q.2.1 r.2.1 && q_se q.2.2.1 r.2.2.1)) (q_mk p g no q.2.2.2 r.2.2.2 n sg gs k) no
    | .inl r => cond (q_isN q.2.2.2 && (Nat.beq q.1 r.1 && (Nat.beq q.2.1 (zx_len r.2) && q_tl q.1 (q_pd q.2.2.1) q.2.2.1 r.2 0))) (k n sg gs) no
    | _ => no)
  | .inr (.inr (.inr q)) => (match a with
    | .inr (.inr (.inr r)) => cond (Nat.beq q.1 r.1 && (Nat.beq q.2.1 r.2.1 && Nat.beq q.2.2.1 r.2.2.1)) (q_mk p g no q.2.2.2.1 r.2.2.2.1 n sg gs fun n sg gs => cond (q_isN q.2.2.2.2) (cond (q_isN r.2.2.2.2) (k n sg gs) no) (q_mk p g no q.2.2.2.2 r.2.2.2.2 n sg gs k)) no
    | _ => no)
noncomputable def q_mw (p : Nat) (g : qG) (no : qR) (xs : List qE) : List qE → Nat → List qV → List (Int × Int) → qK → qR := List.rec (motive := fun _ => List qE → Nat → List qV → List (Int × Int) → qK → qR) (fun as n sg gs k => match as with
    | [] => k n sg gs
    | _ :: _ => no) (fun x _ ih as n sg gs k => match as with
    | a :: r => q_mc p g no x a n sg gs (fun n sg gs => ih r n sg gs k)
    | [] => no) xs
noncomputable def q_gt (l : qL) (i : Nat) (k : qV → qR) (no : qR) : qR := List.rec (motive := fun _ => qR) no (fun q _ ih => cond (Nat.beq q.1 i) (k q.2) ih) l
noncomputable def q_mlo (p : Nat) (g : qG) (no : qR) (lo : qL) (ps : qL) : Nat → List qV → List (Int × Int) → qK → qR := List.rec (motive := fun _ => Nat → List qV → List (Int × Int) → qK → qR) (fun n sg gs k => k n sg gs) (fun x _ ih n sg gs k => q_gt lo x.1 (fun a => q_mv p g x.2 a n sg gs (fun n sg gs => ih n sg gs k) no) no) ps
noncomputable def q_mo (p : Nat) (g : qG) (no : qR) (x a : Option qV) (n : Nat) (sg : List qV) (gs : List (Int × Int)) (k : qK) : qR := match x with
  | none => (match a with
    | none => k n sg gs
    | some _ => no)
  | some v => (match a with
    | some u => q_mv p g v u n sg gs k no
    | none => no)
noncomputable def q_dr {α : Type} (l : List α) : Nat → List α := List.rec (motive := fun _ => Nat → List α) (fun _ => []) (fun x t ih i => Nat.rec (motive := fun _ => List α) (x :: t) (fun j _ => ih j) i) l
/-- the first p ranges are within those of the pattern -/
noncomputable def q_rr (ps : List (Int × Int)) : Nat → List (Int × Int) → Bool := List.rec (motive := fun _ => Nat → List (Int × Int) → Bool) (fun p _ => Nat.beq p 0) (fun x _ ih p as => Nat.rec (motive := fun _ => Bool) true (fun p' _ => match as with
  | a :: r => cond (q_le x.1 a.1 && q_le a.2 x.2) (ih p' r) false
  | [] => false) p) ps
noncomputable def q_sy (p : Nat) (sg : List qV) (i : Nat) (k : qV → qR) : qR := cond (Nat.ble (Nat.succ i) p) (k (.inr (.inl (i, 1, 0)))) (q_at sg k (Nat.sub i p))
/-- a known fact that gives the one that is asked for -/
noncomputable def q_hf (a : Int) (i : Nat) (b : Int) (j : Nat) (c : Int) (D : List qF) : Bool := List.rec (motive := fun _ => Bool) false (fun f _ ih => cond (Nat.beq f.2.1 i && (Nat.beq f.2.2.2.1 j && (q_eq f.1 a && (q_eq f.2.2.1 b && q_le c f.2.2.2.2)))) true ih) D
/-- (symbol i) - (symbol j) is m at least: by facts one behind another -/
noncomputable def q_trb (D : List qF) (j n : Nat) : Nat → Int → Bool := Nat.rec (motive := fun _ => Nat → Int → Bool) (fun i m => Nat.beq i j && q_le m 0) (fun _ ih i m => cond (Nat.beq i j && q_le m 0) true (List.rec (motive := fun _ => Bool) false (fun f _ ihf => cond (Nat.beq f.2.1 i && (q_eq f.1 1 && q_eq f.2.2.1 (.negSucc 0))) (zx_i (Int.sub m f.2.2.2.2) fun m2 => cond (ih f.2.2.2.1 m2) true ihf) ihf) D)) n
noncomputable def q_tm (a lo hi : Int) : Int := cond (q_le 0 a) (Int.mul a lo) (Int.mul a hi)
noncomputable def q_f1 (p : Nat) (g : qG) (sg : List qV) (f : qF) (k no : qR) : qR := q_sy p sg f.2.1 fun x => q_sy p sg f.2.2.2.1 fun y => q_rg g x fun l1 h1 => q_rg g y fun l2 h2 => cond (q_le f.2.2.2.2 (Int.add (q_tm f.1 l1 h1) (q_tm f.2.2.1 l2 h2))) k (match x with
  | .inr (.inl (s, c, d)) => (match y with
    | .inr (.inl (s2, c2, d2)) => cond (q_eq c 1 && q_eq c2 1) (zx_i (Int.sub (Int.sub f.2.2.2.2 (Int.mul f.1 d)) (Int.mul f.2.2.1 d2)) fun m => cond (q_hf f.1 s f.2.2.1 s2 m g.2 || (q_eq f.1 1 && (q_eq f.2.2.1 (.negSucc 0) && q_trb g.2 s2 12 s m))) k no) no
    | _ => no)
  | _ => no)
noncomputable def q_fs (p : Nat) (g : qG) (sg : List qV) (k no : qR) (fs : List qF) : qR := List.rec (motive := fun _ => qR) k (fun f _ ih => q_f1 p g sg f ih no) fs
noncomputable def q_rv {α : Type} (l : List α) : List α → (List α → qR) → qR := List.rec (motive := fun _ => List α → (List α → qR) → qR) (fun acc k => k acc) (fun x _ ih acc k => ih (x :: acc) k) l
/-- a state against a pattern: what the pattern's own symbols are -/
noncomputable def q_mt (p : Nat) (G0 : qG) (W0 : List qE) (lo0 : qL) (st0 : List qV) (rv0 : Option qV) (g : qG) (w : List qE) (lo : qL) (st : List qV) (rv : Option qV) (k : List qV → qR) (no : qR) : qR :=
  q_mw p g no W0 w p [] (q_dr G0.1 p) fun n sg gs => q_mlo p g no lo lo0 n sg gs fun n sg gs => q_ml p g no st0 st n sg gs fun n sg gs => q_mo p g no rv0 rv n sg gs fun _ sg gs => match gs with
    | [] => q_rv sg [] fun sg => cond (q_rr G0.1 p g.1) (q_fs p g sg (k sg) no G0.2) no
    | _ :: _ => no
/-! what a contract's end is for the caller -/
noncomputable def q_sv (sg : List qV) (p n : Nat) (a : qV) (k : qV → qR) : qR := match a with
  | .inr (.inl (i, c, d)) => cond (Nat.ble (Nat.succ i) p) (q_at sg (fun t => match t with
      | .inl z => zx_i (Int.add (Int.mul c z) d) fun z => k (.inl z)
      | .inr (.inl (s, c2, d2)) => zx_i (Int.mul c c2) fun c3 => zx_i (Int.add (Int.mul c d2) d) fun d3 => k (.inr (.inl (s, c3, d3)))
      | _ => none) i) (zx_n (Nat.add n (Nat.sub i p)) fun j => k (.inr (.inl (j, c, d))))
  | .inr (.inr (.inr (.inr (.inr (.inl i))))) => cond (Nat.ble (Nat.succ i) p) (q_at sg (fun t => cond (q_isL t) (k t) none) i) (zx_n (Nat.add n (Nat.sub i p)) fun j => k (.inr (.inr (.inr (.inr (.inr (.inl j)))))))
  | a => k a
noncomputable def q_svl (sg : List qV) (p n : Nat) (l : List qV) : (List qV → qR) → qR := List.rec (motive := fun _ => (List qV → qR) → qR) (fun k => k []) (fun x _ ih k => q_sv sg p n x fun y => ih fun r => k (y :: r)) l
noncomputable def q_svw (sg : List qV) (p n : Nat) (l : List qE) : (List qE → qR) → qR := List.rec (motive := fun _ => (List qE → qR) → qR) (fun k => k []) (fun x _ ih k => match x with
  | .inl q => q_svl sg p n q.2 fun vs => ih fun r => k (.inl (q.1, vs) :: r)
  | .inr (.inl q) => q_svl sg p n q.2 fun vs => ih fun r => k (.inr (.inl (q.1, vs)) :: r)
  | .inr (.inr (.inl q)) => cond (q_isN q.2.2.2) (ih fun r => k (.inr (.inr (.inl q)) :: r)) none
  | .inr (.inr (.inr q)) => cond (q_isN q.2.2.2.1 && q_isN q.2.2.2.2) (ih fun r => k (.inr (.inr (.inr q)) :: r)) none) l
/-- facts of which one symbol is new -/
noncomputable def q_svf (sg : List qV) (p n : Nat) (l : List qF) : List qF → (List qF → qR) → qR := List.rec (motive := fun _ => List qF → (List qF → qR) → qR) (fun acc k => k acc) (fun f _ ih acc k => cond (Nat.ble (Nat.succ f.2.1) p && Nat.ble (Nat.succ f.2.2.2.1) p) (ih acc k) (q_sv sg p n (.inr (.inl (f.2.1, 1, 0))) fun x => q_sv sg p n (.inr (.inl (f.2.2.2.1, 1, 0))) fun y => match x with
  | .inr (.inl (s, c, d)) => (match y with
    | .inr (.inl (s2, c2, d2)) => cond (q_eq c 1 && q_eq c2 1) (zx_i (Int.sub (Int.sub f.2.2.2.2 (Int.mul f.1 d)) (Int.mul f.2.2.1 d2)) fun m => ih ((f.1, s, f.2.2.1, s2, m) :: acc) k) (ih acc k)
    | _ => ih acc k)
  | _ => ih acc k)) l
noncomputable def q_cat {α : Type} (l m : List α) (k : List α → qR) : qR := List.rec (motive := fun _ => (List α → qR) → qR) (fun k => k m) (fun x _ ih k => ih fun r => k (x :: r)) l k
noncomputable def q_out (sg : List qV) (p n : Nat) (g : qG) (o : qG × List qE × Option qV) (k : qG → List qE → Option qV → qR) : qR := q_cat g.1 (q_dr o.1.1 p) fun g1 => q_svf sg p n o.1.2 g.2 fun D => q_svw sg p n o.2.1 fun w => match o.2.2 with
  | none => k (g1, D) w none
  | some v => q_sv sg p n v fun u => k (g1, D) w (some u)
noncomputable def q_outs (sg : List qV) (p n : Nat) (g : qG) (l : List (qG × List qE × Option qV)) : qR := List.rec (motive := fun _ => qR) (some []) (fun o _ ih => q_app (q_out sg p n g o fun g w v => some [(g, w, .inl v)]) ih) l
/-- the arguments are matched one by one, as locals -/
noncomputable def q_ct (k' d : Nat) (g : qG) (w : List qE) (av : qL) (inl : qR) (ct : List qC) : qR := List.rec (motive := fun _ => qR) inl (fun c _ ih => cond (Nat.beq c.1 k' && Nat.ble c.2.1 d) (q_mt 0 c.2.2.1 c.2.2.2.1 c.2.2.2.2.1 [] none g w av [] none (fun sg => zx_n (zx_len c.2.2.1.1) fun p => zx_n (zx_len g.1) fun n => q_outs sg p n g c.2.2.2.2.2) ih) ih) ct
noncomputable def q_args (is : List Nat) : List qV → qL → (qL → List qV → qR) → qR := List.rec (motive := fun _ => List qV → qL → (qL → List qV → qR) → qR) (fun st lo k => k lo st) (fun i _ ih st lo k => match st with
  | v :: r => ih r ((i, v) :: lo) k
  | [] => none) is
noncomputable def q_rcv (rk ci : Nat) (w : List qE) (lo : qL) (k : qR) : qR := match rk with
  | 0 => k
  | 1 => (match lo with
    | (_, .inr (.inr (.inr (.inl a)))) :: _ => cond (Nat.beq a 2 || Nat.beq a 3 || Nat.beq a 8) k none
    | _ => none)
  | _ => (match lo with
    | (_, .inr (.inr (.inl (some a)))) :: _ => q_at w (fun c => match c with
      | .inr (.inl q) => cond (Nat.beq q.1 ci) k none
      | _ => none) a
    | _ => none)
noncomputable def q_pos (mx : Nat) (l : qL) : Nat → Bool := List.rec (motive := fun _ => Nat → Bool) (fun n => Nat.ble n mx) (fun q _ ih n => cond (Nat.beq q.1 n) (cond (q_isL q.2) (ih (n + 2)) (ih (n + 1))) false) l
noncomputable def q_each (l : List qO) (f : qO → qR) : qR := List.rec (motive := fun _ => qR) (some []) (fun o _ ih => q_app (f o) ih) l
noncomputable def q_call (ct : List qC) (rk ci k mx : Nat) (is : List Nat) (nx : Nat) : qHd := fun rec fr g w lo st _ => q_args is st [] fun av r => cond (Nat.ble (q_dep r) 8 && q_pos mx av 0) (q_rcv rk ci w av
  (Nat.rec (motive := fun _ => qR) none (fun d _ => match q_ct k d g w av (rec (d, k, []) g w av [] 0) ct with
    | none => none
    | some outs => q_each outs fun o => (match o.2.2 with
      | .inl none => rec fr o.1 o.2.1 lo r nx
      | .inl (some v) => rec fr o.1 o.2.1 lo (v :: r) nx
      | .inr _ => none)) fr.1)) none
noncomputable def q_mm (f : qG → qV → qV → (qG → qV → qR) → qR) (nx : Nat) : qHd := fun rec fr g w lo st _ => match st with
  | b :: a :: r => cond (Nat.ble (q_dep r) 8 && Nat.ble 1 fr.1) (f g a b fun g v => rec fr g w lo (v :: r) nx) none
  | _ => none
noncomputable def q_ret (t : Nat) : qHd := fun _ _ g w _ st _ => match st with
  | [v] => q_fit t g v (some [(g, w, .inl (some v))])
  | _ => none
def q_vret : qHd := fun _ _ g w _ st _ => match st with
  | [] => some [(g, w, .inl none)]
  | _ => none
noncomputable def q_psh (n nx : Nat) : qHd := fun rec fr g w lo st _ => zx_i (zx_s n) fun z => rec fr g w lo (.inl z :: st) nx
def q_s64 (n : Nat) : Int := Int.sub (Int.ofNat (Nat.mod (Nat.add n 9223372036854775808) 18446744073709551616)) 9223372036854775808
noncomputable def q_pshl (n nx : Nat) : qHd := fun rec fr g w lo st _ => zx_i (q_s64 n) fun z => rec fr g w lo (.inr (.inr (.inr (.inr (.inl z)))) :: st) nx
noncomputable def q_incN (i c nx : Nat) : qHd := fun rec fr g w lo st pc => zx_i (zx_s c) fun z => q_inc i z nx rec fr g w lo st pc
def q_a1 (a : List Nat) (f : Nat → qHd) : qHd := match a with
  | i :: _ => f i
  | _ => q_bad
def q_a2 (a : List Nat) (f : Nat → Nat → qHd) : qHd := match a with
  | i :: j :: _ => f i j
  | _ => q_bad
def q_a3 (a : List Nat) (f : Nat → Nat → Nat → qHd) : qHd := match a with
  | i :: j :: k :: _ => f i j k
  | _ => q_bad
noncomputable def q_inv (ct : List qC) (a : List Nat) (nx : Nat) : qHd := match a with
  | 1 :: _ => q_cpy nx
  | 4 :: _ => q_mm q_mmx nx
  | 5 :: _ => q_mm q_mmn nx
  | 2 :: rk :: ci :: k :: _ :: _ :: _ :: _ :: _ :: _ :: mx :: is => q_call ct rk ci k mx is nx
  | _ => q_bad
noncomputable def q_h (ct : List qC) (xa : List (Nat × Nat × List zx_V)) (e : zx_RI) : qHd := match e.1 with
  | .aload_n _ => q_a1 e.2.2.2 fun i => q_load q_isA i e.2.2.1
  | .aload _ => q_a1 e.2.2.2 fun i => q_load q_isA i e.2.2.1
  | .iload_n _ => q_a1 e.2.2.2 fun i => q_load q_isI i e.2.2.1
  | .iload _ => q_a1 e.2.2.2 fun i => q_load q_isI i e.2.2.1
  | .lload_n _ => q_a1 e.2.2.2 fun i => q_load q_isL i e.2.2.1
  | .lload _ => q_a1 e.2.2.2 fun i => q_load q_isL i e.2.2.1
  | .istore_n _ => q_a1 e.2.2.2 fun i => q_sto1 q_isI i e.2.2.1
  | .istore _ => q_a1 e.2.2.2 fun i => q_sto1 q_isI i e.2.2.1
  | .astore_n _ => q_a1 e.2.2.2 fun i => q_sto1 q_isA i e.2.2.1
  | .astore _ => q_a1 e.2.2.2 fun i => q_sto1 q_isA i e.2.2.1
  | .lstore_n _ => q_a1 e.2.2.2 fun i => q_sto2 i e.2.2.1
  | .lstore _ => q_a1 e.2.2.2 fun i => q_sto2 i e.2.2.1
  | .iconst _ => q_a1 e.2.2.2 fun n => q_psh n e.2.2.1
  | .bipush _ => q_a1 e.2.2.2 fun n => q_psh n e.2.2.1
  | .sipush _ => q_a1 e.2.2.2 fun n => q_psh n e.2.2.1
  | .lconst _ => q_a1 e.2.2.2 fun n => q_pshl n e.2.2.1
  | .ldc _ => q_a2 e.2.2.2 fun t n => cond (Nat.beq t 0) (q_psh n e.2.2.1) (q_push (.inr (.inr (.inr (.inl n)))) e.2.2.1)
  | .ldc_w _ => q_a2 e.2.2.2 fun t n => cond (Nat.beq t 0) (q_psh n e.2.2.1) q_bad
  | .ldc2_w _ => q_a1 e.2.2.2 fun n => q_pshl n e.2.2.1
  | .iinc _ _ => q_a2 e.2.2.2 fun i c => q_incN i c e.2.2.1
  | .iadd => q_bin (q_sum 1) e.2.2.1
  | .isub => q_bin (q_sum (.negSucc 0)) e.2.2.1
  | .imul => q_bin q_mul e.2.2.1
  | .iand => q_anb e.2.2.1
  | .ior => q_bin (q_bit fun x y => x ||| y) e.2.2.1
  | .ixor => q_bin (q_bit fun x y => x ^^^ y) e.2.2.1
  | .ishl => q_bin (q_bit fun x y => x <<< (y &&& 31)) e.2.2.1
  | .ishr => q_bin (q_bit fun x y => x >>> (y &&& 31)) e.2.2.1
  | .iushr => q_bin (q_bit fun x y => (x.toUInt32 >>> (y.toUInt32 &&& Int32.toUInt32 31)).toInt32) e.2.2.1
  | .idiv => q_bin q_div e.2.2.1
  | .irem => q_bin q_rem e.2.2.1
  | .ladd => q_lop e.2.2.1
  | .lmul => q_lop e.2.2.1
  | .lor => q_lop e.2.2.1
  | .lshl => q_lsh e.2.2.1
  | .i2l => q_i2l e.2.2.1
  | .l2i => q_l2i e.2.2.1
  | .lcmp => q_lcmp e.2.2.1
  | .i2b => q_una (q_cv (.negSucc 127) 127) e.2.2.1
  | .i2c => q_una (q_cv 0 65535) e.2.2.1
  | .dup => q_stk q_dup e.2.2.1
  | .pop => q_stk q_pop e.2.2.1
  | .dup2 => q_stk q_dup2 e.2.2.1
  | .dup_x1 => q_stk q_dupx e.2.2.1
  | .ifCond c _ => q_a1 e.2.2.2 fun t => q_if1 c t e.2.2.1
  | .if_icmp c _ => q_a1 e.2.2.2 fun t => q_if2 c t e.2.2.1
  | .goto _ => q_a1 e.2.2.2 fun t => q_goto t
  | .tableswitch _ lo hi _ => q_tsw lo hi e.2.2.2
  | .lookupswitch _ ps => q_lsw ps.toList e.2.2.2
  | .getfield _ => q_a3 e.2.2.2 fun t ci j => cond (Nat.beq t 0) (q_gf ci j e.2.2.1) (q_xgf ci e.2.2.1)
  | .putfield _ => q_a3 e.2.2.2 fun ci j t => q_pf ci j t e.2.2.1
  | .getstatic _ => q_a1 e.2.2.2 fun t => cond (Nat.beq t 0) (q_push (.inr (.inr (.inr (.inl 0)))) e.2.2.1) (cond (Nat.beq t 1) (q_push (.inl 1) e.2.2.1) (q_push (.inr (.inr (.inr (.inl 7)))) e.2.2.1))
  | .arraylength => q_alen xa e.2.2.1
  | .iaload => q_ald xa (fun t => Nat.beq t 0) e.2.2.1
  | .baload => q_ald xa zx_bx e.2.2.1
  | .laload => q_lald e.2.2.1
  | .iastore => q_ast (fun t => Nat.beq t 0) e.2.2.1
  | .bastore => q_ast zx_bx e.2.2.1
  | .lastore => q_last e.2.2.1
  | .invokevirtual _ => q_inv ct e.2.2.2 e.2.2.1
  | .invokestatic _ => q_inv ct e.2.2.2 e.2.2.1
  | .ireturn => q_a1 e.2.2.2 fun t => q_ret t
  | .lreturn => q_ret 3
  | .return_ => q_vret
  | _ => q_bad
noncomputable def q_ent (ct : List qC) (xa : List (Nat × Nat × List zx_V)) (k pc : Nat) : qHd := match (zx_code.getD k [])[pc]? with
  | some e => q_h ct xa e
  | none => q_bad
noncomputable def q_mem (n : Nat) (l : List Nat) : Bool := List.rec (motive := fun _ => Bool) false (fun x _ ih => cond (Nat.beq x n) true ih) l
noncomputable def q_run (ct : List qC) (xa : List (Nat × Nat × List zx_V)) (n : Nat) : qRec := Nat.rec (motive := fun _ => qRec) (fun _ _ _ _ _ _ => none)
  (fun _ ih fr g w lo st pc => cond (q_mem pc fr.2.2) (some [(g, w, .inr (pc, lo, st))]) (q_ent ct xa fr.2.1 pc ih fr g w lo st pc)) n
/-- from a node: the first step is done wherever it is -/
noncomputable def q_go (ct : List qC) (xa : List (Nat × Nat × List zx_V)) (n : Nat) : qRec := fun fr g w lo st pc => q_ent ct xa fr.2.1 pc (q_run ct xa n) fr g w lo st pc
