/-! arrays: the handlers -/
section QU
variable {ex : Nat → Value} {fc : Nat → Nat → Int32} {Γ : qΓ} {D : va_G} {as : List Nat} {tys : List (ClassId × FieldType)} {k pc : Nat}
theorem q_xa_ok {f : Nat × Nat × List zx_V → qR} {a : Nat} {o : List qO} : ∀ {l : List (Nat × Nat × List zx_V)}, List.rec (motive := fun _ => qR) none (fun q _ ih => cond (Nat.beq q.1 a) (f q) ih) l = some o → ∃ q ∈ l, q.1 = a ∧ f q = some o
  | [], h => by cases h
  | q :: r, h => by
    have h : cond (Nat.beq q.1 a) (f q) (List.rec (motive := fun _ => qR) none (fun q _ ih => cond (Nat.beq q.1 a) (f q) ih) r) = some o := h
    rcases q_if h with ⟨hb, h1⟩ | ⟨hb, h1⟩
    · exact ⟨q, List.mem_cons_self, Nat.eq_of_beq_eq_true hb, h1⟩
    · obtain ⟨z, z1, z2, z3⟩ := q_xa_ok (l := r) h1
      exact ⟨z, List.mem_cons_of_mem _ z1, z2, z3⟩
theorem q_zl_ok : ∀ {vs : List zx_V} {j : Nat} {a : zx_V} {x : Int32}, vs[j]? = some a → zy_c q_ρ0 a = .int x → q_zl vs ≤ x.toInt ∧ x.toInt ≤ q_zh vs
  | [], j, a, x, h, _ => by simp at h
  | v :: vs, j, a, x, h, hv => by
    have hb := q_i32 x
    have ih : ∀ {i : Nat}, vs[i]? = some a → q_zl vs ≤ x.toInt ∧ x.toInt ≤ q_zh vs := fun hi => q_zl_ok hi hv
    match v, h with
    | .inl z, h =>
      show q_mni (zx_s z) (q_zl vs) ≤ x.toInt ∧ x.toInt ≤ q_mxi (zx_s z) (q_zh vs)
      rw [q_mni_eq, q_mxi_eq]
      cases j with
      | zero =>
        cases h
        have hv : Value.int (Int32.ofNat z) = .int x := hv
        cases hv
        rw [zy_toInt]
        omega
      | succ j =>
        have := ih (i := j) h
        omega
    | .inr _, h => exact hb
theorem qh_ald {ts : Nat → Bool} {nx : Nat} (hts3 : ∀ t, ts t = true → t < 3)
    (rowW : ∀ {t : Nat}, ts t = true → ∀ {p : Program} {l : Launch} {e : Env} {R : Room} {s : State} {m : MethodId} {args : Array Value} {below : List Frame} {meth : Method} {c : Code} {H : Heap} {locs : List Loc} {cells slots : Nat} {Q : State → Prop} {ls : Array Slot} {rest : List Value} {ws : va_W} {q0 t0 a : Nat} {cA : ClassId} {n : Nat} {f : Nat → Int32} {i : Int32}, p.tables.exec = Jvm.exec → c.code = zx_bys k → va_K D zx_cl tys s → va_P D zx_cl ws H → ws[q0]? = some (a, .inl (cA, n, .inl f)) → tys[t0]? = some (cA, zx_ft t) → vp_in i n →
      W p l e R s m args below meth c H locs cells slots Q (F0 m nx ls (.int (f i.toNatClampNeg) :: rest)) → W p l e R s m args below meth c H locs cells slots Q (F0 m pc ls (.int i :: .ref a :: rest)))
    (rowX : ∀ {t : Nat}, ts t = true → ∀ {p : Program} {l : Launch} {e : Env} {R : Room} {s : State} {m : MethodId} {args : Array Value} {below : List Frame} {meth : Method} {c : Code} {H : Heap} {locs : List Loc} {cells slots : Nat} {Q : State → Prop} {ls : Array Slot} {rest : List Value} {A : Nat → Prop} {a n : Nat} {f : Nat → Value} {i : Int32}, p.tables.exec = Jvm.exec → c.code = zx_bys k → va_T (zx_ft t) a n f A s s.heap → va_S A s.heap H locs → vp_in i n →
      W p l e R s m args below meth c H locs cells slots Q (F0 m nx ls (f i.toNatClampNeg :: rest)) → W p l e R s m args below meth c H locs cells slots Q (F0 m pc ls (.int i :: .ref a :: rest))) : qy_Hok ex Γ D as tys k pc (q_ald zx_xa0 ts nx) := by
  intro rec hr fr g w lo st outs hk h _ fc ρ p l e R s m args below meth cd A ws H locs cs sl ls sv Q Cx Dy hl hs hret
  subst hk
  have hg := Dy.2.2.2.2.2
  have hw := Dy.2.2.2.2.1
  -- a new symbol for what is read
  have any : ∀ {x : Int32} {l0 h0 : Int} {r : List qV} {t : List Value}, l0 ≤ x.toInt → x.toInt ≤ h0 → qy_s ρ ex as r t → (q_fr g l0 h0 fun g v => rec fr g w lo (v :: r) nx) = some outs → W p l e R s m args below meth cd H locs cs sl Q (F0 m nx ls (.int x :: t)) := by
    intro x l0 h0 r t b1 b2 h2 h
    obtain ⟨ρ', g', v, q1, q2, q3, q4⟩ := q_fr_ok (ex := ex) (as := as) (x := x) hg b1 b2 h
    exact hr _ _ _ _ _ _ _ q4 () Cx (Dy.g q1 q2) (hl.mono q1) ⟨q3, h2.mono q1⟩ (hret.mono q1 (fun _ z => z))
  match st, sv, hs, h with
  | j :: .inr (.inr (.inl (some a))) :: r, vi :: v :: t, ⟨h0, h1, h2⟩, h =>
    unfold q_ald at h
    dsimp only at h
    obtain ⟨j', h0, h⟩ := q_nm_ok hg h0 h
    obtain ⟨x, li, hi, rfl, b1, b2, h⟩ := q_rg_ok hg h0 h
    obtain ⟨c0, h3, h4⟩ := q_at_ok h
    obtain ⟨q, e0, rfl, haq, h9, h10⟩ := qy_arr hw h3 h1
    match c0, h3, h4, h10 with
    | .inl (ty, vs), h3, h4, h10 =>
      obtain ⟨hb, h4⟩ := q_cond h4
      obtain ⟨c1, c2⟩ := Bool.and_eq_true_iff.mp hb
      rw [zx_len_eq] at c2
      obtain ⟨d1, d2⟩ := q_i0_ok c2
      dsimp only at d2
      obtain ⟨v1, v2⟩ := q_vin (x := x) (n := vs.length) (by omega) (by omega)
      match e0, h10, h9 with
      | .inl (cA, nn, .inl f), ⟨_, ⟨i0, h11⟩, h12, h13⟩, h9 =>
        subst h12
        refine rowW c1 Cx.1 Cx.2.1 Dy.1 Dy.2.1 h9 h11 v1 ?_
        rw [v2]
        have hex : ∃ u, vs[x.toInt.toNat]? = some u := ⟨vs[x.toInt.toNat]'(by omega), List.getElem?_eq_getElem (by omega)⟩
        obtain ⟨u, hu⟩ := hex
        have hu2 := h13 _ u hu
        rcases q_if h4 with ⟨hq, h5⟩ | ⟨hq, h5⟩
        · have hq := q_eq_iff.mp hq
          obtain ⟨u', hu', h6⟩ := q_at_ok h5
          have e : li.toNat = x.toInt.toNat := by omega
          rw [e, hu] at hu'
          cases hu'
          rcases u with u | u | u | u | u | u | u | u
          · exact hr _ _ _ _ _ _ _ h6 () Cx Dy hl ⟨hu2, h2⟩ hret
          · exact hr _ _ _ _ _ _ _ h6 () Cx Dy hl ⟨hu2, h2⟩ hret
          · exact hr _ _ _ _ _ _ _ h6 () Cx Dy hl ⟨hu2, h2⟩ hret
          · exact hr _ _ _ _ _ _ _ h6 () Cx Dy hl ⟨hu2, h2⟩ hret
          · exact hr _ _ _ _ _ _ _ h6 () Cx Dy hl ⟨hu2, h2⟩ hret
          · exact hr _ _ _ _ _ _ _ h6 () Cx Dy hl ⟨hu2, h2⟩ hret
          · exact any (q_i32 _).1 (q_i32 _).2 h2 h6
          · exact hr _ _ _ _ _ _ _ h6 () Cx Dy hl ⟨hu2, h2⟩ hret
        · rw [zx_i_eq, zx_i_eq] at h5
          obtain ⟨m1, m2⟩ := q_xl_ok hu hu2
          exact any m1 m2 h2 h5
    | .inr (.inr (.inl (ty, N, sg, kn))), h3, h4, h10 =>
      obtain ⟨hb, h4⟩ := q_cond h4
      obtain ⟨c1, c2⟩ := Bool.and_eq_true_iff.mp hb
      obtain ⟨d1, d2⟩ := q_i0_ok c2
      dsimp only at d2
      obtain ⟨v1, v2⟩ := q_vin (x := x) (n := N) (by omega) (by omega)
      match e0, h10, h9 with
      | .inl (cA, nn, .inl f), ⟨y0, ⟨i0, h11⟩, h12, h13, h14⟩, h9 =>
        subst h12
        refine rowW c1 Cx.1 Cx.2.1 Dy.1 Dy.2.1 h9 h11 v1 ?_
        rw [v2]
        rcases q_kn_ok h4 with ⟨u, u1, u2, u3⟩ | h5
        · obtain ⟨y, f1, f2, f3, f4⟩ := h14 u u1
          have e := q_ve_ok h0 f1 u2
          cases e
          exact hr _ _ _ _ _ _ _ u3 () Cx Dy hl ⟨f4, h2⟩ hret
        · obtain ⟨a1, b3, h6, hP, p1, p2⟩ := q_ri_ok h0 b1 b2 d1 h5
          rw [zx_i_eq, zx_i_eq] at h6
          have hty := h13 x.toInt.toNat (by omega)
          obtain ⟨m1, m2⟩ := q_fa_lo p1 p2 hty (Nat.zero_le _) (by rw [Nat.zero_add]; exact Nat.mod_lt _ hP)
          obtain ⟨ρ', g', vv, q1, q2, q3, q4⟩ := q_fr_ok (ex := ex) (as := as) (x := f x.toInt.toNat) hg m1 m2 h6
          obtain ⟨-, q5⟩ := q_set_ok q4
          refine hr _ _ _ _ _ _ _ q5 () Cx ⟨Dy.1, Dy.2.1, Dy.2.2.1, Dy.2.2.2.1, qy_wsame (hw.mono q1) haq h9 ⟨y0, ⟨i0, h11⟩, rfl, h13, fun u hu => ?_⟩, q2⟩ (hl.mono q1) ⟨q3, h2.mono q1⟩ (hret.mono q1 (fun _ z => z))
          rcases List.mem_cons.mp hu with rfl | hu
          · exact ⟨x, h0.mono q1, by omega, (show x.toInt < (nn : Int) by omega), q3⟩
          · obtain ⟨y, f1, f2, f3, f4⟩ := h14 u (q_t3_mem hu)
            exact ⟨y, f1.mono q1, f2, f3, f4.mono q1⟩
      | .inl (cA, nn, .inr (.inl f)), ⟨h11, _⟩, h9 => exact absurd (hts3 ty c1) (by omega)
    | .inr (.inr (.inr (ty, N, κ, kn, ov))), h3, h4, h10 =>
      obtain ⟨hb, h4b⟩ := q_cond h4
      clear h4
      obtain ⟨c1, c2⟩ := Bool.and_eq_true_iff.mp hb
      obtain ⟨d1, d2⟩ := q_i0_ok c2
      dsimp only at d2
      obtain ⟨v1, v2⟩ := q_vin (x := x) (n := N) (by omega) (by omega)
      match e0, h10, h9 with
      | .inl (cA, nn, .inl f), ⟨y0, ⟨i0, h11⟩, h12, h13, h14⟩, h9 =>
        subst h12
        refine rowW c1 Cx.1 Cx.2.1 Dy.1 Dy.2.1 h9 h11 v1 ?_
        rw [v2]
        match ov, h14, h4b, h9 with
        | _ :: _, h14, h4b, h9 => exact any (q_i32 _).1 (q_i32 _).2 h2 h4b
        | [], h14, h4b, h9 =>
          have hff : f x.toInt.toNat = fc κ x.toInt.toNat := h14 _ (by omega)
          rw [hff]
          rcases q_kn_ok h4b with ⟨u, u1, u2, u3⟩ | h5
          · obtain ⟨y, f1, f2, f3, f4⟩ := h13 u u1
            have e := q_ve_ok h0 f1 u2
            cases e
            exact hr _ _ _ _ _ _ _ u3 () Cx Dy hl ⟨f4, h2⟩ hret
          · obtain ⟨ρ', g', vv, q1, q2, q3, q4⟩ := q_fr_ok (ex := ex) (as := as) (x := fc κ x.toInt.toNat) hg (q_i32 _).1 (q_i32 _).2 h5
            obtain ⟨-, q5⟩ := q_set_ok q4
            refine hr _ _ _ _ _ _ _ q5 () Cx ⟨Dy.1, Dy.2.1, Dy.2.2.1, Dy.2.2.2.1, qy_wsame (hw.mono q1) haq h9 ⟨y0, ⟨i0, h11⟩, rfl, fun u hu => ?_, h14⟩, q2⟩ (hl.mono q1) ⟨q3, h2.mono q1⟩ (hret.mono q1 (fun _ z => z))
            rcases List.mem_cons.mp hu with rfl | hu
            · exact ⟨x, h0.mono q1, by omega, (show x.toInt < (nn : Int) by omega), q3⟩
            · obtain ⟨y, f1, f2, f3, f4⟩ := h13 u (q_t3_mem hu)
              exact ⟨y, f1.mono q1, f2, f3, f4.mono q1⟩
    | .inr (.inl _), h3, h4, h10 => cases h4
  | j :: .inr (.inr (.inr (.inl a))) :: r, vi :: v :: t, ⟨h0, h1, h2⟩, h =>
    unfold q_ald at h
    dsimp only at h
    obtain ⟨j', h0, h⟩ := q_nm_ok hg h0 h
    obtain ⟨x, li, hi, rfl, b1, b2, h⟩ := q_rg_ok hg h0 h
    obtain ⟨q, hq, rfl, h4⟩ := q_xa_ok (l := zx_xa0) (a := a) (o := outs) (f := fun q : Nat × Nat × List zx_V => cond (ts q.2.1 && q_i0 li hi (zx_len q.2.2)) (cond (q_eq li hi) (q_at q.2.2 (fun x => match x with
      | .inl n => zx_i (zx_s n) fun z => rec fr g w lo (.inl z :: r) nx
      | _ => none) (Int.toNat li)) (zx_i (q_zl q.2.2) fun l0 => zx_i (q_zh q.2.2) fun h0 => q_fr g l0 h0 fun g v => rec fr g w lo (v :: r) nx)) none) h
    obtain ⟨hb, h4⟩ := q_cond h4
    obtain ⟨c1, c2⟩ := Bool.and_eq_true_iff.mp hb
    rw [zx_len_eq] at c2
    obtain ⟨d1, d2⟩ := q_i0_ok c2
    obtain ⟨v1, v2⟩ := q_vin (x := x) (n := q.2.2.length) (by omega) (by omega)
    obtain ⟨b, e1, e0, e2⟩ := Cx.2.2.2.2.2.2.1.2.1 q hq
    rw [show v = ex q.1 from h1, e1]
    refine rowX c1 Cx.1 Cx.2.1 e2 Dy.2.2.2.1 v1 ?_
    have hex : ∃ u, q.2.2[x.toInt.toNat]? = some u := ⟨q.2.2[x.toInt.toNat]'(by omega), List.getElem?_eq_getElem (by omega)⟩
    obtain ⟨u, hu⟩ := hex
    have e3 : zy_c q_ρ0 (q.2.2.getD x.toNatClampNeg zx_top) = zy_c q_ρ0 u := by rw [v2, List.getD_eq_getElem?_getD, hu]; rfl
    rw [e3]
    have hc := e0 u (List.mem_of_getElem? hu)
    rcases q_if h4 with ⟨hq2, h5⟩ | ⟨hq2, h5⟩
    · have hq2 := q_eq_iff.mp hq2
      obtain ⟨u', hu', h6⟩ := q_at_ok h5
      have e : li.toNat = x.toInt.toNat := by omega
      rw [e, hu] at hu'
      cases hu'
      rcases u with n | u
      · have h6 : zx_i (zx_s n) (fun z => rec fr g w lo (.inl z :: r) nx) = some outs := h6
        rw [zx_i_eq] at h6
        exact hr _ _ _ _ _ _ _ h6 () Cx Dy hl ⟨qy_lit (zy_toInt n), h2⟩ hret
      · cases h6
    · rw [zx_i_eq, zx_i_eq] at h5
      have hi : ∃ y : Int32, zy_c q_ρ0 u = .int y := by
        match u, hc with
        | .inl n, _ => exact ⟨_, rfl⟩
        | .inr (.inr (.inr (.inl i))), _ => exact ⟨_, rfl⟩
      obtain ⟨y, hy⟩ := hi
      rw [hy]
      obtain ⟨m1, m2⟩ := q_zl_ok hu hy
      exact any m1 m2 h2 h5
theorem qh_lald {nx : Nat} (hd : decode (zx_bys k) pc = .ok (.laload, 1)) (hn : nx = pc + 1) : qy_Hok ex Γ D as tys k pc (q_lald nx) := by
  intro rec hr fr g w lo st outs hk h _ fc ρ p l e R s m args below meth cd A ws H locs cs sl ls sv Q Cx Dy hl hs hret
  subst hk; subst hn
  have hg := Dy.2.2.2.2.2
  match st, sv, hs, h with
  | j :: .inr (.inr (.inl (some a))) :: r, vi :: v :: t, ⟨h0, h1, h2⟩, h =>
    unfold q_lald at h
    dsimp only at h
    obtain ⟨x, li, hi, rfl, b1, b2, h⟩ := q_rg_ok hg h0 h
    obtain ⟨c0, h3, h4⟩ := q_at_ok h
    obtain ⟨q, e0, rfl, haq, h9, h10⟩ := qy_arr Dy.2.2.2.2.1 h3 h1
    match c0, h3, h4, h10 with
    | .inr (.inr (.inl (ty, N, sg, kn))), h3, h4, h10 =>
      obtain ⟨hb, h4b⟩ := q_cond h4
      clear h4
      obtain ⟨c1, c2⟩ := Bool.and_eq_true_iff.mp hb
      have c1 : ty = 3 := Nat.eq_of_beq_eq_true c1
      obtain ⟨d1, d2⟩ := q_i0_ok c2
      dsimp only at d2
      obtain ⟨v1, v2⟩ := q_vin (x := x) (n := N) (by omega) (by omega)
      match e0, h10, h9 with
      | .inl (cA, nn, .inl f), ⟨h11, _⟩, h9 => exact absurd h11 (by omega)
      | .inl (cA, nn, .inr (.inl f)), ⟨h11, ⟨i0, h12⟩, h13, h14⟩, h9 =>
        subst h13
        refine va_lald Cx.1 Cx.2.1 Dy.1 Dy.2.1 a i0 h9 h12 v1 hd ?_
        obtain ⟨ρ', g', vv, q1, q2, q3, q4⟩ := q_frL_ok (ex := ex) (as := as) (x := f x.toNatClampNeg) hg h4b
        exact hr _ _ _ _ _ _ _ q4 () Cx (Dy.g q1 q2) (hl.mono q1) ⟨q3, h2.mono q1⟩ (hret.mono q1 (fun _ z => z))
theorem q_nar_ok {ρ : List Int} {g : qG} {t : Nat} {a : qV} {v : Value} {kk : Int → Int → qR} {o : List qO} (hg : qy_g ρ g) (hv : qy_v ρ ex as a v) (h : q_nar t g a kk = some o) : ∃ x lo hi, v = .int x ∧ lo ≤ x.toInt ∧ x.toInt ≤ hi ∧ zy_nar t x = x ∧ t < 3 ∧ kk lo hi = some o := by
  obtain ⟨x, lo, hi, rfl, b1, b2, h⟩ := q_rg_ok hg hv h
  match t, h with
  | 0, h => exact ⟨x, lo, hi, rfl, b1, b2, rfl, by omega, h⟩
  | 1, h =>
    obtain ⟨hb, h⟩ := q_cond h
    obtain ⟨c1, c2⟩ := Bool.and_eq_true_iff.mp hb
    have c1 : (-128 : Int) ≤ lo := q_le_iff.mp c1
    have c2 := q_le_iff.mp c2
    refine ⟨x, lo, hi, rfl, b1, b2, ?_, by omega, h⟩
    show vp_nar .byte x = x
    have e : vp_nar .byte x = x.toInt8.toInt32 := rfl
    rw [e]
    apply Int32.toInt_inj.mp
    rw [Int8.toInt_toInt32, Int32.toInt_toInt8, Int.bmod_def]
    split <;> omega
  | 2, h =>
    obtain ⟨hb, h⟩ := q_cond h
    obtain ⟨c1, c2⟩ := Bool.and_eq_true_iff.mp hb
    have c1 := q_le_iff.mp c1
    have c2 := q_le_iff.mp c2
    refine ⟨x, lo, hi, rfl, b1, b2, ?_, by omega, h⟩
    have hx : x = 0 ∨ x = 1 := by
      rcases Int.lt_or_le x.toInt 1 with z | z
      · exact Or.inl (Int32.toInt_inj.mp (by show x.toInt = 0; omega))
      · exact Or.inr (Int32.toInt_inj.mp (by show x.toInt = 1; omega))
    rcases hx with rfl | rfl <;> rfl
theorem qy_iupd {sg : qS} {N : Nat} {f : Nat → Int32} {n : Nat} {x : Int32} (h : ∀ j, j < N → qy_i sg j (f j).toInt) (hx : qy_i sg n x.toInt) : ∀ j, j < N → qy_i sg j (upd f n x j).toInt := by
  intro j hj
  unfold upd
  split
  · rename_i e; subst e; exact hx
  · exact h j hj
theorem q_isN_no {α : Type} {l : List α} (h : q_isN l = true) : l = [] := by
  match l, h with
  | [], _ => rfl
theorem qh_ast {ts : Nat → Bool} {nx : Nat}
    (rowW : ∀ {t : Nat}, ts t = true → ∀ {p : Program} {l : Launch} {e : Env} {R : Room} {s : State} {m : MethodId} {args : Array Value} {below : List Frame} {meth : Method} {c : Code} {H : Heap} {locs : List Loc} {cells slots : Nat} {Q : State → Prop} {ls : Array Slot} {rest : List Value} {ws : va_W} {A : Nat → Prop} {q0 t0 a : Nat} {cA : ClassId} {n : Nat} {f : Nat → Int32} {i x : Int32}, p.tables.exec = Jvm.exec → c.code = zx_bys k → va_K D zx_cl tys s → va_P D zx_cl ws H → va_D A ws → va_S A s.heap H locs → ws[q0]? = some (a, .inl (cA, n, .inl f)) → tys[t0]? = some (cA, zx_ft t) → vp_in i n →
      (∀ (H1 : Heap) (locs1 : List Loc), va_P D zx_cl (ws.set q0 (a, .inl (cA, n, .inl (upd f i.toNatClampNeg (zy_nar t x))))) H1 → va_D A (ws.set q0 (a, .inl (cA, n, .inl (upd f i.toNatClampNeg (zy_nar t x))))) → va_S A s.heap H1 locs1 → W p l e R s m args below meth c H1 locs1 cells slots Q (F0 m nx ls rest)) → W p l e R s m args below meth c H locs cells slots Q (F0 m pc ls (.int x :: .int i :: .ref a :: rest))) : qy_Hok ex Γ D as tys k pc (q_ast ts nx) := by
  intro rec hr fr g w lo st outs hk h _ fc ρ p l e R s m args below meth cd A ws H locs cs sl ls sv Q Cx Dy hl hs hret
  subst hk
  have hg := Dy.2.2.2.2.2
  have hw := Dy.2.2.2.2.1
  match st, sv, hs, h with
  | xv :: j :: .inr (.inr (.inl (some a))) :: r, vx :: vi :: v :: t, ⟨hx0, h0, h1, h2⟩, h =>
    unfold q_ast at h
    dsimp only at h
    obtain ⟨j', h0, h⟩ := q_nm_ok hg h0 h
    obtain ⟨x, li, hi, rfl, b1, b2, h⟩ := q_rg_ok hg h0 h
    obtain ⟨c0, h3, h4⟩ := q_at_ok h
    obtain ⟨q, e0, rfl, haq, h9, h10⟩ := qy_arr hw h3 h1
    match c0, h3, h4, h10 with
    | .inl (ty, vs), h3, h4, h10 =>
      obtain ⟨hb, h4⟩ := q_cond h4
      obtain ⟨c1, c2⟩ := Bool.and_eq_true_iff.mp hb
      obtain ⟨c2, c3⟩ := Bool.and_eq_true_iff.mp c2
      have c3 := q_eq_iff.mp c3
      rw [zx_len_eq] at c2
      obtain ⟨d1, d2⟩ := q_i0_ok c2
      dsimp only at d2
      obtain ⟨v1, v2⟩ := q_vin (x := x) (n := vs.length) (by omega) (by omega)
      obtain ⟨xx, vl, vh, rfl, f1, f2, f3, f4, h4⟩ := q_nar_ok hg hx0 h4
      obtain ⟨h5, h6⟩ := q_set_ok h4
      obtain ⟨-, h6⟩ := q_set_ok h6
      match e0, h10, h9 with
      | .inl (cA, nn, .inl f), ⟨y0, ⟨i0, h11⟩, h12, h13⟩, h9 =>
        subst h12
        refine rowW c1 Cx.1 Cx.2.1 Dy.1 Dy.2.1 Dy.2.2.1 Dy.2.2.2.1 h9 h11 v1 (fun H1 locs1 p1 d1' s1 => ?_)
        rw [v2, f3] at p1 d1'
        refine hr _ _ _ _ _ _ _ h6 () Cx ⟨Dy.1, p1, d1', s1, qy_wset hw haq ⟨y0, ⟨i0, h11⟩, by rw [List.length_set], fun i u hu => ?_⟩, hg⟩ hl h2 hret
        rw [List.getElem?_set] at hu
        unfold upd
        have e : li.toNat = x.toInt.toNat := by omega
        rw [e] at hu
        split at hu
        · rename_i e
          subst e
          split at hu
          · cases hu; rw [if_pos rfl]; exact hx0
          · cases hu
        · rename_i e
          rw [if_neg (fun z => e z.symm)]
          exact h13 i u hu
    | .inr (.inr (.inl (ty, N, sg, kn))), h3, h4, h10 =>
      obtain ⟨hb, h4⟩ := q_cond h4
      obtain ⟨c1, c2⟩ := Bool.and_eq_true_iff.mp hb
      obtain ⟨d1, d2⟩ := q_i0_ok c2
      dsimp only at d2
      obtain ⟨v1, v2⟩ := q_vin (x := x) (n := N) (by omega) (by omega)
      obtain ⟨xx, vl, vh, rfl, f1, f2, f3, f4, h4⟩ := q_nar_ok hg hx0 h4
      obtain ⟨a1, b3, h6, hP, p1, p2⟩ := q_ri_ok h0 b1 b2 d1 h4
      obtain ⟨hfa, h6⟩ := q_cond h6
      obtain ⟨-, h6⟩ := q_set_ok h6
      match e0, h10, h9 with
      | .inl (cA, nn, .inl f), ⟨y0, ⟨i0, h11⟩, h12, h13, h14⟩, h9 =>
        subst h12
        refine rowW c1 Cx.1 Cx.2.1 Dy.1 Dy.2.1 Dy.2.2.1 Dy.2.2.2.1 h9 h11 v1 (fun H1 locs1 p1' d1' s1 => ?_)
        rw [v2, f3] at p1' d1'
        have hi := q_fa_in f1 f2 p1 p2 hfa
        refine hr _ _ _ _ _ _ _ h6 () Cx ⟨Dy.1, p1', d1', s1, qy_wset hw haq ⟨y0, ⟨i0, h11⟩, rfl, qy_iupd h13 hi, fun u hu => ?_⟩, hg⟩ hl h2 hret
        rcases List.mem_cons.mp hu with rfl | hu
        · refine ⟨x, h0, by omega, (show x.toInt < (nn : Int) by omega), ?_⟩
          unfold upd
          rw [if_pos rfl]
          exact hx0
        · cases hu
      | .inl (cA, nn, .inr (.inl f)), ⟨h11, _⟩, h9 => exact absurd h11 (by omega)
    | .inr (.inr (.inr (ty, N, κ, kn, ov))), h3, h4, h10 =>
      obtain ⟨hb, h4⟩ := q_cond h4
      obtain ⟨c1, c2⟩ := Bool.and_eq_true_iff.mp hb
      obtain ⟨c2, c3⟩ := Bool.and_eq_true_iff.mp c2
      obtain ⟨d1, d2⟩ := q_i0_ok c2
      dsimp only at d2
      have c3 : ov = [] := q_isN_no c3
      subst c3
      obtain ⟨v1, v2⟩ := q_vin (x := x) (n := N) (by omega) (by omega)
      obtain ⟨xx, vl, vh, rfl, f1, f2, f3, f4, h4⟩ := q_nar_ok hg hx0 h4
      obtain ⟨-, h6⟩ := q_set_ok h4
      match e0, h10, h9 with
      | .inl (cA, nn, .inl f), ⟨y0, ⟨i0, h11⟩, h12, h13, h14⟩, h9 =>
        subst h12
        refine rowW c1 Cx.1 Cx.2.1 Dy.1 Dy.2.1 Dy.2.2.1 Dy.2.2.2.1 h9 h11 v1 (fun H1 locs1 p1' d1' s1 => ?_)
        rw [v2, f3] at p1' d1'
        refine hr _ _ _ _ _ _ _ h6 () Cx ⟨Dy.1, p1', d1', s1, qy_wset hw haq ⟨y0, ⟨i0, h11⟩, rfl, h13, ⟨x, xx, h0, by omega, (show x.toInt < (nn : Int) by omega), hx0, fun j hj => ?_⟩⟩, hg⟩ hl h2 hret
        unfold upd
        split
        · rfl
        · exact h14 j hj
    | .inr (.inl _), h3, h4, h10 => cases h4
theorem qh_last {nx : Nat} (hd : decode (zx_bys k) pc = .ok (.lastore, 1)) (hn : nx = pc + 1) : qy_Hok ex Γ D as tys k pc (q_last nx) := by
  intro rec hr fr g w lo st outs hk h _ fc ρ p l e R s m args below meth cd A ws H locs cs sl ls sv Q Cx Dy hl hs hret
  subst hk; subst hn
  have hg := Dy.2.2.2.2.2
  have hw := Dy.2.2.2.2.1
  match st, sv, hs, h with
  | xv :: j :: .inr (.inr (.inl (some a))) :: r, vx :: vi :: v :: t, ⟨hx0, h0, h1, h2⟩, h =>
    unfold q_last at h
    dsimp only at h
    obtain ⟨x, li, hi, rfl, b1, b2, h⟩ := q_rg_ok hg h0 h
    obtain ⟨c0, h3, h4⟩ := q_at_ok h
    obtain ⟨q, e0, rfl, haq, h9, h10⟩ := qy_arr hw h3 h1
    match c0, h3, h4, h10 with
    | .inr (.inr (.inl (ty, N, sg, kn))), h3, h4, h10 =>
      obtain ⟨hb, h4b⟩ := q_cond h4
      clear h4
      obtain ⟨c0, c1⟩ := Bool.and_eq_true_iff.mp hb
      obtain ⟨c1, c2⟩ := Bool.and_eq_true_iff.mp c1
      have c1 : ty = 3 := Nat.eq_of_beq_eq_true c1
      obtain ⟨xx, rfl⟩ := qy_isL c0 hx0
      obtain ⟨d1, d2⟩ := q_i0_ok c2
      dsimp only at d2
      obtain ⟨v1, v2⟩ := q_vin (x := x) (n := N) (by omega) (by omega)
      match e0, h10, h9 with
      | .inl (cA, nn, .inl f), ⟨h11, _⟩, h9 => exact absurd h11 (by omega)
      | .inl (cA, nn, .inr (.inl f)), ⟨h11, ⟨i0, h12⟩, h13, h14⟩, h9 =>
        subst h13
        refine va_last Cx.1 Cx.2.1 Dy.1 Dy.2.1 Dy.2.2.1 Dy.2.2.2.1 a i0 h9 h12 v1 hd (fun H1 locs1 p1 d1' s1 => ?_)
        have hset : w.set a (.inr (.inr (.inl (ty, nn, sg, kn)))) = w := List.ext_getElem? (fun i => by
          rw [List.getElem?_set]
          split
          · rename_i e
            subst e
            split
            · exact h3.symm
            · rename_i hlt
              exact (List.getElem?_eq_none_iff.mpr (by omega)).symm
          · rfl)
        have hw2 := qy_wset (e := .inr (.inr (.inl (ty, nn, sg, kn)))) hw haq (f := .inl (cA, nn, .inr (.inl (vp_updL f x.toNatClampNeg xx)))) ⟨h11, ⟨i0, h12⟩, rfl, h14⟩
        rw [hset] at hw2
        exact hr _ _ _ _ _ _ _ h4b () Cx ⟨Dy.1, p1, d1', s1, hw2, hg⟩ hl h2 hret
theorem q_len32 {n : Nat} (h : (n : Int) ≤ 2147483647) : (Int32.ofNat n).toInt = Int.ofNat n := by
  rw [zy_toInt]
  unfold zx_s zx_bs
  simp only [Int.ofNat_eq_natCast]
  omega
theorem qh_alen {nx : Nat} (hd : decode (zx_bys k) pc = .ok (.arraylength, 1)) (hn : nx = pc + 1) : qy_Hok ex Γ D as tys k pc (q_alen zx_xa0 nx) := by
  intro rec hr fr g w lo st outs hk h _ fc ρ p l e R s m args below meth cd A ws H locs cs sl ls sv Q Cx Dy hl hs hret
  subst hk; subst hn
  have hw := Dy.2.2.2.2.1
  have lit : ∀ {n : Nat} {r : List qV} {t : List Value}, qy_s ρ ex as r t → cond (q_le (Int.ofNat n) q_mx) (rec fr g w lo (.inl (Int.ofNat n) :: r) (pc + 1)) none = some outs → W p l e R s m args below meth cd H locs cs sl Q (F0 m (pc + 1) ls (.int (Int32.ofNat n) :: t)) := by
    intro n r t h2 h
    obtain ⟨hb, h⟩ := q_cond h
    have hb : (n : Int) ≤ 2147483647 := q_le_iff.mp hb
    exact hr _ _ _ _ _ _ _ h () Cx Dy hl ⟨qy_lit (q_len32 hb), h2⟩ hret
  match st, sv, hs, h with
  | .inr (.inr (.inl (some a))) :: r, v :: t, ⟨h1, h2⟩, h =>
    unfold q_alen at h
    dsimp only at h
    obtain ⟨c0, h3, h4⟩ := q_at_ok h
    obtain ⟨q, e0, rfl, haq, h9, h10⟩ := qy_arr hw h3 h1
    match c0, h3, h4, h10 with
    | .inl (ty, vs), h3, h4, h10 =>
      dsimp only at h4
      rw [zx_n_eq, zx_len_eq] at h4
      match e0, h10, h9 with
      | .inl (cA, nn, .inl f), ⟨_, ⟨i0, h11⟩, h12, h13⟩, h9 =>
        subst h12
        exact va_alen Cx.1 Cx.2.1 Dy.1 Dy.2.1 a i0 h9 h11 rfl hd (lit h2 h4)
    | .inr (.inr (.inl (ty, N, sg, kn))), h3, h4, h10 =>
      match e0, h10, h9 with
      | .inl (cA, nn, .inl f), ⟨y0, ⟨i0, h11⟩, h12, h13, h14⟩, h9 =>
        subst h12
        exact va_alen Cx.1 Cx.2.1 Dy.1 Dy.2.1 a i0 h9 h11 rfl hd (lit h2 h4)
      | .inl (cA, nn, .inr (.inl f)), ⟨h11, ⟨i0, h12⟩, h13, _⟩, h9 =>
        subst h13
        exact va_alen Cx.1 Cx.2.1 Dy.1 Dy.2.1 a i0 h9 h12 rfl hd (lit h2 h4)
    | .inr (.inr (.inr (ty, N, κ, kn, ov))), h3, h4, h10 =>
      match e0, h10, h9 with
      | .inl (cA, nn, .inl f), ⟨y0, ⟨i0, h11⟩, h12, h13⟩, h9 =>
        subst h12
        exact va_alen Cx.1 Cx.2.1 Dy.1 Dy.2.1 a i0 h9 h11 rfl hd (lit h2 h4)
    | .inr (.inl _), h3, h4, h10 => cases h4
  | .inr (.inr (.inr (.inl a))) :: r, v :: t, ⟨h1, h2⟩, h =>
    obtain ⟨q, hq, rfl, h4⟩ := q_xa_ok (l := zx_xa0) (a := a) (o := outs) (f := fun q : Nat × Nat × List zx_V => zx_n (zx_len q.2.2) fun n => cond (q_le (Int.ofNat n) q_mx) (rec fr g w lo (.inl (Int.ofNat n) :: r) (pc + 1)) none) h
    rw [zx_n_eq, zx_len_eq] at h4
    obtain ⟨b, e1, e0, e2⟩ := Cx.2.2.2.2.2.2.1.2.1 q hq
    rw [show v = ex q.1 from h1, e1]
    exact va_tlen Cx.1 Cx.2.1 e2 Dy.2.2.2.1 rfl hd (lit h2 h4)
end QU
