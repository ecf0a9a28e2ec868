/-! arrays, switches, what was there before, the ends of methods -/
section ZA
variable {xa : List (Nat × Nat × List zx_V)} {ρ : Nat → Int32} {ex : Nat → Value} {D : va_G} {k pc : Nat}
theorem zh_xgf {fs : List (Nat × zx_V)} {nx idx : Nat} {nme dsc : String} (hfs : ∀ (a : Nat) (x : zx_V), (a, x) ∈ fs → ∀ {A : Nat → Prop} {s : State}, zy_X xa ρ ex A s s.heap → ∃ q v, ex a = .ref q ∧ va_OF "java/lang/String" nme dsc v q A s s.heap ∧ ∀ as, zy_v ρ ex as x v) (hlink : Jvm.Cond.fieldLink (zx_name k).cls idx "java/lang/String" nme dsc ∈ zx_tb) (hd : decode (zx_bys k) pc = .ok (.getfield idx, 3)) (hn : nx = pc + 3) : zy_Hok xa ρ ex D k pc (zx_xgf fs nx) := by
  intro rec hr fr g w cs sl lo st outs hk h p l e R s m args below meth cd A as tys ws H locs ls sv Q Cx Dy hl hs hret
  subst hk; subst hn
  match st, sv, hs, h with
  | .inr (.inr (.inr (.inr (.inl a)))) :: r, v :: t, ⟨h1, h2⟩, h =>
    have h : zx_get fs a (fun x => rec fr g w cs sl lo (x :: r) (pc + 3)) = some outs := h
    obtain ⟨x, h3, h4⟩ := zx_get_ok h
    obtain ⟨q, u, e1, e2, e3⟩ := hfs a x h3 Cx.2.2.2.2.2.2.1
    rw [show v = ex a from h1, e1]
    exact vk_getf (own := (zx_name fr.2.1).cls) Cx.1 Cx.2.1 e2 Dy.2.2.2.1 Cx.2.2.2.1 (Cx.2.2.2.2.1 _ hlink) (fun _ z => z) hd (hr _ _ _ _ _ _ _ _ _ h4 Cx Dy hl ⟨e3 as, h2⟩ hret)
  | .inl _ :: r, _, _, h => cases h
  | .inr (.inl _) :: r, _, _, h => cases h
  | .inr (.inr (.inl _)) :: r, _, _, h => cases h
  | .inr (.inr (.inr (.inl _))) :: r, _, _, h => cases h
  | .inr (.inr (.inr (.inr (.inr _)))) :: r, _, _, h => cases h
theorem zh_newai {t nx : Nat} {at0 : ArrayType} (ht : t < 3) (hty : newarray.typeOf at0 = zx_ft t) (harr : Jvm.Cond.arrayClass (zx_ft t) ∈ zx_tb) (hd : decode (zx_bys k) pc = .ok (.newarray at0, 2)) (hn : nx = pc + 2) : zy_Hok xa ρ ex D k pc (zx_newa t (.inl 0) nx) := by
  intro rec hr fr g w cs sl lo st outs hk h p l e R s m args below meth cd A as tys ws H locs ls sv Q Cx Dy hl hs hret
  subst hk; subst hn
  match st, sv, hs, h with
  | .inl n :: r, v :: tt, ⟨h1, h2⟩, h =>
    have h : zx_n (cs + 1) (fun cs2 => zx_n (sl + n) fun sl2 => cond (Nat.ble cs2 fr.2.2.2.1 && Nat.ble sl2 fr.2.2.2.2 && Nat.ble n 1000000) (zx_n (zx_len w) fun a => zx_snoc (.inl (t, List.replicate n (.inl 0))) w fun w2 => rec fr g w2 cs2 sl2 lo (.inr (.inl (some a)) :: r) (pc + 2)) none) = some outs := h
    rw [zx_n_eq, zx_n_eq] at h
    obtain ⟨hb, h⟩ := zx_cond h
    rw [zx_n_eq, zx_snoc_eq, zx_len_eq] at h
    obtain ⟨hb, hb3⟩ := Bool.and_eq_true_iff.mp hb
    obtain ⟨hb1, hb2⟩ := Bool.and_eq_true_iff.mp hb
    have hb1 := Nat.le_of_ble_eq_true hb1
    have hb2 := Nat.le_of_ble_eq_true hb2
    have hb3 := Nat.le_of_ble_eq_true hb3
    have hts := Cx.2.2.2.2.1
    have hw := Dy.2.2.2.2.1
    obtain ⟨n1, n2⟩ := zy_nn hb3
    rw [show v = _ from h1]
    have hcb : componentBytes (zx_ft t) ≤ 4 := by
      match t, ht with
      | 0, _ => exact Nat.le_refl _
      | 1, _ => exact Nat.le_of_ble_eq_true rfl
      | 2, _ => exact Nat.le_of_ble_eq_true rfl
    have hdv : ∀ cA : ClassId, vp_cell cA (n, .inl (fun _ => (0 : Int32))) = arrV cA n (fun _ => defaultValue (zx_ft t)) := by
      match t, ht with
      | 0, _ => exact fun _ => rfl
      | 1, _ => exact fun _ => rfl
      | 2, _ => exact fun _ => rfl
    refine va_newa (D := D) (cl := zx_cl) (ws := ws) (tys := tys) (A := A) (H0 := s.heap) (ty := zx_ft t) (N' := n) (a0 := (n, .inl (fun _ => (0 : Int32)))) Cx.1 Cx.2.1 (by rw [hty]; exact hts _ harr) hty Dy.1 Dy.2.1 Dy.2.2.1 Dy.2.2.2.1 Cx.2.2.2.2.2.1 hdv n2 n1 (Nat.le_trans (Nat.mul_le_mul hb3 hcb) (Nat.le_of_ble_eq_true rfl)) (Nat.le_trans hb1 Cx.2.2.2.2.2.2.2.2.2.1) (Nat.le_trans hb2 Cx.2.2.2.2.2.2.2.2.2.2.1) hd (fun q cA H1 k1 p1 d1 s1 => ?_)
    have hnew : ∀ (j : Nat) (a : zx_V), (List.replicate n (.inl 0 : zx_V))[j]? = some a → zy_v ρ ex (as ++ [q]) a (.int 0) := by
      intro j a ha
      rw [List.getElem?_replicate] at ha
      split at ha
      · cases ha; exact rfl
      · cases ha
    have hmono : ∀ (i : Nat) (q : ClassId × FieldType), tys[i]? = some q → ∃ j : Nat, (tys ++ [(cA, zx_ft t)])[j]? = some q := fun i q hq => ⟨i, by rw [List.getElem?_append_left (List.getElem?_eq_some_iff.mp hq).1]; exact hq⟩
    refine hr _ _ _ _ _ _ _ _ _ h Cx (as := as ++ [q]) ⟨k1, p1, d1, s1, zy_wpush hw hmono ⟨ht, ⟨tys.length, by simp⟩, by rw [List.length_replicate], hnew⟩, Dy.2.2.2.2.2.1, hb1, hb2⟩ (hl.mono (zy_p.ap q)) ⟨⟨q, ?_, rfl⟩, h2.mono (zy_p.ap q)⟩ (hret.mono (zy_p.ap q) (fun _ z => z))
    rw [List.getElem?_append_right (by rw [hw.1]; exact Nat.le_refl _), hw.1]
    simp
  | .inr _ :: r, _, _, h => cases h
theorem zh_newal {nx : Nat} (harr : Jvm.Cond.arrayClass .long ∈ zx_tb) (hd : decode (zx_bys k) pc = .ok (.newarray .long, 2)) (hn : nx = pc + 2) : zy_Hok xa ρ ex D k pc (zx_newa 3 (.inr (.inr (.inl 0))) nx) := by
  intro rec hr fr g w cs sl lo st outs hk h p l e R s m args below meth cd A as tys ws H locs ls sv Q Cx Dy hl hs hret
  subst hk; subst hn
  match st, sv, hs, h with
  | .inl n :: r, v :: tt, ⟨h1, h2⟩, h =>
    have h : zx_n (cs + 1) (fun cs2 => zx_n (sl + n) fun sl2 => cond (Nat.ble cs2 fr.2.2.2.1 && Nat.ble sl2 fr.2.2.2.2 && Nat.ble n 1000000) (zx_n (zx_len w) fun a => zx_snoc (.inl (3, List.replicate n (.inr (.inr (.inl 0))))) w fun w2 => rec fr g w2 cs2 sl2 lo (.inr (.inl (some a)) :: r) (pc + 2)) none) = some outs := h
    rw [zx_n_eq, zx_n_eq] at h
    obtain ⟨hb, h⟩ := zx_cond h
    rw [zx_n_eq, zx_snoc_eq, zx_len_eq] at h
    obtain ⟨hb, hb3⟩ := Bool.and_eq_true_iff.mp hb
    obtain ⟨hb1, hb2⟩ := Bool.and_eq_true_iff.mp hb
    have hb1 := Nat.le_of_ble_eq_true hb1
    have hb2 := Nat.le_of_ble_eq_true hb2
    have hb3 := Nat.le_of_ble_eq_true hb3
    have hts := Cx.2.2.2.2.1
    have hw := Dy.2.2.2.2.1
    obtain ⟨n1, n2⟩ := zy_nn hb3
    rw [show v = _ from h1]
    refine va_newa (D := D) (cl := zx_cl) (ws := ws) (tys := tys) (A := A) (H0 := s.heap) (atype := .long) (ty := .long) (N' := n) (a0 := (n, .inr (.inl (fun _ => (0 : Int64))))) Cx.1 Cx.2.1 (hts _ harr) rfl Dy.1 Dy.2.1 Dy.2.2.1 Dy.2.2.2.1 Cx.2.2.2.2.2.1 (fun _ => rfl) n2 n1 (Nat.le_trans (Nat.mul_le_mul hb3 (Nat.le_refl 8)) (Nat.le_of_ble_eq_true rfl)) (Nat.le_trans hb1 Cx.2.2.2.2.2.2.2.2.2.1) (Nat.le_trans hb2 Cx.2.2.2.2.2.2.2.2.2.2.1) hd (fun q cA H1 k1 p1 d1 s1 => ?_)
    have hnew : ∀ (j : Nat) (a : zx_V), (List.replicate n (.inr (.inr (.inl 0)) : zx_V))[j]? = some a → zy_v ρ ex (as ++ [q]) a (.long 0) := by
      intro j a ha
      rw [List.getElem?_replicate] at ha
      split at ha
      · cases ha; exact rfl
      · cases ha
    have hmono : ∀ (i : Nat) (q : ClassId × FieldType), tys[i]? = some q → ∃ j : Nat, (tys ++ [(cA, FieldType.long)])[j]? = some q := fun i q hq => ⟨i, by rw [List.getElem?_append_left (List.getElem?_eq_some_iff.mp hq).1]; exact hq⟩
    refine hr _ _ _ _ _ _ _ _ _ h Cx (as := as ++ [q]) ⟨k1, p1, d1, s1, zy_wpush hw hmono ⟨rfl, ⟨tys.length, by simp⟩, by rw [List.length_replicate], hnew⟩, Dy.2.2.2.2.2.1, hb1, hb2⟩ (hl.mono (zy_p.ap q)) ⟨⟨q, ?_, rfl⟩, h2.mono (zy_p.ap q)⟩ (hret.mono (zy_p.ap q) (fun _ z => z))
    rw [List.getElem?_append_right (by rw [hw.1]; exact Nat.le_refl _), hw.1]
    simp
  | .inr _ :: r, _, _, h => cases h
theorem zx_xa_ok {f : Nat × Nat × List zx_V → zx_R} {a : Nat} {o : List zx_O} : ∀ {l : List (Nat × Nat × List zx_V)}, List.rec (motive := fun _ => zx_R) none (fun q _ ih => cond (Nat.beq q.1 a) (f q) ih) l = some o → ∃ q ∈ l, q.1 = a ∧ f q = some o
  | [], h => by cases h
  | q :: r, h => by
    have h : cond (Nat.beq q.1 a) (f q) (List.rec (motive := fun _ => zx_R) none (fun q _ ih => cond (Nat.beq q.1 a) (f q) ih) r) = some o := h
    cases hb : Nat.beq q.1 a with
    | true =>
      rw [hb] at h
      exact ⟨q, List.mem_cons_self, Nat.eq_of_beq_eq_true hb, h⟩
    | false =>
      rw [hb] at h
      obtain ⟨z, h1, h2, h3⟩ := zx_xa_ok (l := r) h
      exact ⟨z, List.mem_cons_of_mem _ h1, h2, h3⟩
theorem zh_alen {nx : Nat} (hd : decode (zx_bys k) pc = .ok (.arraylength, 1)) (hn : nx = pc + 1) : zy_Hok xa ρ ex D k pc (zx_alen xa nx) := by
  intro rec hr fr g w cs sl lo st outs hk h p l e R s m args below meth cd A as tys ws H locs ls sv Q Cx Dy hl hs hret
  subst hk; subst hn
  match st, sv, hs, h with
  | .inr (.inl (some a)) :: r, v :: t, ⟨h1, h2⟩, h =>
    obtain ⟨x, h3, h4⟩ := zx_at_ok h
    match x, h3, h4 with
    | .inl (ty, vs), h3, h4 =>
      have h4 : zx_n (zx_len vs) (fun n => rec fr g w cs sl lo (.inl n :: r) (pc + 1)) = some outs := h4
      rw [zx_n_eq, zx_len_eq] at h4
      obtain ⟨q, e, rfl, -, h9, h10⟩ := zy_arr Dy.2.2.2.2.1 h3 h1
      match e, h10, h9 with
      | .inl (cA, n, .inl f), ⟨_, ⟨i, h11⟩, h12, _⟩, h9 =>
        exact va_alen Cx.1 Cx.2.1 Dy.1 Dy.2.1 a i h9 h11 rfl hd (hr _ _ _ _ _ _ _ _ _ h4 Cx Dy hl ⟨by rw [← h12]; exact rfl, h2⟩ hret)
      | .inl (cA, n, .inr (.inl f)), ⟨_, ⟨i, h11⟩, h12, _⟩, h9 =>
        exact va_alen Cx.1 Cx.2.1 Dy.1 Dy.2.1 a i h9 h11 rfl hd (hr _ _ _ _ _ _ _ _ _ h4 Cx Dy hl ⟨by rw [← h12]; exact rfl, h2⟩ hret)
  | .inr (.inr (.inr (.inr (.inl a)))) :: r, v :: t, ⟨h1, h2⟩, h =>
    obtain ⟨q, hq, rfl, h4⟩ := zx_xa_ok (l := xa) (a := a) (o := outs) (f := fun q : Nat × Nat × List zx_V => zx_n (zx_len q.2.2) fun n => rec fr g w cs sl lo (.inl n :: r) (pc + 1)) h
    have h4 : zx_n (zx_len q.2.2) (fun n => rec fr g w cs sl lo (.inl n :: r) (pc + 1)) = some outs := h4
    rw [zx_n_eq, zx_len_eq] at h4
    obtain ⟨b, e1, e0, e2⟩ := Cx.2.2.2.2.2.2.1.2.1 q hq
    rw [show v = ex q.1 from h1, e1]
    exact va_tlen Cx.1 Cx.2.1 e2 Dy.2.2.2.1 rfl hd (hr _ _ _ _ _ _ _ _ _ h4 Cx Dy hl ⟨rfl, h2⟩ hret)
  | .inl _ :: r, _, _, h => cases h
  | .inr (.inl none) :: r, _, _, h => cases h
  | .inr (.inr (.inl _)) :: r, _, _, h => cases h
  | .inr (.inr (.inr (.inl _))) :: r, _, _, h => cases h
  | .inr (.inr (.inr (.inr (.inr _)))) :: r, _, _, h => cases h
theorem zy_cv {as : List Nat} {x : zx_V} (h : zx_isC x = true) : zy_v ρ ex as x (zy_c ρ x) := by
  match x, h with
  | .inl _, _ => exact rfl
  | .inr (.inr (.inr (.inl _))), _ => exact rfl
theorem zh_ald {ts : Nat → Bool} {nx : Nat} (hts3 : ∀ t, ts t = true → t < 3)
    (rowW : ∀ {t : Nat}, ts t = true → ∀ {p : Program} {l : Launch} {e : Env} {R : Room} {s : State} {m : MethodId} {args : Array Value} {below : List Frame} {meth : Method} {c : Code} {H : Heap} {locs : List Loc} {cells slots : Nat} {Q : State → Prop} {ls : Array Slot} {rest : List Value} {tys : List (ClassId × FieldType)} {ws : va_W} {q0 t0 a : Nat} {cA : ClassId} {n : Nat} {f : Nat → Int32} {i : Int32}, p.tables.exec = Jvm.exec → c.code = zx_bys k → va_K D zx_cl tys s → va_P D zx_cl ws H → ws[q0]? = some (a, .inl (cA, n, .inl f)) → tys[t0]? = some (cA, zx_ft t) → vp_in i n →
      W p l e R s m args below meth c H locs cells slots Q (F0 m nx ls (.int (f i.toNatClampNeg) :: rest)) → W p l e R s m args below meth c H locs cells slots Q (F0 m pc ls (.int i :: .ref a :: rest)))
    (rowX : ∀ {t : Nat}, ts t = true → ∀ {p : Program} {l : Launch} {e : Env} {R : Room} {s : State} {m : MethodId} {args : Array Value} {below : List Frame} {meth : Method} {c : Code} {H : Heap} {locs : List Loc} {cells slots : Nat} {Q : State → Prop} {ls : Array Slot} {rest : List Value} {A : Nat → Prop} {a n : Nat} {f : Nat → Value} {i : Int32}, p.tables.exec = Jvm.exec → c.code = zx_bys k → va_T (zx_ft t) a n f A s s.heap → va_S A s.heap H locs → vp_in i n →
      W p l e R s m args below meth c H locs cells slots Q (F0 m nx ls (f i.toNatClampNeg :: rest)) → W p l e R s m args below meth c H locs cells slots Q (F0 m pc ls (.int i :: .ref a :: rest))) : zy_Hok xa ρ ex D k pc (zx_ald xa ts nx) := by
  intro rec hr fr g w cs sl lo st outs hk h p l e R s m args below meth cd A as tys ws H locs ls sv Q Cx Dy hl hs hret
  subst hk
  have hg := Dy.2.2.2.2.2.1
  match st, sv, hs, h with
  | i :: .inr (.inl (some a)) :: r, vi :: v :: t, ⟨h0, h1, h2⟩, h =>
    have h : zx_nm g i (fun i => match i with
      | .inl n => zx_at w (fun c => match c with
        | .inl q => cond (ts q.1 && Nat.ble n 1000000) (zx_at q.2 (fun x => rec fr g w cs sl lo (x :: r) nx) n) none
        | .inr _ => none) a
      | _ => none) = some outs := h
    obtain ⟨i', h0, h⟩ := zx_nm_ok hg h0 h
    match i', h0, h with
    | .inl n, h0, h =>
      obtain ⟨x, h3, h4⟩ := zx_at_ok h
      match x, h3, h4 with
      | .inl (ty, vs), h3, h4 =>
        obtain ⟨hb, h4⟩ := zx_cond h4
        obtain ⟨hb1, hb2⟩ := Bool.and_eq_true_iff.mp hb
        have hb2 := Nat.le_of_ble_eq_true hb2
        obtain ⟨u, h5, h6⟩ := zx_at_ok h4
        obtain ⟨q, e, rfl, -, h9, h10⟩ := zy_arr Dy.2.2.2.2.1 h3 h1
        rw [show vi = _ from h0]
        match e, h10, h9 with
        | .inl (cA, nn, .inl f), ⟨_, ⟨j, h11⟩, h12, h13⟩, h9 =>
          refine rowW hb1 Cx.1 Cx.2.1 Dy.1 Dy.2.1 h9 h11 (zy_vin hb2 (by rw [h12]; exact (List.getElem?_eq_some_iff.mp h5).1)) (hr _ _ _ _ _ _ _ _ _ h6 Cx Dy hl ⟨?_, h2⟩ hret)
          rw [(zy_nn hb2).1]
          exact h13 n u h5
        | .inl (cA, nn, .inr (.inl f)), ⟨h11, _⟩, h9 => exact absurd (hts3 ty hb1) (by omega)
    | .inr _, h0, h => cases h
  | i :: .inr (.inr (.inr (.inr (.inl a)))) :: r, vi :: v :: t, ⟨h0, h1, h2⟩, h =>
    have h : zx_nm g i (fun i => match i with
      | .inl n => List.rec (motive := fun _ => zx_R) none (fun q _ ih => cond (Nat.beq q.1 a) ((fun q : Nat × Nat × List zx_V => cond (ts q.2.1 && Nat.ble n 1000000) (zx_at q.2.2 (fun x => zx_nm g x fun x => rec fr g w cs sl lo (x :: r) nx) n) none) q) ih) xa
      | _ => none) = some outs := h
    obtain ⟨i', h0, h⟩ := zx_nm_ok hg h0 h
    match i', h0, h with
    | .inl n, h0, h =>
      obtain ⟨q, hq, rfl, h4⟩ := zx_xa_ok (l := xa) (a := a) (o := outs) (f := fun q : Nat × Nat × List zx_V => cond (ts q.2.1 && Nat.ble n 1000000) (zx_at q.2.2 (fun x => zx_nm g x fun x => rec fr g w cs sl lo (x :: r) nx) n) none) h
      obtain ⟨hb, h4⟩ := zx_cond h4
      obtain ⟨hb1, hb2⟩ := Bool.and_eq_true_iff.mp hb
      have hb2 := Nat.le_of_ble_eq_true hb2
      obtain ⟨u, h5, h6⟩ := zx_at_ok h4
      obtain ⟨b, e1, e0, e2⟩ := Cx.2.2.2.2.2.2.1.2.1 q hq
      have hu : zy_v ρ ex as u (zy_c ρ u) := zy_cv (e0 u (List.mem_of_getElem? h5))
      obtain ⟨u', h7, h8⟩ := zx_nm_ok hg hu h6
      rw [show v = ex q.1 from h1, e1, show vi = _ from h0]
      refine rowX hb1 Cx.1 Cx.2.1 e2 Dy.2.2.2.1 (zy_vin hb2 (List.getElem?_eq_some_iff.mp h5).1) ?_
      have e3 : zy_c ρ (q.2.2.getD (Int32.ofNat n).toNatClampNeg zx_top) = zy_c ρ u := by rw [(zy_nn hb2).1, List.getD_eq_getElem?_getD, h5]; rfl
      rw [e3]
      exact hr _ _ _ _ _ _ _ _ _ h8 Cx Dy hl ⟨h7, h2⟩ hret
    | .inr _, h0, h => cases h
  | _ :: .inl _ :: r, _, _, h => cases h
  | _ :: .inr (.inl none) :: r, _, _, h => cases h
  | _ :: .inr (.inr (.inl _)) :: r, _, _, h => cases h
  | _ :: .inr (.inr (.inr (.inl _))) :: r, _, _, h => cases h
  | _ :: .inr (.inr (.inr (.inr (.inr _)))) :: r, _, _, h => cases h
def zy_nar (t : Nat) (x : Int32) : Int32 := match t with
  | 0 => x
  | t => vp_nar (zx_ft t) x
theorem zx_cvI_ok {f : Nat → Nat} {op : Int32 → Int32} (hf : ∀ a, Int32.ofNat (f a) = op (Int32.ofNat a)) {as : List Nat} {a : zx_V} {v : Value} {kk : zx_V → zx_R} {o : List zx_O} (hv : zy_v ρ ex as a v) (h : zx_cvI f a kk = some o) : ∃ x b, v = .int x ∧ zy_v ρ ex as b (.int (op x)) ∧ kk b = some o := by
  match a, hv, h with
  | .inl x, hv, h =>
    have h : zx_n (f x) (fun n => kk (.inl n)) = some o := h
    rw [zx_n_eq] at h
    exact ⟨_, _, hv, by rw [← hf]; exact rfl, h⟩
  | .inr u, hv, h =>
    obtain ⟨h3, h4⟩ := zx_cond (show cond (zx_isI (.inr u)) (kk zx_top) none = some o from h)
    obtain ⟨x, rfl⟩ := zy_isI h3 hv
    exact ⟨x, zx_top, rfl, ⟨_, rfl⟩, h4⟩
theorem zx_nar_ok {as : List Nat} {t : Nat} {a : zx_V} {v : Value} {kk : zx_V → zx_R} {o : List zx_O} (ht : t < 3) (hv : zy_v ρ ex as a v) (h : zx_nar t a kk = some o) : ∃ x b, v = .int x ∧ zy_v ρ ex as b (.int (zy_nar t x)) ∧ kk b = some o := by
  match t, ht, h with
  | 0, _, h =>
    obtain ⟨h1, h2⟩ := zx_cond (show cond (zx_isI a) (kk a) none = some o from h)
    obtain ⟨x, rfl⟩ := zy_isI h1 hv
    exact ⟨x, a, rfl, hv, h2⟩
  | 1, _, h => exact zx_cvI_ok (op := fun x => vp_nar .byte x) (fun a => zy_of32 _) hv h
  | 2, _, h => exact zx_cvI_ok (op := fun x => vp_nar .boolean x) (fun a => zy_of32 _) hv h
theorem zy_upd {as : List Nat} {vs : List zx_V} {f : Nat → Int32} {n : Nat} {b : zx_V} {x : Int32} (h : ∀ (j : Nat) (a : zx_V), vs[j]? = some a → zy_v ρ ex as a (.int (f j))) (hb : zy_v ρ ex as b (.int x)) : ∀ (j : Nat) (a : zx_V), (vs.set n b)[j]? = some a → zy_v ρ ex as a (.int (upd f n x j)) := by
  intro j a ha
  rw [List.getElem?_set] at ha
  unfold upd
  split at ha
  · rename_i e
    subst e
    split at ha
    · cases ha; rw [if_pos rfl]; exact hb
    · cases ha
  · rename_i e
    rw [if_neg (fun z => e z.symm)]
    exact h j a ha
theorem zh_ast {ts : Nat → Bool} {nx : Nat} (hts3 : ∀ t, ts t = true → t < 3)
    (rowW : ∀ {t : Nat}, ts t = true → ∀ {p : Program} {l : Launch} {e : Env} {R : Room} {s : State} {m : MethodId} {args : Array Value} {below : List Frame} {meth : Method} {c : Code} {H : Heap} {locs : List Loc} {cells slots : Nat} {Q : State → Prop} {ls : Array Slot} {rest : List Value} {tys : List (ClassId × FieldType)} {ws : va_W} {A : Nat → Prop} {q0 t0 a : Nat} {cA : ClassId} {n : Nat} {f : Nat → Int32} {i x : Int32}, p.tables.exec = Jvm.exec → c.code = zx_bys k → va_K D zx_cl tys s → va_P D zx_cl ws H → va_D A ws → va_S A s.heap H locs → ws[q0]? = some (a, .inl (cA, n, .inl f)) → tys[t0]? = some (cA, zx_ft t) → vp_in i n →
      (∀ (H1 : Heap) (locs1 : List Loc), va_P D zx_cl (ws.set q0 (a, .inl (cA, n, .inl (upd f i.toNatClampNeg (zy_nar t x))))) H1 → va_D A (ws.set q0 (a, .inl (cA, n, .inl (upd f i.toNatClampNeg (zy_nar t x))))) → va_S A s.heap H1 locs1 → W p l e R s m args below meth c H1 locs1 cells slots Q (F0 m nx ls rest)) → W p l e R s m args below meth c H locs cells slots Q (F0 m pc ls (.int x :: .int i :: .ref a :: rest))) : zy_Hok xa ρ ex D k pc (zx_ast ts nx) := by
  intro rec hr fr g w cs sl lo st outs hk h p l e R s m args below meth cd A as tys ws H locs ls sv Q Cx Dy hl hs hret
  subst hk
  have hg := Dy.2.2.2.2.2.1
  match st, sv, hs, h with
  | x :: i :: .inr (.inl (some a)) :: r, vx :: vi :: v :: t, ⟨hx0, h0, h1, h2⟩, h =>
    have h : zx_nm g i (fun i => match i with
      | .inl n => zx_at w (fun c => match c with
        | .inl q => cond (ts q.1 && Nat.ble n 1000000) (zx_nar q.1 x fun y => zx_set y q.2 n fun vs => zx_set (.inl (q.1, vs)) w a fun w2 => rec fr g w2 cs sl lo r nx) none
        | .inr _ => none) a
      | _ => none) = some outs := h
    obtain ⟨i', h0, h⟩ := zx_nm_ok hg h0 h
    match i', h0, h with
    | .inl n, h0, h =>
      obtain ⟨z, h3, h4⟩ := zx_at_ok h
      match z, h3, h4 with
      | .inl (ty, vs), h3, h4 =>
        obtain ⟨hb, h4⟩ := zx_cond h4
        obtain ⟨hb1, hb2⟩ := Bool.and_eq_true_iff.mp hb
        have hb2 := Nat.le_of_ble_eq_true hb2
        obtain ⟨xx, b, rfl, hy, h4⟩ := zx_nar_ok (hts3 ty hb1) hx0 h4
        obtain ⟨h5, h6⟩ := zx_set_ok h4
        obtain ⟨-, h6⟩ := zx_set_ok h6
        obtain ⟨q, e, rfl, haq, h9, h10⟩ := zy_arr Dy.2.2.2.2.1 h3 h1
        rw [show vi = _ from h0]
        match e, h10, h9 with
        | .inl (cA, nn, .inl f), ⟨h14, ⟨j, h11⟩, h12, h13⟩, h9 =>
          refine rowW hb1 Cx.1 Cx.2.1 Dy.1 Dy.2.1 Dy.2.2.1 Dy.2.2.2.1 h9 h11 (zy_vin hb2 (by rw [h12]; exact h5)) (fun H1 locs1 p1 d1 s1 => ?_)
          rw [(zy_nn hb2).1] at p1 d1
          exact hr _ _ _ _ _ _ _ _ _ h6 Cx ⟨Dy.1, p1, d1, s1, zy_wset Dy.2.2.2.2.1 haq ⟨h14, ⟨j, h11⟩, by rw [List.length_set]; exact h12, zy_upd h13 hy⟩, Dy.2.2.2.2.2⟩ hl h2 hret
        | .inl (cA, nn, .inr (.inl f)), ⟨h11, _⟩, h9 => exact absurd (hts3 ty hb1) (by omega)
    | .inr _, h0, h => cases h
  | _ :: _ :: .inl _ :: r, _, _, h => cases h
  | _ :: _ :: .inr (.inl none) :: r, _, _, h => cases h
  | _ :: _ :: .inr (.inr _) :: r, _, _, h => cases h
theorem zy_updL {as : List Nat} {vs : List zx_V} {f : Nat → Int64} {n : Nat} {b : zx_V} {x : Int64} (h : ∀ (j : Nat) (a : zx_V), vs[j]? = some a → zy_v ρ ex as a (.long (f j))) (hb : zy_v ρ ex as b (.long x)) : ∀ (j : Nat) (a : zx_V), (vs.set n b)[j]? = some a → zy_v ρ ex as a (.long (vp_updL f n x j)) := by
  intro j a ha
  rw [List.getElem?_set] at ha
  unfold vp_updL
  split at ha
  · rename_i e
    subst e
    split at ha
    · cases ha; rw [if_pos rfl]; exact hb
    · cases ha
  · rename_i e
    rw [if_neg (fun z => e z.symm)]
    exact h j a ha
theorem zh_lst {nx : Nat} (hd : decode (zx_bys k) pc = .ok (.lastore, 1)) (hn : nx = pc + 1) : zy_Hok xa ρ ex D k pc (zx_ast (fun t => Nat.beq t 3) nx) := by
  intro rec hr fr g w cs sl lo st outs hk h p l e R s m args below meth cd A as tys ws H locs ls sv Q Cx Dy hl hs hret
  subst hk; subst hn
  have hg := Dy.2.2.2.2.2.1
  match st, sv, hs, h with
  | x :: i :: .inr (.inl (some a)) :: r, vx :: vi :: v :: t, ⟨hx0, h0, h1, h2⟩, h =>
    have h : zx_nm g i (fun i => match i with
      | .inl n => zx_at w (fun c => match c with
        | .inl q => cond (Nat.beq q.1 3 && Nat.ble n 1000000) (zx_nar q.1 x fun y => zx_set y q.2 n fun vs => zx_set (.inl (q.1, vs)) w a fun w2 => rec fr g w2 cs sl lo r (pc + 1)) none
        | .inr _ => none) a
      | _ => none) = some outs := h
    obtain ⟨i', h0, h⟩ := zx_nm_ok hg h0 h
    match i', h0, h with
    | .inl n, h0, h =>
      obtain ⟨z, h3, h4⟩ := zx_at_ok h
      match z, h3, h4 with
      | .inl (ty, vs), h3, h4 =>
        obtain ⟨hb, h4⟩ := zx_cond h4
        obtain ⟨hb1, hb2⟩ := Bool.and_eq_true_iff.mp hb
        have hb2 := Nat.le_of_ble_eq_true hb2
        have e3 : ty = 3 := Nat.eq_of_beq_eq_true hb1
        subst e3
        obtain ⟨hxl, h4⟩ := zx_cond (show cond (zx_isL x) (zx_set x vs n fun vs => zx_set (.inl (3, vs)) w a fun w2 => rec fr g w2 cs sl lo r (pc + 1)) none = some outs from h4)
        obtain ⟨xx, rfl⟩ := zy_isL hxl hx0
        obtain ⟨h5, h6⟩ := zx_set_ok h4
        obtain ⟨-, h6⟩ := zx_set_ok h6
        obtain ⟨q, e, rfl, haq, h9, h10⟩ := zy_arr Dy.2.2.2.2.1 h3 h1
        rw [show vi = _ from h0]
        match e, h10, h9 with
        | .inl (cA, nn, .inl f), ⟨h14, _⟩, h9 => exact absurd h14 (by omega)
        | .inl (cA, nn, .inr (.inl f)), ⟨h14, ⟨j, h11⟩, h12, h13⟩, h9 =>
          refine va_last Cx.1 Cx.2.1 Dy.1 Dy.2.1 Dy.2.2.1 Dy.2.2.2.1 a j h9 h11 (zy_vin hb2 (by rw [h12]; exact h5)) hd (fun H1 locs1 p1 d1 s1 => ?_)
          rw [(zy_nn hb2).1] at p1 d1
          refine hr _ _ _ _ _ _ _ _ _ h6 Cx ⟨Dy.1, p1, d1, s1, zy_wset Dy.2.2.2.2.1 haq ⟨h14, ⟨j, h11⟩, by rw [List.length_set]; exact h12, ?_⟩, Dy.2.2.2.2.2⟩ hl h2 hret
          exact zy_updL h13 hx0
    | .inr _, h0, h => cases h
  | _ :: _ :: .inl _ :: r, _, _, h => cases h
  | _ :: _ :: .inr (.inl none) :: r, _, _, h => cases h
  | _ :: _ :: .inr (.inr _) :: r, _, _, h => cases h
theorem zh_ret {t : Nat} (hd : decode (zx_bys k) pc = .ok (.ireturn, 1)) (ht : zx_rk (zx_info k).2.1 t) : zy_Hok xa ρ ex D k pc (zx_ret t) := by
  intro rec hr fr g w cs sl lo st outs hk h p l e R s m args below meth cd A as tys ws H locs ls sv Q Cx Dy hl hs hret
  subst hk
  match st, sv, hs, h with
  | [a], [v], ⟨h1, _⟩, h =>
    obtain ⟨h2, h3⟩ := zx_cond h
    cases h3
    exact (hret (g, w, .inl (some a)) List.mem_cons_self as tys ws H locs zy_p.rf).1 (some a) rfl cs sl pc ls [v] Dy ⟨v, rfl, h1, Or.inl ⟨hd, t, ht, h2⟩⟩
  | [], _, _, h => cases h
  | _ :: _ :: _, _, _, h => cases h
theorem zh_lret (hd : decode (zx_bys k) pc = .ok (.lreturn, 1)) (ht : (zx_info k).2.1 = some .long) : zy_Hok xa ρ ex D k pc (zx_ret 3) := by
  intro rec hr fr g w cs sl lo st outs hk h p l e R s m args below meth cd A as tys ws H locs ls sv Q Cx Dy hl hs hret
  subst hk
  match st, sv, hs, h with
  | [a], [v], ⟨h1, _⟩, h =>
    obtain ⟨h2, h3⟩ := zx_cond h
    cases h3
    exact (hret (g, w, .inl (some a)) List.mem_cons_self as tys ws H locs zy_p.rf).1 (some a) rfl cs sl pc ls [v] Dy ⟨v, rfl, h1, Or.inr ⟨hd, ht, h2⟩⟩
  | [], _, _, h => cases h
  | _ :: _ :: _, _, _, h => cases h
theorem zh_vret (hd : decode (zx_bys k) pc = .ok (.return_, 1)) (ht : (zx_info k).2.1 = none) : zy_Hok xa ρ ex D k pc zx_vret := by
  intro rec hr fr g w cs sl lo st outs hk h p l e R s m args below meth cd A as tys ws H locs ls sv Q Cx Dy hl hs hret
  subst hk
  match st, sv, hs, h with
  | [], [], _, h =>
    cases h
    exact (hret (g, w, .inl none) List.mem_cons_self as tys ws H locs zy_p.rf).1 none rfl cs sl pc ls [] Dy ⟨rfl, hd, ht⟩
  | _ :: _, _, _, h => cases h
theorem zx_tl_eq {kd : zx_R} {kt : Nat → zx_R} : ∀ (ts : List Nat) (j : Nat), List.rec (motive := fun _ => Nat → zx_R) (fun _ => kd) (fun t _ ih j => Nat.rec (motive := fun _ => zx_R) (kt t) (fun i _ => ih i) j) ts j = (match ts[j]? with | some t => kt t | none => kd)
  | [], j => rfl
  | t :: r, 0 => rfl
  | t :: r, j + 1 => zx_tl_eq r j
theorem zh_tsw {dflt lo hi : Int} {offs : Array Int} {len d : Nat} {ts : List Nat} (hd : decode (zx_bys k) pc = .ok (.tableswitch dflt lo hi offs, len)) (h1 : (pc : Int) + dflt = (d : Int)) (h2 : hi = lo + ts.length - 1) (h3 : ∀ (j t : Nat), ts[j]? = some t → ∃ off, offs[j]? = some off ∧ (pc : Int) + off = (t : Int)) : zy_Hok xa ρ ex D k pc (zx_tsw lo (d :: ts)) := by
  intro rec hr fr g w cs sl lo2 st outs hk h p l e R s m args below meth cd A as tys ws H locs ls sv Q Cx Dy hl hs hret
  subst hk
  match st, sv, hs, h with
  | a :: r, v :: t, ⟨e1, e2⟩, h =>
    have h : zx_nm g a (fun v => match v with
      | .inl n => zx_i (zx_s n - lo) fun x => (match x with
        | Int.ofNat j => List.rec (motive := fun _ => Nat → zx_R) (fun _ => rec fr g w cs sl lo2 r d) (fun t _ ih j => Nat.rec (motive := fun _ => zx_R) (rec fr g w cs sl lo2 r t) (fun i _ => ih i) j) ts j
        | Int.negSucc _ => rec fr g w cs sl lo2 r d)
      | .inr (.inr (.inr (.inl i))) => zx_at g (fun q => cond (decide (q.2 < lo) || decide (lo + ts.length ≤ q.1)) (rec fr g w cs sl lo2 r d) none) i
      | _ => none) = some outs := h
    obtain ⟨a', e1, h⟩ := zx_nm_ok Dy.2.2.2.2.2.1 e1 h
    rcases a' with n | a'
    · rw [show v = _ from e1]
      have hI := zy_toInt n
      generalize hx : Int32.ofNat n = x at hI ⊢
      have h : zx_i (zx_s n - lo) (fun x => match x with
        | Int.ofNat j => List.rec (motive := fun _ => Nat → zx_R) (fun _ => rec fr g w cs sl lo2 r d) (fun t _ ih j => Nat.rec (motive := fun _ => zx_R) (rec fr g w cs sl lo2 r t) (fun i _ => ih i) j) ts j
        | Int.negSucc _ => rec fr g w cs sl lo2 r d) = some outs := h
      rw [zx_i_eq, ← hI] at h
      cases hz : x.toInt - lo with
      | negSucc j =>
        rw [hz] at h
        exact lv_tableOut Cx.1 Cx.2.1 hd (Or.inl (by omega)) h1 (hr _ _ _ _ _ _ _ _ _ h Cx Dy hl e2 hret)
      | ofNat j =>
        rw [hz] at h
        have h := h
        dsimp only at h
        rw [zx_tl_eq] at h
        have hz : x.toInt - lo = (j : Int) := hz
        cases hj : ts[j]? with
        | none =>
          rw [hj] at h
          have hlen : ts.length ≤ j := List.getElem?_eq_none_iff.mp hj
          exact lv_tableOut Cx.1 Cx.2.1 hd (Or.inr (by omega)) h1 (hr _ _ _ _ _ _ _ _ _ h Cx Dy hl e2 hret)
        | some tt =>
          rw [hj] at h
          have hlen : j < ts.length := (List.getElem?_eq_some_iff.mp hj).1
          obtain ⟨off, o1, o2⟩ := h3 j tt hj
          exact lv_tableIn Cx.1 Cx.2.1 hd (by omega) (by omega) (by rw [hz]; exact o1) o2 (hr _ _ _ _ _ _ _ _ _ h Cx Dy hl e2 hret)
    · rcases a' with _ | _ | i | _ | _
      · cases h
      · cases h
      · obtain ⟨q, h4, h5⟩ := zx_at_ok h
        obtain ⟨h6, h7⟩ := zx_cond h5
        obtain ⟨b1, b2⟩ := Dy.2.2.2.2.2.1 i q h4
        rw [show v = _ from e1]
        refine lv_tableOut Cx.1 Cx.2.1 hd ?_ h1 (hr _ _ _ _ _ _ _ _ _ h7 Cx Dy hl e2 hret)
        rcases Bool.or_eq_true_iff.mp h6 with z | z
        · have z := of_decide_eq_true z
          left; omega
        · have z := of_decide_eq_true z
          right; omega
      · cases h
      · cases h
theorem zh_oin {nx idx : Nat} (h1 : Jvm.Cond.methodLink (zx_name k).cls idx objectInit ∈ zx_tb) (h2 : Jvm.Cond.instanceMethod objectInit ∈ zx_tb) (h3 : Jvm.Cond.code objectInit ⟨#[0xb1]⟩ 1 none ∈ zx_tb) (hd : decode (zx_bys k) pc = .ok (.invokespecial idx, 3)) (hn : nx = pc + 3) : zy_Hok xa ρ ex D k pc (zx_oin nx) := by
  intro rec hr fr g w cs sl lo st outs hk h p l e R s m args below meth cd A as tys ws H locs ls sv Q Cx Dy hl hs hret
  subst hk; subst hn
  match st, sv, hs, h with
  | .inr (.inl (some a)) :: r, v :: t, ⟨⟨q, e0, e3⟩, e2⟩, h =>
    rw [e3]
    have h : cond (Nat.ble (zx_dep r) 8 && Nat.ble 1 fr.1) (rec fr g w cs sl lo r (pc + 3)) none = some outs := h
    obtain ⟨hb, h⟩ := zx_cond h
    obtain ⟨hb1, hb2⟩ := Bool.and_eq_true_iff.mp hb
    have hb1 := Nat.le_of_ble_eq_true hb1
    have hb2 := Nat.le_of_ble_eq_true hb2
    have hts := Cx.2.2.2.2.1
    have hdp := zy_dep Cx.2.2.2.2.2.2.1.1 e2
    refine W.objInit (own := (zx_name fr.2.1).cls) (rest := t) Cx.1 Cx.2.1 Cx.2.2.2.1 (hts _ h1) (hts _ h2) (hts _ h3) rfl (by rw [Cx.2.2.1]; exact hl.1) rfl hd (Nat.le_trans hb2 Cx.2.2.2.2.2.2.2.1) ?_ (hr _ _ _ _ _ _ _ _ _ h Cx Dy hl e2 hret)
    have hR := Cx.2.2.2.2.2.2.2.2.1
    show 2 * 0 + _ + 12 ≤ _
    rw [hdp]
    omega
  | .inl _ :: r, _, _, h => cases h
  | .inr (.inl none) :: r, _, _, h => cases h
  | .inr (.inr _) :: r, _, _, h => cases h
end ZA
