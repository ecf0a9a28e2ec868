/-! a call, as the second executor does it -/
section QG1
variable {ex : Nat → Value} {fc : Nat → Nat → Int32} {Γ : qΓ} {D : va_G} {as : List Nat} {tys : List (ClassId × FieldType)} {k pc : Nat}
theorem qy_cont {p : Program} {l : Launch} {e : Env} {R : Room} {s : State} {m : MethodId} {args : Array Value} {below : List Frame} {meth : Method} {c : Code} {H : Heap} {locs : List Loc} {cells slots : Nat} {ls : Array Slot} {st0 rest : List Value} {P : qP} {A0 A1 : Nat → Prop} {a : Array Value} {free : Addr → Prop} {Q : State → Prop}
    (hr : va_Run p l e R s m args below meth c H locs cells slots 0 0 (F0 m pc ls st0) rest (qy_Qc ex D as tys P A1 a) free) (hS : va_S A0 s.heap H locs) (hA : ∀ q, A1 q → A0 q) (hf : ∀ q, free q → A0 q)
    (kk : ∀ (o : qO) (rv : Option qV) (fc' : Nat → Nat → Int32) (ρ' : List Int) (ws' : va_W) (H1 : Heap) (locs1 : List Loc) (v : Option Value), P fc' ρ' o → o.2.2 = .inl rv → qy_D ρ' ex fc' D s A0 o.1 o.2.1 as tys ws' H1 locs1 → qy_oc ρ' ex as rv (.returned v) → W p l e R s m args below meth c H1 locs1 (cells + 0) (slots + 0) Q (F0 m (pc + 3) ls (v.toList ++ rest))) :
    W p l e R s m args below meth c H locs cells slots Q (F0 m pc ls st0) := by
  intro T hT X
  obtain ⟨v, st₀, t, T', L, h0, X', hL, e1, e2, ⟨⟨o, rv, fc', ρ', ws', hP, hrv, q2, q3, q4, q5, q6, q7⟩, hz, hk⟩, st⟩ := hr T hT X
  rw [h0] at hz hk
  have hal : t.vm.Alike s.vm := by rw [← e2]; exact X'.warmed.alike.symm
  obtain ⟨t2, a1, b1⟩ := kk o rv fc' ρ' ws' T'.heap (locs ++ L) v hP hrv ⟨va_K.moved hal q3, by rw [e1]; exact q4, q5.weaken (fun _ _ _ z => hA _ z), 
    ⟨Nat.le_trans hS.1 (by rw [e1]; exact hz), fun q h1 h2 => by rw [e1, hk q (Nat.lt_of_lt_of_le h1 hS.1) (fun z => h2 (hA q z))]; exact hS.2.1 q h1 h2, fun q hq => by
      rcases List.mem_append.mp hq with h | h
      · exact hS.2.2 q h
      · exact hf _ (hL q h)⟩, q6, q2⟩ q7 T' rfl X'
  exact ⟨t2, st t2 a1, b1⟩
/-- what stands for the receiver -/
def q_rcw (rk ci : Nat) (w : List qE) (av : qL) : Prop := rk = 0 ∨ (rk = 1 ∧ ∃ i a tl, av = (i, .inr (.inr (.inr (.inl a)))) :: tl ∧ (a = 2 ∨ a = 3 ∨ a = 8)) ∨ (2 ≤ rk ∧ ∃ i a tl fs, av = (i, .inr (.inr (.inl (some a)))) :: tl ∧ w[a]? = some (.inr (.inl (ci, fs))))
def q_cls (rk ci k' : Nat) : Prop := rk = 0 ∨ (rk = 1 ∧ (zx_name k').cls = "java/lang/String") ∨ (2 ≤ rk ∧ ∃ T N, zx_cl[ci]? = some ((zx_name k').cls, T, N))
theorem q_rcv_ok {rk ci : Nat} {w : List qE} {av : qL} {x : qR} {o : List qO} (h : q_rcv rk ci w av x = some o) : x = some o ∧ q_rcw rk ci w av := by
  match rk, h with
  | 0, h => exact ⟨h, Or.inl rfl⟩
  | 1, h =>
    match av, h with
    | (i, .inr (.inr (.inr (.inl a)))) :: tl, h =>
      obtain ⟨h1, h2⟩ := q_cond (show cond (Nat.beq a 2 || Nat.beq a 3 || Nat.beq a 8) x none = some o from h)
      exact ⟨h2, Or.inr (Or.inl ⟨rfl, i, a, tl, rfl, q_str3 h1⟩)⟩
  | n + 2, h =>
    match av, h with
    | (i, .inr (.inr (.inl (some a)))) :: tl, h =>
      obtain ⟨z, h1, h2⟩ := q_at_ok (show q_at w (fun c => match c with
        | .inr (.inl q) => cond (Nat.beq q.1 ci) x none
        | _ => none) a = some o from h)
      match z, h1, h2 with
      | .inr (.inl (cj, fs)), h1, h2 =>
        obtain ⟨h3, h4⟩ := q_cond h2
        have e : cj = ci := Nat.eq_of_beq_eq_true h3
        subst e
        exact ⟨h4, Or.inr (Or.inr ⟨by omega, i, a, tl, fs, rfl, h1⟩)⟩
/-- a place from which a method can be called -/
def qy_run1 (ex : Nat → Value) (k pc rk k' : Nat) (is : List Nat) : Prop := ∀ _ : Unit, ∀ {p : Program} {l : Launch} {e : Env} {R : Room} {s : State} {m : MethodId} {args : Array Value} {below : List Frame} {meth : Method} {c : Code} {H : Heap} {locs : List Loc} {cells slots : Nat} {ls : Array Slot} {rest vs : List Value} {A : Nat → Prop} {fr : zx_Fr} {d : Nat} {Pc : Array Value → State → Prop} {Qc : Array Value → State → Outcome → State → Prop} {free : Addr → Prop}, fr.2.1 = k → zy_C zx_xa0 q_ρ0 ex p R s m args meth c A fr → fr.1 = d + 1 → ls.size = (zx_info k).1 → vs.length = is.length → zy_rc rk k' s H vs → (rest.map fun v => v.category).sum ≤ 8 →
      Met l (zx_name k') (Jvm.Cond.code (zx_name k') (zx_bys k') (zx_info k').1 (zx_info k').2.1 :: zx_tb) (zy_rm d 0 0) Pc Qc 0 0 free → FrameBlind Pc → (∀ U : State, U.heap = H → s.WarmedH U.vm → Pc vs.toArray U) → (cells + 0 ≤ R.cells ∧ slots + 0 ≤ R.slots) →
      va_Run p l e R s m args below meth c H locs cells slots 0 0 (F0 m pc ls (vs.reverse ++ rest)) rest (Qc vs.toArray) free
theorem qy_callP {rk ci k' mx d : Nat} {is : List Nat} (hM : zk_m k' 0 0 mx) (hcls : q_cls rk ci k') (runner : qy_run1 ex k pc rk k' is) {ρ : List Int} {p : Program} {l : Launch} {e : Env} {R : Room} {s : State} {m : MethodId} {args : Array Value} {below : List Frame} {meth : Method} {cd : Code} {A : Nat → Prop} {ws : va_W} {H : Heap} {locs : List Loc} {cs sl : Nat} {ls : Array Slot} {vv t : List Value} {Q : State → Prop} {fr : qFr} {g : qG} {w : List qE} {av : qL} {P : qP}
    (hk : fr.2.1 = k) (hfd : fr.1 = d + 1) (Cx : qy_C ex p R s m args meth cd A fr cs sl) (Dy : qy_D ρ ex fc D s A g w as tys ws H locs) (hls : ls.size = (zx_info k).1) (hlen : vv.length = is.length) (hav : qy_s ρ ex as (av.map Prod.snd) vv.reverse) (hdp : (t.map fun v => v.category).sum ≤ 8) (hpos : q_pos mx av 0 = true) (hrc : q_rcw rk ci w av)
    (hT : qy_TP ex D as tys d k' fc ρ g w av [] 0 P) (hno : ∀ fc' ρ' o, P fc' ρ' o → ∃ rv, o.2.2 = .inl rv)
    (kk : ∀ (o : qO) (rv : Option qV) (fc' : Nat → Nat → Int32) (ρ' : List Int) (ws' : va_W) (H1 : Heap) (locs1 : List Loc) (v : Option Value), P fc' ρ' o → o.2.2 = .inl rv → qy_D ρ' ex fc' D s A o.1 o.2.1 as tys ws' H1 locs1 → qy_oc ρ' ex as rv (.returned v) → W p l e R s m args below meth cd H1 locs1 cs sl Q (F0 m (pc + 3) ls (v.toList ++ t))) :
    W p l e R s m args below meth cd H locs cs sl Q (F0 m pc ls (vv ++ t)) := by
  have hX := Cx.2.2.2.2.2.2.1
  have hAA : ∀ q, va_A ws H.size q → A q := by
    intro q hq
    rcases hq with ⟨i, e, hq⟩ | hq
    · exact Dy.2.2.1.2 i _ hq
    · exact Cx.2.2.2.2.2.1 q (Nat.le_trans Dy.2.2.2.1.1 hq)
  have hzrc : zy_rc rk k' s H vv.reverse := by
    rcases hrc with h0 | ⟨h1, i, a, tl, rfl, ha⟩ | ⟨h1, i, a, tl, fs, rfl, ha⟩
    · exact Or.inl h0
    · right
      obtain ⟨b, b1, b2, -⟩ := qy_str hX ha
      have hS := Dy.2.2.2.1
      cases hvv : vv.reverse with
      | nil => rw [hvv] at hav; cases hav
      | cons c1 As =>
        rw [hvv] at hav
        have hc1 : c1 = ex a := hav.1
        refine ⟨b, As, by rw [hc1, b1], ?_⟩
        obtain ⟨cell, c2, c3, c4, -⟩ := b2.kept hS.2.1
        rcases hcls with z | ⟨z1, z2⟩ | ⟨z1, -⟩
        · omega
        · rw [z2]; exact ⟨cell, c2, c3, c4⟩
        · omega
    · right
      cases hvv : vv.reverse with
      | nil => rw [hvv] at hav; cases hav
      | cons c1 As =>
        rw [hvv] at hav
        obtain ⟨q, gs, e1, -, e3, -⟩ := qy_obj Dy.2.2.2.2.1 ha hav.1
        refine ⟨q, As, by rw [e1], ?_⟩
        rcases hcls with z | ⟨z1, z2⟩ | ⟨z1, T, N, hcl⟩
        · omega
        · omega
        · exact va_recv Dy.1 Dy.2.1 hcl e3
  have hMet := qy_met l (sz := H.size) hM hT hno hpos hav Dy.2.2.2.2.1 Dy.2.2.2.2.2
  have hrun := runner () (c := cd) (p := p) (e := e) (below := below) (locs := locs) (cells := cs) (slots := sl) (ls := ls) (rest := t) (vs := vv.reverse) (R := R) (args := args) (meth := meth) (fr := (fr.1, fr.2.1, 0, cs, sl)) hk Cx hfd hls (by rw [List.length_reverse]; exact hlen) hzrc hdp hMet
    (fun a U g mk q => by
      obtain ⟨q0, q1, q2, q3, q4, q5⟩ := q
      exact ⟨q0, q1, q2, va_K.moved (u := U) (U := U.calling g mk a) (Vm.Alike.refl U.vm) q3, q4, q5.call g mk a⟩)
    (fun U hU hW => ⟨rfl, by rw [hU], by rw [hU]; exact Dy.2.1, va_K.moved hW.alike Dy.1, Dy.2.2.1.weaken (fun _ _ _ _ => trivial), by rw [hU]; exact hX.to hW Dy.2.2.2.1.2.1 hAA⟩)
    ⟨Cx.2.2.2.2.2.2.2.2.2.1, Cx.2.2.2.2.2.2.2.2.2.2.1⟩
  rw [List.reverse_reverse] at hrun
  exact qy_cont hrun Dy.2.2.2.1 hAA hAA kk
theorem qh_call {ct : List qC} (hV : ∀ c ∈ ct, qy_V ex Γ D as tys c) {rk ci k' mx nx : Nat} {is : List Nat} (hn : nx = pc + 3) (hM : zk_m k' 0 0 mx) (hcls : q_cls rk ci k') (runner : qy_run1 ex k pc rk k' is) : qy_Hok ex Γ D as tys k pc (q_call ct rk ci k' mx is nx) := by
  intro rec hr fr g w lo st outs hk h _ fc ρ p l e R s m args below meth cd A ws H locs cs sl ls sv Q Cx Dy hl hs hret
  subst hn
  obtain ⟨av, r, vv, t, h, rfl, hlen, hst, hav⟩ := q_args_ok (base := []) h hs trivial
  rw [List.append_nil] at hav
  obtain ⟨hb, h⟩ := q_cond h
  obtain ⟨hb1, hpos⟩ := Bool.and_eq_true_iff.mp hb
  have hb1 := Nat.le_of_ble_eq_true hb1
  obtain ⟨h, hrc⟩ := q_rcv_ok h
  have hX := Cx.2.2.2.2.2.2.1
  cases hfd : fr.1 with
  | zero => rw [hfd] at h; cases h
  | succ d =>
    rw [hfd] at h
    have h : (match q_ct k' d g w av (rec (d, k', []) g w av [] 0) ct with
      | none => none
      | some outs => q_each outs fun o => (match o.2.2 with
        | .inl none => rec fr o.1 o.2.1 lo r (pc + 3)
        | .inl (some v) => rec fr o.1 o.2.1 lo (v :: r) (pc + 3)
        | .inr _ => none)) = some outs := h
    cases hrec : q_ct k' d g w av (rec (d, k', []) g w av [] 0) ct with
    | none => rw [hrec] at h; cases h
    | some o1 =>
      rw [hrec] at h
      have hT := q_ct_T hV hrec (fun hi => hr _ _ _ _ _ _ _ hi)
      have hE := q_each_ok h
      have hno : ∀ o ∈ o1, ∃ rv, o.2.2 = .inl rv := by
        intro o ho
        obtain ⟨x, hx, -⟩ := hE o ho
        cases hz : o.2.2 with
        | inl rv => exact ⟨rv, rfl⟩
        | inr z => rw [hz] at hx; cases hx
      have hdp := qy_dep hX.1 hst
      refine qy_callP hM hcls runner hk hfd Cx Dy (by rw [← hk]; exact hl.1) hlen hav (by rw [hdp]; exact hb1) hpos hrc (hT.TP hret.1) (fun _ _ o ho => hno o ho.1) (fun o rv fc' ρ' ws' H1 locs1 v hP hrv Dy' q7 => ?_)
      obtain ⟨ho, q1, hγ⟩ := hP
      obtain ⟨x, hx, hsub⟩ := hE o ho
      rw [hrv] at hx
      cases rv with
      | none =>
        have hv : v = none := by
          have q7 : Outcome.returned v = Outcome.returned none := q7
          cases q7; rfl
        subst hv
        exact hr _ _ _ _ _ _ _ hx () Cx Dy' (hl.mono q1) (hst.mono q1) (hret.at q1 hsub hγ)
      | some a =>
        obtain ⟨u, u1, u2⟩ := q7
        cases u1
        exact hr _ _ _ _ _ _ _ hx () Cx Dy' (hl.mono q1) ⟨u2, hst.mono q1⟩ (hret.at q1 hsub hγ)
theorem qy_rvirt {rk k' mx n idx : Nat} {is : List Nat} (hM : zk_m k' 0 0 mx) (hrk : rk ≠ 0)
    (hdesc : (parseMethodDescriptor (zx_name k').desc).map (fun d => d.parameters.length) = some n) (his : is.length = n + 1) (h1 : Jvm.Cond.methodLink (zx_name k).cls idx (zx_name k') ∈ zx_tb) (h2 : Jvm.Cond.instanceMethod (zx_name k') ∈ zx_tb) (h3 : Jvm.Cond.selects (zx_name k').cls (zx_name k') (zx_name k') ∈ zx_tb) (hd : decode (zx_bys k) pc = .ok (.invokevirtual idx, 3)) : qy_run1 ex k pc rk k' is := by
  intro _ p l e R s m args below meth c H locs cells slots ls rest vs A fr d Pc Qc free hk C hfd hls hvs hrc hrest hMet hbl hpre hf
  subst hk
  rcases hrc with z | ⟨q, As, rfl, hcell⟩
  · exact absurd z hrk
  · have hg : ∀ w ∈ wsV (zx_name fr.2.1).cls idx (zx_name k').cls (zx_name k') (Jvm.Cond.code (zx_name k') (zx_bys k') (zx_info k').1 (zx_info k').2.1 :: zx_tb), w ∈ zx_tb := by
      intro w hw
      rcases List.mem_append.mp hw with hw | hw
      · rcases List.mem_cons.mp hw with rfl | hw
        · exact h1
        rcases List.mem_cons.mp hw with rfl | hw
        · exact h2
        rcases List.mem_cons.mp hw with rfl | hw
        · exact h3
        rcases List.mem_cons.mp hw with rfl | hw
        · exact hM.2.2.2.2.2
        · cases hw
      · rcases List.mem_cons.mp hw with rfl | hw
        · exact hM.2.2.2.1
        · exact hw
    have hlen : As.length = n := by
      rw [List.length_cons] at hvs; omega
    refine va_runV (own := (zx_name fr.2.1).cls) (C := (zx_name k').cls) (As := As) (rest := rest) (b := q) ⟨C.1, C.2.1, C.2.2.1, C.2.2.2.1, C.2.2.2.2.1⟩ hMet (cwV n C.2.2.2.2.1 (zx_good hg) rfl rfl rfl ⟨rfl, hM.2.2.2.2.1.1, hM.2.2.2.2.1.2, hdesc⟩ (hM.R C hfd)) ⟨hbl, hcell, hpre⟩ rfl hlen hls ?_ (lv_room hrest) hd hf
    show (Value.ref q :: As).reverse ++ rest = _
    rw [List.reverse_cons, List.append_assoc]
    rfl
theorem qy_rstat {k' mx n idx : Nat} {is : List Nat} (hM : zk_m k' 0 0 mx)
    (hdesc : (parseMethodDescriptor (zx_name k').desc).map (fun d => d.parameters.length) = some n) (his : is.length = n) (h1 : Jvm.Cond.methodLink (zx_name k).cls idx (zx_name k') ∈ zx_tb) (h2 : Jvm.Cond.static (zx_name k') ∈ zx_tb) (hd : decode (zx_bys k) pc = .ok (.invokestatic idx, 3)) : qy_run1 ex k pc 0 k' is := by
  intro _ p l e R s m args below meth c H locs cells slots ls rest vs A fr d Pc Qc free hk C hfd hls hvs hrc hrest hMet hbl hpre hf
  subst hk
  have hg : ∀ w ∈ va_wsS (zx_name fr.2.1).cls idx (zx_name k') (Jvm.Cond.code (zx_name k') (zx_bys k') (zx_info k').1 (zx_info k').2.1 :: zx_tb), w ∈ zx_tb := by
    intro w hw
    rcases List.mem_append.mp hw with hw | hw
    · rcases List.mem_cons.mp hw with rfl | hw
      · exact h1
      rcases List.mem_cons.mp hw with rfl | hw
      · exact h2
      rcases List.mem_cons.mp hw with rfl | hw
      · exact hM.2.2.2.2.2
      · cases hw
    · rcases List.mem_cons.mp hw with rfl | hw
      · exact hM.2.2.2.1
      · exact hw
  exact va_runS (own := (zx_name fr.2.1).cls) (As := vs) (rest := rest) ⟨C.1, C.2.1, C.2.2.1, C.2.2.2.1, C.2.2.2.2.1⟩ hMet (va_cwS n C.2.2.2.2.1 (zx_good hg) rfl rfl rfl ⟨hM.2.2.2.2.1.1, hM.2.2.2.2.1.2, hdesc⟩ (hM.R C hfd)) ⟨hbl, hpre⟩ rfl (by omega) hls rfl (lv_room hrest) hd hf
end QG1
section QG2
variable {ex : Nat → Value} {Γ : qΓ} {D : va_G} {as : List Nat} {tys : List (ClassId × FieldType)} {k pc : Nat}
theorem qh_virt {ct : List qC} (hV : ∀ c ∈ ct, qy_V ex Γ D as tys c) {rk ci k' mx nx n idx : Nat} {is : List Nat} (hn : nx = pc + 3) (hM : zk_m k' 0 0 mx) (hrk : rk ≠ 0) (hcls : q_cls rk ci k')
    (hdesc : (parseMethodDescriptor (zx_name k').desc).map (fun d => d.parameters.length) = some n) (his : is.length = n + 1) (h1 : Jvm.Cond.methodLink (zx_name k).cls idx (zx_name k') ∈ zx_tb) (h2 : Jvm.Cond.instanceMethod (zx_name k') ∈ zx_tb) (h3 : Jvm.Cond.selects (zx_name k').cls (zx_name k') (zx_name k') ∈ zx_tb) (hd : decode (zx_bys k) pc = .ok (.invokevirtual idx, 3)) : qy_Hok ex Γ D as tys k pc (q_call ct rk ci k' mx is nx) :=
  qh_call hV hn hM hcls (qy_rvirt hM hrk hdesc his h1 h2 h3 hd)
theorem qh_stat {ct : List qC} (hV : ∀ c ∈ ct, qy_V ex Γ D as tys c) {ci k' mx nx n idx : Nat} {is : List Nat} (hn : nx = pc + 3) (hM : zk_m k' 0 0 mx)
    (hdesc : (parseMethodDescriptor (zx_name k').desc).map (fun d => d.parameters.length) = some n) (his : is.length = n) (h1 : Jvm.Cond.methodLink (zx_name k).cls idx (zx_name k') ∈ zx_tb) (h2 : Jvm.Cond.static (zx_name k') ∈ zx_tb) (hd : decode (zx_bys k) pc = .ok (.invokestatic idx, 3)) : qy_Hok ex Γ D as tys k pc (q_call ct 0 ci k' mx is nx) :=
  qh_call hV hn hM (Or.inl rfl) (qy_rstat hM hdesc his h1 h2 hd)
end QG2
