/-! a call, as the executor does it -/
section ZI
variable {xa : List (Nat × Nat × List zx_V)} {ρ : Nat → Int32} {ex : Nat → Value} {D : va_G} {k pc : Nat}
theorem zx_good {ws : List Jvm.Cond} (h : ∀ w ∈ ws, w ∈ zx_tb) : GoodIn zx_tb ws := fun w hw => ⟨h w hw, good_of_word (List.mem_filter.mp (h w hw)).2⟩
theorem zy_cont {p : Program} {l : Launch} {e : Env} {R : Room} {s : State} {m : MethodId} {args : Array Value} {below : List Frame} {meth : Method} {c : Code} {H : Heap} {locs : List Loc} {cells slots mc ms : Nat} {ls : Array Slot} {st0 rest : List Value} {as : List Nat} {outs : List zx_O} {A0 A1 : Nat → Prop} {a : Array Value} {free : Addr → Prop} {Q : State → Prop}
    (hr : va_Run p l e R s m args below meth c H locs cells slots mc ms (F0 m pc ls st0) rest (zy_Qc ρ ex D as outs A1 a) free) (hS : va_S A0 s.heap H locs) (hA : ∀ q, A1 q → A0 q) (hf : ∀ q, free q → A0 q)
    (kk : ∀ o ∈ outs, ∀ rv, o.2.2 = .inl rv → ∀ (as' : List Nat) (tys' : List (ClassId × FieldType)) (ws' : va_W) (H1 : Heap) (locs1 : List Loc) (v : Option Value), zy_p as as' → zy_g ρ o.1 → va_K D zx_cl tys' s → va_P D zx_cl ws' H1 → va_D A0 ws' → zy_w ρ ex tys' as' o.2.1 ws' → zy_oc ρ ex as' rv (.returned v) → va_S A0 s.heap H1 locs1 → W p l e R s m args below meth c H1 locs1 (cells + mc) (slots + ms) Q (F0 m (pc + 3) ls (v.toList ++ rest))) :
    W p l e R s m args below meth c H locs cells slots Q (F0 m pc ls st0) := by
  intro T hT X
  obtain ⟨v, st₀, t, T', L, h0, X', hL, e1, e2, ⟨⟨o, ho, rv, hrv, as', tys', ws', q1, q2, q3, q4, q5, q6, q7⟩, hz, hk⟩, st⟩ := hr T hT X
  rw [h0] at hz hk
  have hal : t.vm.Alike s.vm := by rw [← e2]; exact X'.warmed.alike.symm
  obtain ⟨t2, a1, b1⟩ := kk o ho rv hrv as' tys' ws' T'.heap (locs ++ L) v q1 q2 (va_K.moved hal q3) (by rw [e1]; exact q4) (q5.weaken (fun _ _ _ z => hA _ z)) q6 q7
    ⟨Nat.le_trans hS.1 (by rw [e1]; exact hz), fun q h1 h2 => by rw [e1, hk q (Nat.lt_of_lt_of_le h1 hS.1) (fun z => h2 (hA q z))]; exact hS.2.1 q h1 h2, fun q hq => by
      rcases List.mem_append.mp hq with h | h
      · exact hS.2.2 q h
      · exact hf _ (hL q h)⟩ T' rfl X'
  exact ⟨t2, st t2 a1, b1⟩
theorem zx_rcv_ok {rk ci : Nat} {w : zx_Wd} {av : zx_L} {x : zx_R} {o : List zx_O} (h : zx_rcv rk ci w av x = some o) : x = some o ∧ (rk = 0 ∨ (rk = 1 ∧ ∃ i a tl, av = (i, .inr (.inr (.inr (.inr (.inl a))))) :: tl ∧ (a = 2 ∨ a = 3)) ∨ (2 ≤ rk ∧ ∃ i a tl fs, av = (i, .inr (.inl (some a))) :: tl ∧ w[a]? = some (.inr (ci, fs)))) := by
  match rk, h with
  | 0, h => exact ⟨h, Or.inl rfl⟩
  | 1, h =>
    match av, h with
    | (i, .inr (.inr (.inr (.inr (.inl a))))) :: tl, h =>
      obtain ⟨h1, h2⟩ := zx_cond (show cond (Nat.beq a 2 || Nat.beq a 3) x none = some o from h)
      refine ⟨h2, Or.inr (Or.inl ⟨rfl, i, a, tl, rfl, ?_⟩)⟩
      rcases Bool.or_eq_true_iff.mp h1 with z | z
      · exact Or.inl (Nat.eq_of_beq_eq_true z)
      · exact Or.inr (Nat.eq_of_beq_eq_true z)
  | n + 2, h =>
    match av, h with
    | (i, .inr (.inl (some a))) :: tl, h =>
      obtain ⟨z, h1, h2⟩ := zx_at_ok (show zx_at w (fun c => match c with
        | .inr q => cond (Nat.beq q.1 ci) x none
        | .inl _ => none) a = some o from h)
      rcases z with z | ⟨cj, fs⟩
      · cases h2
      · obtain ⟨h3, h4⟩ := zx_cond h2
        have e : cj = ci := Nat.eq_of_beq_eq_true h3
        subst e
        exact ⟨h4, Or.inr (Or.inr ⟨by omega, i, a, tl, fs, rfl, h1⟩)⟩
/-- the receiver stands in the heap -/
def zy_rc (rk k' : Nat) (s : State) (H : Heap) (vs : List Value) : Prop := rk = 0 ∨ ∃ q As, vs = .ref q :: As ∧ ∃ cell : Cell, H[q]? = some cell ∧ cell.vm.isStatics = false ∧ s.vm.findClass (zx_name k').cls = some cell.cls
def zy_rm (d mc ms : Nat) : Room := { frames := d, cells := mc, slots := ms, locals := 64 * d }
theorem zh_call {rk ci k' mc ms mx nx : Nat} {is : List Nat} (hn : nx = pc + 3) (hM : zk_m k' mc ms mx) (hcls : rk = 0 ∨ (rk = 1 ∧ (zx_name k').cls = "java/lang/String") ∨ (2 ≤ rk ∧ ∃ T N, zx_cl[ci]? = some ((zx_name k').cls, T, N)))
    (runner : ∀ {p : Program} {l : Launch} {e : Env} {R : Room} {s : State} {m : MethodId} {args : Array Value} {below : List Frame} {meth : Method} {c : Code} {H : Heap} {locs : List Loc} {cells slots : Nat} {ls : Array Slot} {rest vs : List Value} {A : Nat → Prop} {fr : zx_Fr} {d : Nat} {Pc : Array Value → State → Prop} {Qc : Array Value → State → Outcome → State → Prop} {free : Addr → Prop}, fr.2.1 = k → zy_C xa ρ ex p R s m args meth c A fr → fr.1 = d + 1 → ls.size = (zx_info k).1 → vs.length = is.length → zy_rc rk k' s H vs → (rest.map fun v => v.category).sum ≤ 8 →
      Met l (zx_name k') (Jvm.Cond.code (zx_name k') (zx_bys k') (zx_info k').1 (zx_info k').2.1 :: zx_tb) (zy_rm d mc ms) Pc Qc mc ms free → FrameBlind Pc → (∀ U : State, U.heap = H → s.WarmedH U.vm → Pc vs.toArray U) → (cells + mc ≤ R.cells ∧ slots + ms ≤ R.slots) →
      va_Run p l e R s m args below meth c H locs cells slots mc ms (F0 m pc ls (vs.reverse ++ rest)) rest (Qc vs.toArray) free) : zy_Hok xa ρ ex D k pc (zx_call rk ci k' mc ms mx is nx) := by
  intro rec hr fr g w cs sl lo st outs hk h p l e R s m args below meth cd A as tys ws H locs ls sv Q Cx Dy hl hs hret
  subst hn
  obtain ⟨av, r, vv, t, h, rfl, hlen, hst, hav⟩ := zx_args_ok (base := []) h hs trivial
  rw [List.append_nil] at hav
  obtain ⟨hb, h⟩ := zx_cond h
  obtain ⟨hb1, hpos⟩ := Bool.and_eq_true_iff.mp hb
  have hb1 := Nat.le_of_ble_eq_true hb1
  obtain ⟨h, hrc⟩ := zx_rcv_ok h
  rw [zx_n_eq, zx_n_eq] at h
  obtain ⟨hb, h⟩ := zx_cond h
  obtain ⟨hb2, hb3⟩ := Bool.and_eq_true_iff.mp hb
  have hb2 := Nat.le_of_ble_eq_true hb2
  have hb3 := Nat.le_of_ble_eq_true hb3
  have hX := Cx.2.2.2.2.2.2.1
  cases hfd : fr.1 with
  | zero => rw [hfd] at h; cases h
  | succ d =>
    rw [hfd] at h
    have h : (match rec (d, k', 1000000, mc, ms) g w 0 0 av [] 0 with
      | none => none
      | some outs => zx_each outs fun o => (match o.2.2 with
        | .inl none => rec fr o.1 o.2.1 (cs + mc) (sl + ms) lo r (pc + 3)
        | .inl (some v) => rec fr o.1 o.2.1 (cs + mc) (sl + ms) lo (v :: r) (pc + 3)
        | .inr _ => none)) = some outs := h
    cases hrec : rec (d, k', 1000000, mc, ms) g w 0 0 av [] 0 with
    | none => rw [hrec] at h; cases h
    | some o1 =>
      rw [hrec] at h
      have hE := zx_each_ok h
      have hno : ∀ o ∈ o1, ∃ rv, o.2.2 = .inl rv := by
        intro o ho
        obtain ⟨x, hx, -⟩ := hE o ho
        cases hz : o.2.2 with
        | inl rv => exact ⟨rv, rfl⟩
        | inr z => rw [hz] at hx; cases hx
      have hdp := zy_dep hX.1 hst
      have hAA : ∀ q, va_A ws H.size q → A q := by
        intro q hq
        rcases hq with ⟨i, e, hq⟩ | hq
        · exact Dy.2.2.1.2 i _ hq
        · exact Cx.2.2.2.2.2.1 q (Nat.le_trans Dy.2.2.2.1.1 hq)
      have hzrc : zy_rc rk k' s H vv.reverse := by
        rcases hrc with h0 | ⟨h1, i, a, tl, rfl, ha⟩ | ⟨h1, i, a, tl, fs, rfl, ha⟩
        · exact Or.inl h0
        · right
          obtain ⟨b, b1, b2, -⟩ := hX.2.2.2.1 a ha
          have hS := Dy.2.2.2.1
          cases hvv : vv.reverse with
          | nil => rw [hvv] at hav; cases hav
          | cons c1 As =>
            rw [hvv] at hav
            have hc1 : c1 = ex a := hav.1
            refine ⟨b, As, by rw [hc1, b1], ?_⟩
            obtain ⟨cell, c2, c3, c4, -⟩ := b2.kept hS.2.1
            rcases hcls with z | ⟨z1, z2⟩ | ⟨z1, -⟩
            · omega
            · rw [z2]; exact ⟨cell, c2, c3, c4⟩
            · omega
        · right
          cases hvv : vv.reverse with
          | nil => rw [hvv] at hav; cases hav
          | cons c1 As =>
            rw [hvv] at hav
            obtain ⟨q, gs, e1, -, e3, -⟩ := zy_obj Dy.2.2.2.2.1 ha hav.1
            refine ⟨q, As, by rw [e1], ?_⟩
            rcases hcls with z | ⟨z1, z2⟩ | ⟨z1, T, N, hcl⟩
            · omega
            · omega
            · exact va_recv Dy.1 Dy.2.1 hcl e3
      have hMet := zy_met hr l (sz := H.size) hM hrec hno hpos hav Dy.2.2.2.2.1 Dy.2.2.2.2.2.1
      have hrun := runner (c := cd) (p := p) (e := e) (below := below) (locs := locs) (cells := cs) (slots := sl) (ls := ls) (rest := t) (vs := vv.reverse) (R := R) (args := args) (meth := meth) hk Cx hfd (by rw [← hk]; exact hl.1) (by rw [List.length_reverse]; exact hlen) hzrc (by rw [hdp]; exact hb1) hMet
        (fun a U g mk q => by
          obtain ⟨q0, q1, q2, q3, q4, q5⟩ := q
          exact ⟨q0, q1, q2, va_K.moved (u := U) (U := U.calling g mk a) (Vm.Alike.refl U.vm) q3, q4, q5.call g mk a⟩)
        (fun U hU hW => ⟨rfl, by rw [hU], by rw [hU]; exact Dy.2.1, va_K.moved hW.alike Dy.1, Dy.2.2.1.weaken (fun _ _ _ _ => trivial), by rw [hU]; exact hX.to hW Dy.2.2.2.1.2.1 hAA⟩)
        ⟨Nat.le_trans hb2 Cx.2.2.2.2.2.2.2.2.2.1, Nat.le_trans hb3 Cx.2.2.2.2.2.2.2.2.2.2.1⟩
      rw [List.reverse_reverse] at hrun
      refine zy_cont hrun Dy.2.2.2.1 hAA hAA (fun o ho rv hrv as' tys' ws' H1 locs1 v q1 q2 q3 q4 q5 q6 q7 q8 => ?_)
      obtain ⟨x, hx, hsub⟩ := hE o ho
      have Dy' : zy_D ρ ex D s A fr o.1 o.2.1 (cs + mc) (sl + ms) as' tys' ws' H1 locs1 := ⟨q3, q4, q5, q8, q6, q2, hb2, hb3⟩
      rw [hrv] at hx
      cases rv with
      | none =>
        have hv : v = none := by
          have q7 : Outcome.returned v = Outcome.returned none := q7
          cases q7; rfl
        subst hv
        exact hr _ _ _ _ _ _ _ _ _ hx Cx Dy' (hl.mono q1) (hst.mono q1) (hret.mono q1 hsub)
      | some a =>
        obtain ⟨u, u1, u2⟩ := q7
        cases u1
        exact hr _ _ _ _ _ _ _ _ _ hx Cx Dy' (hl.mono q1) ⟨u2, hst.mono q1⟩ (hret.mono q1 hsub)
theorem zk_m.R {k' mc ms mx d : Nat} {R : Room} {p : Program} {s : State} {m : MethodId} {args : Array Value} {meth : Method} {c : Code} {A : Nat → Prop} {fr : zx_Fr} (hM : zk_m k' mc ms mx) (C : zy_C xa ρ ex p R s m args meth c A fr) (hd : fr.1 = d + 1) : (zy_rm d mc ms).frames + 1 ≤ R.frames ∧ 8 + ((zx_info k').1 + 11) + (zy_rm d mc ms).locals ≤ R.locals := by
  have h1 := C.2.2.2.2.2.2.2.1
  have h2 := C.2.2.2.2.2.2.2.2.1
  have h3 := hM.2.1
  have h4 := hM.2.2.1
  refine ⟨by show d + 1 ≤ _; omega, by show 8 + (_ + 11) + 64 * d ≤ _; omega⟩
theorem zh_virt {rk ci k' mc ms mx nx n idx : Nat} {is : List Nat} (hn : nx = pc + 3) (hM : zk_m k' mc ms mx) (hrk : rk ≠ 0) (hcls : rk = 0 ∨ (rk = 1 ∧ (zx_name k').cls = "java/lang/String") ∨ (2 ≤ rk ∧ ∃ T N, zx_cl[ci]? = some ((zx_name k').cls, T, N)))
    (hdesc : (parseMethodDescriptor (zx_name k').desc).map (fun d => d.parameters.length) = some n) (his : is.length = n + 1) (h1 : Jvm.Cond.methodLink (zx_name k).cls idx (zx_name k') ∈ zx_tb) (h2 : Jvm.Cond.instanceMethod (zx_name k') ∈ zx_tb) (h3 : Jvm.Cond.selects (zx_name k').cls (zx_name k') (zx_name k') ∈ zx_tb) (hd : decode (zx_bys k) pc = .ok (.invokevirtual idx, 3)) : zy_Hok xa ρ ex D k pc (zx_call rk ci k' mc ms mx is nx) := by
  refine zh_call hn hM hcls ?_
  intro p l e R s m args below meth c H locs cells slots ls rest vs A fr d Pc Qc free hk C hfd hls hvs hrc hrest hMet hbl hpre hf
  subst hk
  rcases hrc with z | ⟨q, As, rfl, hcell⟩
  · exact absurd z hrk
  · have hg : ∀ w ∈ wsV (zx_name fr.2.1).cls idx (zx_name k').cls (zx_name k') (Jvm.Cond.code (zx_name k') (zx_bys k') (zx_info k').1 (zx_info k').2.1 :: zx_tb), w ∈ zx_tb := by
      intro w hw
      rcases List.mem_append.mp hw with hw | hw
      · rcases List.mem_cons.mp hw with rfl | hw
        · exact h1
        rcases List.mem_cons.mp hw with rfl | hw
        · exact h2
        rcases List.mem_cons.mp hw with rfl | hw
        · exact h3
        rcases List.mem_cons.mp hw with rfl | hw
        · exact hM.2.2.2.2.2
        · cases hw
      · rcases List.mem_cons.mp hw with rfl | hw
        · exact hM.2.2.2.1
        · exact hw
    have hlen : As.length = n := by
      rw [List.length_cons] at hvs; omega
    refine va_runV (own := (zx_name fr.2.1).cls) (C := (zx_name k').cls) (As := As) (rest := rest) (b := q) ⟨C.1, C.2.1, C.2.2.1, C.2.2.2.1, C.2.2.2.2.1⟩ hMet (cwV n C.2.2.2.2.1 (zx_good hg) rfl rfl rfl ⟨rfl, hM.2.2.2.2.1.1, hM.2.2.2.2.1.2, hdesc⟩ (hM.R C hfd)) ⟨hbl, hcell, hpre⟩ rfl hlen hls ?_ (lv_room hrest) hd hf
    show (Value.ref q :: As).reverse ++ rest = _
    rw [List.reverse_cons, List.append_assoc]
    rfl
theorem zh_stat {ci k' mc ms mx nx n idx : Nat} {is : List Nat} (hn : nx = pc + 3) (hM : zk_m k' mc ms mx)
    (hdesc : (parseMethodDescriptor (zx_name k').desc).map (fun d => d.parameters.length) = some n) (his : is.length = n) (h1 : Jvm.Cond.methodLink (zx_name k).cls idx (zx_name k') ∈ zx_tb) (h2 : Jvm.Cond.static (zx_name k') ∈ zx_tb) (hd : decode (zx_bys k) pc = .ok (.invokestatic idx, 3)) : zy_Hok xa ρ ex D k pc (zx_call 0 ci k' mc ms mx is nx) := by
  refine zh_call hn hM (Or.inl rfl) ?_
  intro p l e R s m args below meth c H locs cells slots ls rest vs A fr d Pc Qc free hk C hfd hls hvs hrc hrest hMet hbl hpre hf
  subst hk
  have hg : ∀ w ∈ va_wsS (zx_name fr.2.1).cls idx (zx_name k') (Jvm.Cond.code (zx_name k') (zx_bys k') (zx_info k').1 (zx_info k').2.1 :: zx_tb), w ∈ zx_tb := by
    intro w hw
    rcases List.mem_append.mp hw with hw | hw
    · rcases List.mem_cons.mp hw with rfl | hw
      · exact h1
      rcases List.mem_cons.mp hw with rfl | hw
      · exact h2
      rcases List.mem_cons.mp hw with rfl | hw
      · exact hM.2.2.2.2.2
      · cases hw
    · rcases List.mem_cons.mp hw with rfl | hw
      · exact hM.2.2.2.1
      · exact hw
  exact va_runS (own := (zx_name fr.2.1).cls) (As := vs) (rest := rest) ⟨C.1, C.2.1, C.2.2.1, C.2.2.2.1, C.2.2.2.2.1⟩ hMet (va_cwS n C.2.2.2.2.1 (zx_good hg) rfl rfl rfl ⟨hM.2.2.2.2.1.1, hM.2.2.2.2.1.2, hdesc⟩ (hM.R C hfd)) ⟨hbl, hpre⟩ rfl (by omega) hls rfl (lv_room hrest) hd hf
theorem zh_nest {ci k' mc ms mx nx n idx : Nat} {is : List Nat} (hn : nx = pc + 3) (hM : zk_m k' mc ms mx)
    (hdesc : (parseMethodDescriptor (zx_name k').desc).map (fun d => d.parameters.length) = some n) (his : is.length = n) (h0 : (zx_name k).cls = "DeckChairs$Hinge") (hi : idx = 18) (h1 : zx_name k' = ⟨"DeckChairs", "firstGreatest", "([II)I"⟩) (h2 : Jvm.Cond.static (zx_name k') ∈ zx_tb) (hd : decode (zx_bys k) pc = .ok (.invokestatic idx, 3)) : zy_Hok xa ρ ex D k pc (zx_call 0 ci k' mc ms mx is nx) := by
  refine zh_call hn hM (Or.inl rfl) ?_
  intro p l e R s m args below meth c H locs cells slots ls rest vs A fr d Pc Qc free hk C hfd hls hvs hrc hrest hMet hbl hpre hf
  subst hk
  have hts := C.2.2.2.2.1
  have hg : ∀ w ∈ (Jvm.Cond.code (zx_name k') (zx_bys k') (zx_info k').1 (zx_info k').2.1 :: zx_tb), w ∈ zx_tb := by
    intro w hw
    rcases List.mem_cons.mp hw with rfl | hw
    · exact hM.2.2.2.1
    · exact hw
  have hN : va_Nw (.methodLinkNest (zx_name fr.2.1).cls idx (zx_name k') "DeckChairs") s := by
    rw [h0, hi, h1]; exact C.2.2.2.2.2.2.1.2.2.2.2.2.2.1
  exact va_runSN (own := (zx_name fr.2.1).cls) (host := "DeckChairs") (As := vs) (rest := rest) ⟨C.1, C.2.1, C.2.2.1, C.2.2.2.1, C.2.2.2.2.1⟩ hMet ⟨va_cnB n hts (zx_good hg) rfl rfl rfl hN (hts _ hM.2.2.2.2.2) ⟨hM.2.2.2.2.1.1, hM.2.2.2.2.1.2, hdesc⟩ (hM.R C hfd), hts _ h2, trivial⟩ ⟨hbl, hpre⟩ rfl (by omega) hls rfl (lv_room hrest) hd hf
theorem zh_spec {rk ci k' mc ms mx nx n idx : Nat} {is : List Nat} (hn : nx = pc + 3) (hM : zk_m k' mc ms mx) (hrk : rk ≠ 0) (hcls : rk = 0 ∨ (rk = 1 ∧ (zx_name k').cls = "java/lang/String") ∨ (2 ≤ rk ∧ ∃ T N, zx_cl[ci]? = some ((zx_name k').cls, T, N)))
    (hdesc : (parseMethodDescriptor (zx_name k').desc).map (fun d => d.parameters.length) = some n) (his : is.length = n + 1) (hret0 : (zx_info k').2.1 = none) (hini : (zx_name k').name = "<init>") (h1 : Jvm.Cond.methodLink (zx_name k).cls idx (zx_name k') ∈ zx_tb) (h2 : Jvm.Cond.instanceMethod (zx_name k') ∈ zx_tb) (hd : decode (zx_bys k) pc = .ok (.invokespecial idx, 3)) : zy_Hok xa ρ ex D k pc (zx_call rk ci k' mc ms mx is nx) := by
  refine zh_call hn hM hcls ?_
  intro p l e R s m args below meth c H locs cells slots ls rest vs A fr d Pc Qc free hk C hfd hls hvs hrc hrest hMet hbl hpre hf
  subst hk
  rcases hrc with z | ⟨q, As, rfl, hcell⟩
  · exact absurd z hrk
  · have hts := C.2.2.2.2.1
    have hMc := hM.2.2.2.1
    rw [hret0] at hMet hMc
    have hg : ∀ w ∈ (Jvm.Cond.code (zx_name k') (zx_bys k') (zx_info k').1 none :: zx_tb), w ∈ zx_tb := by
      intro w hw
      rcases List.mem_cons.mp hw with rfl | hw
      · exact hMc
      · exact hw
    have hlen : As.length = n := by
      rw [List.length_cons] at hvs; omega
    refine va_runI (own := (zx_name fr.2.1).cls) (As := As) (rest := rest) (b := q) ⟨C.1, C.2.1, C.2.2.1, C.2.2.2.1, C.2.2.2.2.1⟩ hMet (cwI n hts (zx_good hg) rfl rfl rfl (hts _ hM.2.2.2.2.2) (hts _ h1) (hts _ h2) hini ⟨hM.2.2.2.2.1.1, hM.2.2.2.2.1.2, hdesc⟩ (hM.R C hfd)) ⟨hbl, hpre⟩ rfl hlen hls ?_ (lv_room hrest) hd hf
    show (Value.ref q :: As).reverse ++ rest = _
    rw [List.reverse_cons, List.append_assoc]
    rfl
theorem zh_mmx {nx idx : Nat} (h1 : Jvm.Cond.methodLink (zx_name k).cls idx Lib.Math.max.name ∈ zx_tb) (h2 : Jvm.Cond.static Lib.Math.max.name ∈ zx_tb) (h3 : Jvm.Cond.code Lib.Math.max.name Lib.Math.max.code 2 (some .int) ∈ zx_tb) (h4 : Jvm.Cond.initialized "java/lang/Math" ∈ zx_tb) (hd : decode (zx_bys k) pc = .ok (.invokestatic idx, 3)) (hn : nx = pc + 3) : zy_Hok xa ρ ex D k pc (zx_mmx nx) := by
  intro rec hr fr g w cs sl lo st outs hk h p l e R s m args below meth cd A as tys ws H locs ls sv Q Cx Dy hl hs hret
  subst hk; subst hn
  have key : ∀ {b a : Nat} {r : List zx_V} {vb va : Value} {t : List Value}, zy_v ρ ex as (.inl b) vb → zy_v ρ ex as (.inl a) va → zy_s ρ ex as r t → ∀ (t0 : Bool), (t0 = true ↔ zy_cp .lt (Int32.ofNat a) (Int32.ofNat b)) → cond (Nat.ble (zx_dep r) 8 && Nat.ble 1 fr.1) (cond t0 (rec fr g w cs sl lo (.inl b :: r) (pc + 3)) (rec fr g w cs sl lo (.inl a :: r) (pc + 3))) none = some outs → W p l e R s m args below meth cd H locs cs sl Q (F0 m pc ls (vb :: va :: t)) := by
    intro b a r vb va t e1 e2 e3 t0 hi hh
    obtain ⟨hb, hh⟩ := zx_cond hh
    obtain ⟨hb1, hb2⟩ := Bool.and_eq_true_iff.mp hb
    have hb1 := Nat.le_of_ble_eq_true hb1
    have hb2 := Nat.le_of_ble_eq_true hb2
    have hts := Cx.2.2.2.2.1
    have hdp := zy_dep Cx.2.2.2.2.2.2.1.1 e3
    have hR := Cx.2.2.2.2.2.2.2.2.1
    have hml : cd.maxLocals = ls.size := by rw [Cx.2.2.1]; exact hl.1.symm
    have hlo : (t.map fun v => v.category).sum + 13 ≤ R.locals := by rw [hdp]; omega
    have hc1 := Nat.le_trans Dy.2.2.2.2.2.2.1 Cx.2.2.2.2.2.2.2.2.2.1
    have hc2 := Nat.le_trans Dy.2.2.2.2.2.2.2 Cx.2.2.2.2.2.2.2.2.2.2.1
    rw [show vb = _ from e1, show va = _ from e2]
    refine va_mmax (own := (zx_name fr.2.1).cls) Cx.1 Cx.2.1 hml Cx.2.2.2.1 (hts _ h1) (hts _ h2) (hts _ h4) (hts _ h3) (Nat.le_trans hb2 Cx.2.2.2.2.2.2.2.1) hlo hc1 hc2 hd ?_
    cases t0 with
    | true =>
      rw [if_pos (show Int32.ofNat a < Int32.ofNat b from hi.mp rfl)]
      exact hr _ _ _ _ _ _ _ _ _ hh Cx Dy hl ⟨rfl, e3⟩ hret
    | false =>
      rw [if_neg (fun z : Int32.ofNat a < Int32.ofNat b => by have z := hi.mpr z; cases z)]
      exact hr _ _ _ _ _ _ _ _ _ hh Cx Dy hl ⟨rfl, e3⟩ hret
  match st, sv, hs, h with
  | .inl b :: .inl a :: r, vb :: va :: t, ⟨e1, e2, e3⟩, h => exact key e1 e2 e3 (zx_cmp .lt a b) (zy_cmp .lt a b) h
  | .inr _ :: _, _, _, h => cases h
  | .inl _ :: .inr _ :: r, _, _, h => cases h
  | [.inl _], _, _, h => cases h
theorem zh_mmn {nx idx : Nat} (h1 : Jvm.Cond.methodLink (zx_name k).cls idx Lib.Math.min.name ∈ zx_tb) (h2 : Jvm.Cond.static Lib.Math.min.name ∈ zx_tb) (h3 : Jvm.Cond.code Lib.Math.min.name Lib.Math.min.code 2 (some .int) ∈ zx_tb) (h4 : Jvm.Cond.initialized "java/lang/Math" ∈ zx_tb) (hd : decode (zx_bys k) pc = .ok (.invokestatic idx, 3)) (hn : nx = pc + 3) : zy_Hok xa ρ ex D k pc (zx_mmn nx) := by
  intro rec hr fr g w cs sl lo st outs hk h p l e R s m args below meth cd A as tys ws H locs ls sv Q Cx Dy hl hs hret
  subst hk; subst hn
  have key : ∀ {b a : Nat} {r : List zx_V} {vb va : Value} {t : List Value}, zy_v ρ ex as (.inl b) vb → zy_v ρ ex as (.inl a) va → zy_s ρ ex as r t → ∀ (t0 : Bool), (t0 = true ↔ zy_cp .lt (Int32.ofNat b) (Int32.ofNat a)) → cond (Nat.ble (zx_dep r) 8 && Nat.ble 1 fr.1) (cond t0 (rec fr g w cs sl lo (.inl b :: r) (pc + 3)) (rec fr g w cs sl lo (.inl a :: r) (pc + 3))) none = some outs → W p l e R s m args below meth cd H locs cs sl Q (F0 m pc ls (vb :: va :: t)) := by
    intro b a r vb va t e1 e2 e3 t0 hi hh
    obtain ⟨hb, hh⟩ := zx_cond hh
    obtain ⟨hb1, hb2⟩ := Bool.and_eq_true_iff.mp hb
    have hb1 := Nat.le_of_ble_eq_true hb1
    have hb2 := Nat.le_of_ble_eq_true hb2
    have hts := Cx.2.2.2.2.1
    have hdp := zy_dep Cx.2.2.2.2.2.2.1.1 e3
    have hR := Cx.2.2.2.2.2.2.2.2.1
    have hml : cd.maxLocals = ls.size := by rw [Cx.2.2.1]; exact hl.1.symm
    have hlo : (t.map fun v => v.category).sum + 13 ≤ R.locals := by rw [hdp]; omega
    have hc1 := Nat.le_trans Dy.2.2.2.2.2.2.1 Cx.2.2.2.2.2.2.2.2.2.1
    have hc2 := Nat.le_trans Dy.2.2.2.2.2.2.2 Cx.2.2.2.2.2.2.2.2.2.2.1
    rw [show vb = _ from e1, show va = _ from e2]
    refine va_mmin (own := (zx_name fr.2.1).cls) Cx.1 Cx.2.1 hml Cx.2.2.2.1 (hts _ h1) (hts _ h2) (hts _ h4) (hts _ h3) (Nat.le_trans hb2 Cx.2.2.2.2.2.2.2.1) hlo hc1 hc2 hd ?_
    cases t0 with
    | true =>
      rw [if_pos (show Int32.ofNat b < Int32.ofNat a from hi.mp rfl)]
      exact hr _ _ _ _ _ _ _ _ _ hh Cx Dy hl ⟨rfl, e3⟩ hret
    | false =>
      rw [if_neg (fun z : Int32.ofNat b < Int32.ofNat a => by have z := hi.mpr z; cases z)]
      exact hr _ _ _ _ _ _ _ _ _ hh Cx Dy hl ⟨rfl, e3⟩ hret
  match st, sv, hs, h with
  | .inl b :: .inl a :: r, vb :: va :: t, ⟨e1, e2, e3⟩, h => exact key e1 e2 e3 (zx_cmp .lt b a) (zy_cmp .lt b a) h
  | .inr _ :: _, _, _, h => cases h
  | .inl _ :: .inr _ :: r, _, _, h => cases h
  | [.inl _], _, _, h => cases h
end ZI
