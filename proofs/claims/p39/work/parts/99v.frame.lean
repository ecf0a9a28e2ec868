/-! the law's frame: two worlds beside each other, calls on one of them -/
section HLF
variable {ex : Nat → Value} {fc : Nat → Nat → Int32} {D : va_G} {as : List Nat} {tys : List (ClassId × FieldType)} {k pc : Nat}
theorem hl_cont {p : Program} {l : Launch} {e : Env} {R : Room} {s : State} {m : MethodId} {args : Array Value} {below : List Frame} {meth : Method} {c : Code} {H : Heap} {locs : List Loc} {cells slots : Nat} {ls : Array Slot} {st0 rest : List Value} {P : qP} {A0 A1 : Nat → Prop} {a : Array Value} {free : Addr → Prop} {Q : State → Prop}
    (hr : va_Run p l e R s m args below meth c H locs cells slots 0 0 (F0 m pc ls st0) rest (qy_Qc ex D as tys P A1 a) free) (hS : va_S A0 s.heap H locs) (hA : ∀ q, A1 q → A0 q) (hf : ∀ q, free q → A0 q)
    (kk : ∀ (o : qO) (rv : Option qV) (fc' : Nat → Nat → Int32) (ρ' : List Int) (ws' : va_W) (H1 : Heap) (locs1 : List Loc) (v : Option Value), P fc' ρ' o → o.2.2 = .inl rv → qy_D ρ' ex fc' D s A0 o.1 o.2.1 as tys ws' H1 locs1 → qy_oc ρ' ex as rv (.returned v) → va_D A1 ws' → (∀ q, q < H.size → ¬ A1 q → H1[q]? = H[q]?) → W p l e R s m args below meth c H1 locs1 (cells + 0) (slots + 0) Q (F0 m (pc + 3) ls (v.toList ++ rest))) :
    W p l e R s m args below meth c H locs cells slots Q (F0 m pc ls st0) := by
  intro T hT X
  obtain ⟨v, st₀, t, T', L, h0, X', hL, e1, e2, ⟨⟨o, rv, fc', ρ', ws', hP, hrv, q2, q3, q4, q5, q6, q7⟩, hz, hk⟩, st⟩ := hr T hT X
  rw [h0] at hz hk
  have hal : t.vm.Alike s.vm := by rw [← e2]; exact X'.warmed.alike.symm
  obtain ⟨t2, a1, b1⟩ := kk o rv fc' ρ' ws' T'.heap (locs ++ L) v hP hrv ⟨va_K.moved hal q3, by rw [e1]; exact q4, q5.weaken (fun _ _ _ z => hA _ z), 
    ⟨Nat.le_trans hS.1 (by rw [e1]; exact hz), fun q h1 h2 => by rw [e1, hk q (Nat.lt_of_lt_of_le h1 hS.1) (fun z => h2 (hA q z))]; exact hS.2.1 q h1 h2, fun q hq => by
      rcases List.mem_append.mp hq with h | h
      · exact hS.2.2 q h
      · exact hf _ (hL q h)⟩, q6, q2⟩ q7 q5 (fun q h1 h2 => by rw [e1]; exact hk q h1 h2) T' rfl X'
  exact ⟨t2, st t2 a1, b1⟩
/-- addresses of two worlds have nothing in common -/
def hl_dis (w1 w2 : va_W) : Prop := ∀ (i j : Nat) (p q : Nat × va_E), w1[i]? = some p → w2[j]? = some q → p.1 ≠ q.1
theorem hl_dis.sym {w1 w2 : va_W} (h : hl_dis w1 w2) : hl_dis w2 w1 := fun i j p q hp hq e => h j i q p hq hp e.symm
theorem hl_call {rk ci k' mx d : Nat} {is : List Nat} (hM : zk_m k' 0 0 mx) (hcls : q_cls rk ci k') (runner : qy_run1 ex k pc rk k' is) {ρ : List Int} {p : Program} {l : Launch} {e : Env} {R : Room} {s : State} {m : MethodId} {args : Array Value} {below : List Frame} {meth : Method} {cd : Code} {A : Nat → Prop} {ws wr : va_W} {H : Heap} {locs : List Loc} {cs sl : Nat} {ls : Array Slot} {vv t : List Value} {Q : State → Prop} {fr : qFr} {g : qG} {w : List qE} {av : qL} {P : qP}
    (hk : fr.2.1 = k) (hfd : fr.1 = d + 1) (Cx : qy_C ex p R s m args meth cd A fr cs sl) (Dy : qy_D ρ ex fc D s A g w as tys ws H locs) (hPr : va_P D zx_cl wr H) (hdis : hl_dis ws wr) (hls : ls.size = (zx_info k).1) (hlen : vv.length = is.length) (hav : qy_s ρ ex as (av.map Prod.snd) vv.reverse) (hdp : (t.map fun v => v.category).sum ≤ 8) (hpos : q_pos mx av 0 = true) (hrk : 2 ≤ rk) (hrc : ∃ i a tl fs, av = (i, .inr (.inr (.inl (some a)))) :: tl ∧ w[a]? = some (.inr (.inl (ci, fs))))
    (hT : qy_TP ex D as tys d k' fc ρ g w av [] 0 P) (hno : ∀ fc' ρ' o, P fc' ρ' o → ∃ rv, o.2.2 = .inl rv)
    (kk : ∀ (o : qO) (rv : Option qV) (fc' : Nat → Nat → Int32) (ρ' : List Int) (ws' : va_W) (H1 : Heap) (locs1 : List Loc) (v : Option Value), P fc' ρ' o → o.2.2 = .inl rv → qy_D ρ' ex fc' D s A o.1 o.2.1 as tys ws' H1 locs1 → qy_oc ρ' ex as rv (.returned v) → va_P D zx_cl wr H1 → hl_dis ws' wr → W p l e R s m args below meth cd H1 locs1 cs sl Q (F0 m (pc + 3) ls (v.toList ++ t))) :
    W p l e R s m args below meth cd H locs cs sl Q (F0 m pc ls (vv ++ t)) := by
  have hX := Cx.2.2.2.2.2.2.1
  have hAA : ∀ q, va_A ws H.size q → A q := by
    intro q hq
    rcases hq with ⟨i, e, hq⟩ | hq
    · exact Dy.2.2.1.2 i _ hq
    · exact Cx.2.2.2.2.2.1 q (Nat.le_trans Dy.2.2.2.1.1 hq)
  have hzrc : zy_rc rk k' s H vv.reverse := by
    obtain ⟨i, a, tl, fs, rfl, ha⟩ := hrc
    right
    cases hvv : vv.reverse with
    | nil => rw [hvv] at hav; cases hav
    | cons c1 As =>
      rw [hvv] at hav
      obtain ⟨q, gs, e1, -, e3, -⟩ := qy_obj Dy.2.2.2.2.1 ha hav.1
      refine ⟨q, As, by rw [e1], ?_⟩
      rcases hcls with z | ⟨z1, z2⟩ | ⟨z1, T, N, hcl⟩
      · omega
      · omega
      · exact va_recv Dy.1 Dy.2.1 hcl e3
  have hMet := qy_met l (sz := H.size) hM hT hno hpos hav Dy.2.2.2.2.1 Dy.2.2.2.2.2
  have hrun := runner () (c := cd) (p := p) (e := e) (below := below) (locs := locs) (cells := cs) (slots := sl) (ls := ls) (rest := t) (vs := vv.reverse) (R := R) (args := args) (meth := meth) (fr := (fr.1, fr.2.1, 0, cs, sl)) hk Cx hfd hls (by rw [List.length_reverse]; exact hlen) hzrc hdp hMet
    (fun a U g mk q => by
      obtain ⟨q0, q1, q2, q3, q4, q5⟩ := q
      exact ⟨q0, q1, q2, va_K.moved (u := U) (U := U.calling g mk a) (Vm.Alike.refl U.vm) q3, q4, q5.call g mk a⟩)
    (fun U hU hW => ⟨rfl, by rw [hU], by rw [hU]; exact Dy.2.1, va_K.moved hW.alike Dy.1, Dy.2.2.1.weaken (fun _ _ _ _ => trivial), by rw [hU]; exact hX.to hW Dy.2.2.2.1.2.1 hAA⟩)
    ⟨Cx.2.2.2.2.2.2.2.2.2.1, Cx.2.2.2.2.2.2.2.2.2.2.1⟩
  rw [List.reverse_reverse] at hrun
  refine hl_cont hrun Dy.2.2.2.1 hAA hAA (fun o rv fc' ρ' ws' H1 locs1 v h1 h2 h3 h4 h5 h6 => kk o rv fc' ρ' ws' H1 locs1 v h1 h2 h3 h4 ?_ ?_)
  · refine hPr.kept (fun i q hq => h6 q.1 (hPr i q hq).lt ?_)
    rintro (⟨j, e2, hj⟩ | hj)
    · exact hdis j i _ _ hj hq rfl
    · exact absurd (hPr i q hq).lt (Nat.not_lt.mpr hj)
  · intro i j p1 q1 hp1 hq1 e2
    rcases h5.2 i p1 hp1 with ⟨j2, e3, hj⟩ | hj
    · exact hdis j2 j _ _ hj hq1 e2
    · rw [e2] at hj
      exact absurd (hPr j q1 hq1).lt (Nat.not_lt.mpr hj)
end HLF
/-! what a call does, as the law sees it -/
section HLM
variable {ex : Nat → Value} {D : va_G} {as : List Nat} {tys : List (ClassId × FieldType)}
/-- from a world of one kind, and these values, the method comes to its end with a number and a world of the other kind -/
def hl_M (ex : Nat → Value) (D : va_G) (as : List Nat) (tys : List (ClassId × FieldType)) (d ci k' : Nat) (K : va_W → Prop) (vs : List Value) (K' : Int32 → va_W → Prop) : Prop :=
  ∀ ws, K ws → ∃ (fc : Nat → Nat → Int32) (ρ : List Int) (g : qG) (w : List qE) (av : qL) (P : qP), qy_TP ex D as tys d k' fc ρ g w av [] 0 P ∧ qy_w ρ ex fc tys as w ws ∧ qy_g ρ g ∧ qy_s ρ ex as (av.map Prod.snd) vs ∧ (∃ mx, zk_m k' 0 0 mx ∧ q_pos mx av 0 = true) ∧ (∃ i a tl fs, av = (i, .inr (.inr (.inl (some a)))) :: tl ∧ w[a]? = some (.inr (.inl (ci, fs)))) ∧
    ∀ fc' ρ' o, P fc' ρ' o → ∃ rv, o.2.2 = .inl (some rv) ∧ ∀ ws' v, qy_w ρ' ex fc' tys as o.2.1 ws' → qy_g ρ' o.1 → qy_v ρ' ex as rv v → ∃ x, v = .int x ∧ K' x ws'
theorem hl_M.or {d ci k' : Nat} {K1 K2 : va_W → Prop} {vs : List Value} {K' : Int32 → va_W → Prop} (h1 : hl_M ex D as tys d ci k' K1 vs K') (h2 : hl_M ex D as tys d ci k' K2 vs K') : hl_M ex D as tys d ci k' (fun ws => K1 ws ∨ K2 ws) vs K' := fun ws h => h.elim (h1 ws) (h2 ws)
theorem hl_M.to {d ci k' : Nat} {K : va_W → Prop} {vs : List Value} {K' K2 : Int32 → va_W → Prop} (h : hl_M ex D as tys d ci k' K vs K') (hk : ∀ x ws, K' x ws → K2 x ws) : hl_M ex D as tys d ci k' K vs K2 := fun ws hw => by
  obtain ⟨fc, ρ, g, w, av, P, h1, h2, h3, h4, h5, h6, h7⟩ := h ws hw
  refine ⟨fc, ρ, g, w, av, P, h1, h2, h3, h4, h5, h6, fun fc' ρ' o ho => ?_⟩
  obtain ⟨rv, r1, r2⟩ := h7 fc' ρ' o ho
  refine ⟨rv, r1, fun ws' v k1 k2 k3 => ?_⟩
  obtain ⟨x, x1, x2⟩ := r2 ws' v k1 k2 k3
  exact ⟨x, x1, hk x ws' x2⟩
/-- a world as a pattern says, with the time t -/
def hl_I (ex : Nat → Value) (as : List Nat) (tys : List (ClassId × FieldType)) (Φ : (Nat → Nat → Int32) → Prop) (I : qG × List qE) (ti : Nat) (t : Int) (ws : va_W) : Prop := ∃ fc ρ, Φ fc ∧ qy_w ρ ex fc tys as I.2 ws ∧ qy_g ρ I.1 ∧ ρ[ti]? = some t
theorem qy_g.ext {ρ ys : List Int} {g : List (Int × Int)} {rs : List (Int × Int)} {f : List qF} (h : qy_g ρ (g, f)) (hl : ys.length = rs.length) (hr : ∀ (j : Nat) (r : Int × Int), rs[j]? = some r → ∃ x, ys[j]? = some x ∧ r.1 ≤ x ∧ x ≤ r.2) : qy_g (ρ ++ ys) (g ++ rs, f) := by
  have hx : qe ρ (ρ ++ ys) := ⟨ys, rfl⟩
  have h1 : g.length = ρ.length := h.1
  refine ⟨by rw [List.length_append, List.length_append, h1, hl], fun i q hq => ?_, fun u hu => ?_⟩
  · have hq : (g ++ rs)[i]? = some q := hq
    rcases Nat.lt_or_ge i g.length with hi | hi
    · rw [List.getElem?_append_left hi] at hq
      obtain ⟨r, r1, r2⟩ := h.2.1 i q hq
      exact ⟨r, hx.at r1, r2⟩
    · rw [List.getElem?_append_right hi] at hq
      obtain ⟨x, x1, x2⟩ := hr _ q hq
      refine ⟨x, ?_, x2⟩
      rw [List.getElem?_append_right (by omega), ← h1]
      exact x1
  · obtain ⟨r1, r2, a1, a2, a3⟩ := h.2.2 u hu
    exact ⟨r1, r2, hx.at a1, hx.at a2, a3⟩
def hl_av (N : Nat) (n : Nat) : qL := (0, .inr (.inr (.inl (some 0)))) :: (List.range n).map (fun j => (j + 1, .inr (.inl (N + j, 1, 0))))
theorem hl_args {ρ : List Int} {N : Nat} (hN : ρ.length = N) {ax : Nat} (hax : as[0]? = some ax) (xs : List Int32) : qy_s (ρ ++ xs.map Int32.toInt) ex as ((hl_av N xs.length).map Prod.snd) (.ref ax :: xs.map Value.int) := by
  refine ⟨⟨ax, hax, rfl⟩, ?_⟩
  have key : ∀ (ys : List Int32) (r : Nat) (zs : List Int32), zs.length = r → qy_s (ρ ++ (zs ++ ys).map Int32.toInt) ex as ((List.range' r ys.length).map (fun j => (.inr (.inl (N + j, 1, 0)) : qV))) (ys.map Value.int) := by
    intro ys
    induction ys with
    | nil => intro r zs _; exact trivial
    | cons y ys ih =>
      intro r zs hz
      refine ⟨⟨y, y.toInt, rfl, ?_, by show y.toInt = 1 * y.toInt + 0; omega⟩, ?_⟩
      · rw [List.getElem?_append_right (by omega), hN, Nat.add_sub_cancel_left, List.getElem?_map, List.getElem?_append_right (by omega), hz, Nat.sub_self]
        rfl
      · have := ih (r + 1) (zs ++ [y]) (by rw [List.length_append, hz]; rfl)
        rw [List.append_assoc] at this
        exact this
  have h := key xs 0 [] rfl
  rw [List.nil_append, ← List.range_eq_range'] at h
  have e : ((List.range xs.length).map (fun j => (j + 1, (.inr (.inl (N + j, 1, 0)) : qV)))).map Prod.snd = (List.range xs.length).map (fun j => (.inr (.inl (N + j, 1, 0)) : qV)) := by rw [List.map_map]; rfl
  show qy_s _ ex as (((List.range xs.length).map (fun j => (j + 1, (.inr (.inl (N + j, 1, 0)) : qV)))).map Prod.snd) _
  rw [e]
  exact h
def hl_int (a : qV) : Bool := match a with
  | .inl _ => true
  | .inr (.inl _) => true
  | .inr (.inr (.inr (.inr (.inr (.inr (.inl _)))))) => true
  | _ => false
theorem hl_int_ok {ρ : List Int} {a : qV} {v : Value} (h : hl_int a = true) (hv : qy_v ρ ex as a v) : ∃ x, v = .int x := by
  match a, h, hv with
  | .inl _, _, ⟨x, e, _⟩ => exact ⟨x, e⟩
  | .inr (.inl _), _, ⟨x, r, e, _⟩ => exact ⟨x, e⟩
  | .inr (.inr (.inr (.inr (.inr (.inr (.inl _)))))), _, ⟨x, e⟩ => exact ⟨x, e⟩
/-- every end of a contract is one of the patterns, with the time as it was -/
noncomputable def hl_ck (c : qC) (ti : Nat) (Is : List (qG × List qE)) : Bool := c.2.2.2.2.2.all fun t => (match t.2.2 with
  | some rv => (match q_lde 0 (t.1, t.2.1, .inl none) (Is.map fun I => ((I.1, I.2, .inl none), [(ti, .inr (.inl (ti, 1, 0)))], [])) with
    | some _ => hl_int rv
    | none => false)
  | none => false)
theorem hl_ck_ok (hex : ∀ j, ex j = .null ∨ ∃ a, ex j = .ref a) {c : qC} {ti : Nat} {Is : List (qG × List qE)} (h : hl_ck c ti Is = true) {fc : Nat → Nat → Int32} {ρ ρ' : List Int} {o : qO} (ho : o ∈ q_po c) (he : qe ρ ρ') (hg : qy_g ρ' o.1) : ∃ rv, o.2.2 = .inl (some rv) ∧ hl_int rv = true ∧ ∃ I ∈ Is, ∃ ρ2, qy_g ρ2 I.1 ∧ (∀ ws, qy_w ρ' ex fc tys as o.2.1 ws → qy_w ρ2 ex fc tys as I.2 ws) ∧ ∀ t, ρ[ti]? = some t → ρ2[ti]? = some t := by
  obtain ⟨t, t1, rfl⟩ := List.mem_map.mp ho
  have ht := List.all_eq_true.mp h t t1
  cases hr : t.2.2 with
  | none => rw [hr] at ht; cases ht
  | some rv =>
    rw [hr] at ht
    refine ⟨rv, rfl, ?_⟩
    cases hl : q_lde 0 (t.1, t.2.1, .inl none) (Is.map fun I => ((I.1, I.2, .inl none), [(ti, .inr (.inl (ti, 1, 0)))], [])) with
    | none => rw [hl] at ht; cases ht
    | some x =>
      rw [hl] at ht
      have ht : hl_int rv = true := ht
      refine ⟨ht, ?_⟩
      obtain ⟨E, hE, vals, hL, sg, r⟩ := q_lde_ok (fc := fc) (tys := tys) (as := as) hex (Nat.zero_le _) he (z := (t.1, t.2.1, .inl none)) hg hl
      obtain ⟨I, hI, rfl⟩ := List.mem_map.mp hE
      refine ⟨I, hI, vals, ?_⟩
      rw [List.take_zero, List.nil_append] at hL
      rcases r with ⟨rv0, rv1, e1, e2, r1, r2, r3, r4, r5, r6⟩ | ⟨q0, q, e1, e2, _⟩
      · rw [List.take_zero, List.nil_append] at r2 r3
        refine ⟨r2, r3, fun z hz => ?_⟩
        have := hL.n (i := ti) (s := ti) (d := 0) List.mem_cons_self hz
        rw [this]
        exact congrArg some (by omega)
      · cases e1
/-- a method that leaves the time as it is -/
theorem hl_keep (hex : ∀ j, ex j = .null ∨ ∃ a, ex j = .ref a) {c : qC} {I : qG × List qE} {Is : List (qG × List qE)} {ti d ci mx : Nat} {rs : List (Int × Int)} {Φ : (Nat → Nat → Int32) → Prop} {t : Int} (hM : zk_m c.1 0 0 mx) (hV : ∀ fc, Φ fc → qy_V ex (qΓ1 fc) D as tys c) (hd : c.2.1 ≤ d) (hg : c.2.2.1 = (I.1.1 ++ rs, I.1.2)) (hw : c.2.2.2.1 = I.2) (xs : List Int32) (hlo : c.2.2.2.2.1 = hl_av I.1.1.length xs.length) (hpos : q_pos mx (hl_av I.1.1.length xs.length) 0 = true) (hroot : ∃ fs, I.2[0]? = some (.inr (.inl (ci, fs)))) (hck : hl_ck c ti Is = true) (hrl : xs.length = rs.length) (hrs : ∀ (j : Nat) (r : Int × Int), rs[j]? = some r → ∃ x, (xs.map Int32.toInt)[j]? = some x ∧ r.1 ≤ x ∧ x ≤ r.2) {ax : Nat} (hax : as[0]? = some ax) :
    hl_M ex D as tys d ci c.1 (hl_I ex as tys Φ I ti t) (.ref ax :: xs.map Value.int) (fun _ ws => ∃ I' ∈ Is, hl_I ex as tys Φ I' ti t ws) := by
  rintro ws ⟨fc, ρ, hΦ, h1, h2, h3⟩
  have he : qe ρ (ρ ++ xs.map Int32.toInt) := ⟨_, rfl⟩
  have hN : ρ.length = I.1.1.length := h2.1.symm
  refine ⟨fc, ρ ++ xs.map Int32.toInt, c.2.2.1, c.2.2.2.1, c.2.2.2.2.1, qP_o (qΓ1 fc) fc (ρ ++ xs.map Int32.toInt) (q_po c), ?_, ?_, ?_, ?_, ⟨mx, hM, by rw [hlo]; exact hpos⟩, ?_, ?_⟩
  · have hT : qy_T ex (qΓ1 fc) D as tys (c.2.1, c.1, []) c.2.2.1 c.2.2.2.1 c.2.2.2.2.1 [] 0 (q_po c) := hV fc hΦ
    exact (hT.TP rfl).dep hd
  · rw [hw]; exact h1.mono he
  · rw [hg]; exact qy_g.ext h2 (by rw [List.length_map]; exact hrl) hrs
  · rw [hlo]; exact hl_args hN hax xs
  · obtain ⟨fs, hfs⟩ := hroot
    exact ⟨0, 0, _, fs, hlo, by rw [hw]; exact hfs⟩
  · intro fc' ρ' o ⟨ho, hq, hγ⟩
    have hf : fc' = fc := hγ.1
    have ho2 := ho
    obtain ⟨tt, tt1, e1⟩ := List.mem_map.mp ho2
    have hsome : ∃ rv, o.2.2 = .inl (some rv) := by
      have ht := List.all_eq_true.mp hck tt tt1
      cases hr : tt.2.2 with
      | none => rw [hr] at ht; cases ht
      | some rv => exact ⟨rv, by rw [← e1]; show Sum.inl tt.2.2 = _; rw [hr]⟩
    obtain ⟨rv, hrv⟩ := hsome
    refine ⟨rv, hrv, fun ws' v k1 k2 k3 => ?_⟩
    obtain ⟨rv2, e2, hin, I', hI', ρ2, g2, w2, l2⟩ := hl_ck_ok (fc := fc') (tys := tys) (as := as) hex hck ho hq k2
    have hT3 := l2 t (he.at h3)
    have e3 : rv2 = rv := by rw [hrv] at e2; cases e2; rfl
    have hval : ∃ x, v = .int x := hl_int_ok (by rw [← e3]; exact hin) k3
    obtain ⟨x, hx⟩ := hval
    exact ⟨x, hx, I', hI', fc', ρ2, by rw [hf]; exact hΦ, w2 ws' k1, g2, hT3⟩
end HLM
