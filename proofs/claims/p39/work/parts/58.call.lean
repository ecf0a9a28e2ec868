/-! contracts, and calls by them -/
def q_po (c : qC) : List qO := c.2.2.2.2.2.map fun t => (t.1, t.2.1, .inl t.2.2)
/-- a contract holds -/
def qy_V (ex : Nat → Value) (Γ : qΓ) (D : va_G) (as : List Nat) (tys : List (ClassId × FieldType)) (c : qC) : Prop := qy_T ex Γ D as tys (c.2.1, c.1, []) c.2.2.1 c.2.2.2.1 c.2.2.2.2.1 [] 0 (q_po c)
theorem qy_C.le {ex : Nat → Value} {p : Program} {R : Room} {s : State} {m : MethodId} {args : Array Value} {meth : Method} {c : Code} {A : Nat → Prop} {d d0 k cs sl : Nat} {l l0 : List Nat} (h : qy_C ex p R s m args meth c A (d, k, l) cs sl) (hd : d0 ≤ d) : qy_C ex p R s m args meth c A (d0, k, l0) cs sl := by
  obtain ⟨h1, h2, h3, h4, h5, h6, h7, h8, h9, h10⟩ := h
  have h8 : d ≤ R.frames := h8
  have h9 : 64 * d ≤ R.locals := h9
  exact ⟨h1, h2, h3, h4, h5, h6, h7, (show d0 ≤ R.frames by omega), (show 64 * d0 ≤ R.locals by omega), h10⟩
section QD
variable {ex : Nat → Value} {fc : Nat → Nat → Int32} {Γ : qΓ} {D : va_G} {as : List Nat} {tys : List (ClassId × FieldType)} {k pc : Nat}
theorem q_ct_T {k' d : Nat} {g : qG} {w : List qE} {av : qL} {inl : qR} {outs : List qO} {ct : List qC} (hV : ∀ c ∈ ct, qy_V ex Γ D as tys c) (h : q_ct k' d g w av inl ct = some outs) (hi : inl = some outs → qy_T ex Γ D as tys (d, k', []) g w av [] 0 outs) : qy_T ex Γ D as tys (d, k', []) g w av [] 0 outs := by
  intro _ fc ρ p l e R s m args below meth c A ws H locs cs sl ls sv Q C Dy hl hs hret
  have hex := C.2.2.2.2.2.2.1.1
  have hg := Dy.2.2.2.2.2
  induction ct with
  | nil => exact hi h () C Dy hl hs hret
  | cons c0 ct ih =>
    have hV2 : ∀ c ∈ ct, qy_V ex Γ D as tys c := fun c hc => hV c (List.mem_cons_of_mem _ hc)
    have h : cond (Nat.beq c0.1 k' && Nat.ble c0.2.1 d) (q_mt 0 c0.2.2.1 c0.2.2.2.1 c0.2.2.2.2.1 [] none g w av [] none (fun sg => zx_n (zx_len c0.2.2.1.1) fun p => zx_n (zx_len g.1) fun n => q_outs sg p n g c0.2.2.2.2.2) (q_ct k' d g w av inl ct)) (q_ct k' d g w av inl ct) = some outs := h
    rcases q_if h with ⟨hb, h1⟩ | ⟨hb, h1⟩
    · obtain ⟨b1, b2⟩ := Bool.and_eq_true_iff.mp hb
      have b1 : c0.1 = k' := Nat.eq_of_beq_eq_true b1
      have b2 := Nat.le_of_ble_eq_true b2
      rcases q_mt_ok (fc := fc) (tys := tys) (as := as) hex (Nat.zero_le _) hg h1 with ⟨sg, vals, hres, h2⟩ | h2
      · obtain ⟨r1, r2, r3, r4, r5, r6⟩ := hres
        rw [zx_n_eq, zx_n_eq, zx_len_eq, zx_len_eq] at h2
        rw [List.take_zero, List.nil_append] at r2 r3 r4 r5
        subst b1
        have hV0 := hV c0 List.mem_cons_self
        have C0 : qy_C ex p R s m args meth c A (c0.2.1, c0.1, []) cs sl := C.le b2
        refine hV0 () (ρ := vals) C0 ⟨Dy.1, Dy.2.1, Dy.2.2.1, Dy.2.2.2.1, r3 _ Dy.2.2.2.2.1, r2⟩ (r4 _ _ hl) (r5 _ hs) ?_
        refine ⟨hret.1, ?_⟩
        intro o fc1 ρ1 ws' H' locs' ⟨ho, hq, hγ⟩ Dy1
        obtain ⟨t, t1, rfl⟩ := List.mem_map.mp ho
        obtain ⟨fr, rfl⟩ := hq
        obtain ⟨z, z1, rv', z2, z3, z4, z5⟩ := q_outs_ok (fr := fr) (ex := ex) (fc := fc1) (tys := tys) (as := as) r1 r2.1 hg.1 hg h2 t t1 Dy1.2.2.2.2.2
        have Dz : qy_D (ρ ++ fr) ex fc1 D s A z.1 z.2.1 as tys ws' H' locs' := ⟨Dy1.1, Dy1.2.1, Dy1.2.2.1, Dy1.2.2.2.1, z4 _ Dy1.2.2.2.2.1, z3⟩
        refine ⟨fun rv hrv pc' ls' st' hrt => ?_, fun pc' lo' st' hz => by cases hz⟩
        have hrv : t.2.2 = rv := Sum.inl.inj hrv
        refine (hret.2 z fc1 (ρ ++ fr) ws' H' locs' ⟨z1, ⟨fr, rfl⟩, hγ⟩ Dz).1 rv' z2 pc' ls' st' ?_
        subst hrv
        rcases z5 with ⟨q1, q2⟩ | ⟨a, b, q1, q2, q3⟩
        · rw [q2]
          rw [q1] at hrt
          exact hrt
        · rw [q2]
          rw [q1] at hrt
          obtain ⟨v, v1, v2, v3⟩ := hrt
          exact ⟨v, v1, q3 v v2, v3⟩
      · exact ih hV2 h2
    · exact ih hV2 h1
def qy_oc (ρ : List Int) (ex : Nat → Value) (as : List Nat) (rv : Option qV) (oc : Outcome) : Prop := match rv with
  | none => oc = .returned none
  | some a => ∃ v, oc = .returned (some v) ∧ qy_v ρ ex as a v
def qy_Qc (ex : Nat → Value) (D : va_G) (as : List Nat) (tys : List (ClassId × FieldType)) (P : qP) (A : Nat → Prop) : Array Value → State → Outcome → State → Prop := fun _ st oc t =>
  (∃ (o : qO) (rv : Option qV) (fc' : Nat → Nat → Int32) (ρ' : List Int) (ws' : va_W), P fc' ρ' o ∧ o.2.2 = .inl rv ∧ qy_g ρ' o.1 ∧ va_K D zx_cl tys t ∧ va_P D zx_cl ws' t.heap ∧ va_D A ws' ∧ qy_w ρ' ex fc' tys as o.2.1 ws' ∧ qy_oc ρ' ex as rv oc) ∧ va_F A st t
theorem qy_rtW {ρ : List Int} {p : Program} {l : Launch} {e : Env} {R : Room} {s : State} {m : MethodId} {args : Array Value} {below : List Frame} {meth : Method} {c : Code} {H : Heap} {locs : List Loc} {mc ms pc' : Nat} {ls : Array Slot} {st : List Value} {rv : Option qV} {Qc : Array Value → State → Outcome → State → Prop} {free : Addr → Prop} (hx : p.tables.exec = Jvm.exec) (hb : c.code = zx_bys k) (hr : meth.sig.returnType = (zx_info k).2.1) (hlocks : meth.locks = false) (hrt : qy_rt ρ ex as k pc' rv st)
    (hq : ∀ (t : State) (oc : Outcome), t.heap = H → s.WarmedH t.vm → qy_oc ρ ex as rv oc → Qc args s oc t) (hf : ∀ q ∈ locs, free q.base) : W p l e R s m args below meth c H locs mc ms (MQ below Qc args s mc ms free) (F0 m pc' ls st) := by
  cases rv with
  | none =>
    obtain ⟨rfl, h1, h2⟩ := hrt
    exact W.vret hx hb (hr.trans h2) (fun t ht hW => hq t _ ht hW rfl) hf h1 hlocks
  | some a =>
    obtain ⟨v, rfl, h1, h2⟩ := hrt
    rcases h2 with ⟨h2, x, ty, rfl, h3, h4⟩ | ⟨h2, h3, x, rfl⟩
    · rcases h4 with rfl | h4
      · exact W.iret hx hb (hr.trans h3) (fun t ht hW => hq t _ ht hW ⟨_, rfl, h1⟩) hf h2 hlocks
      · exact W.zret hx hb (hr.trans h3) h4 (fun t ht hW => hq t _ ht hW ⟨_, rfl, h1⟩) hf h2 hlocks
    · exact W.lret hx hb (hr.trans h3) (fun t ht hW => hq t _ ht hW ⟨_, rfl, h1⟩) hf h2 hlocks
theorem q_pos_ok {ρ : List Int} (hex : ∀ j, ex j = .null ∨ ∃ a, ex j = .ref a) {mx : Nat} : ∀ {av : qL} {n : Nat} {vs : List Value}, q_pos mx av n = true → qy_s ρ ex as (av.map Prod.snd) vs → (∀ q ∈ av, ∃ v, (q.1, v) ∈ lv_args n vs ∧ qy_v ρ ex as q.2 v) ∧ n + (lg_sl vs).length ≤ mx
  | [], n, [], h, _ => ⟨fun q hq => (by cases hq), by simpa [lg_sl] using Nat.le_of_ble_eq_true h⟩
  | q :: r, n, v :: vs, h, ⟨h1, h2⟩ => by
    have h : cond (Nat.beq q.1 n) (cond (q_isL q.2) (q_pos mx r (n + 2)) (q_pos mx r (n + 1))) false = true := h
    have hc := qy_cat hex h1
    cases hb : Nat.beq q.1 n with
    | false => rw [hb] at h; cases h
    | true =>
      rw [hb] at h
      have e := Nat.eq_of_beq_eq_true hb
      cases hL : q_isL q.2 with
      | true =>
        rw [hL] at h hc
        have hc : v.category = 2 := hc
        obtain ⟨k1, k2⟩ := q_pos_ok hex (av := r) (n := n + 2) (vs := vs) h h2
        refine ⟨fun z hz => ?_, ?_⟩
        · rcases List.mem_cons.mp hz with rfl | hz
          · exact ⟨v, by rw [e]; exact List.mem_cons_self, h1⟩
          · obtain ⟨u, u1, u2⟩ := k1 z hz
            refine ⟨u, ?_, u2⟩
            show _ ∈ (n, v) :: lv_args (if v.category = 2 then n + 2 else n + 1) vs
            rw [if_pos hc]
            exact List.mem_cons_of_mem _ u1
        · have : (lg_sl (v :: vs)).length = 2 + (lg_sl vs).length := by
            unfold lg_sl
            rw [List.flatMap_cons, List.length_append, if_pos hc]
            rfl
          omega
      | false =>
        rw [hL] at h hc
        have hc : v.category = 1 := hc
        have hc2 : ¬ v.category = 2 := by omega
        obtain ⟨k1, k2⟩ := q_pos_ok hex (av := r) (n := n + 1) (vs := vs) h h2
        refine ⟨fun z hz => ?_, ?_⟩
        · rcases List.mem_cons.mp hz with rfl | hz
          · exact ⟨v, by rw [e]; exact List.mem_cons_self, h1⟩
          · obtain ⟨u, u1, u2⟩ := k1 z hz
            refine ⟨u, ?_, u2⟩
            show _ ∈ (n, v) :: lv_args (if v.category = 2 then n + 2 else n + 1) vs
            rw [if_neg hc2]
            exact List.mem_cons_of_mem _ u1
        · have : (lg_sl (v :: vs)).length = 1 + (lg_sl vs).length := by
            unfold lg_sl
            rw [List.flatMap_cons, List.length_append, if_neg hc2]
            rfl
          omega
theorem q_args_ok {ρ : List Int} {o : List qO} {kk : qL → List qV → qR} : ∀ {is : List Nat} {st : List qV} {lo : qL} {sv base : List Value}, q_args is st lo kk = some o → qy_s ρ ex as st sv → qy_s ρ ex as (lo.map Prod.snd) base → ∃ (av : qL) (r : List qV) (cs t : List Value), kk av r = some o ∧ sv = cs ++ t ∧ cs.length = is.length ∧ qy_s ρ ex as r t ∧ qy_s ρ ex as (av.map Prod.snd) (cs.reverse ++ base)
  | [], st, lo, sv, base, h, hs, hb => ⟨lo, st, [], sv, h, rfl, rfl, hs, hb⟩
  | i :: is, [], lo, sv, base, h, hs, hb => by cases h
  | i :: is, v :: r, lo, c :: t, base, h, ⟨h1, h2⟩, hb => by
    obtain ⟨av, r', cs, t', e1, e2, e3, e4, e5⟩ := q_args_ok (is := is) (st := r) (lo := (i, v) :: lo) (sv := t) (base := c :: base) h h2 ⟨h1, hb⟩
    refine ⟨av, r', c :: cs, t', e1, by rw [e2]; rfl, by rw [List.length_cons, List.length_cons, e3], e4, ?_⟩
    rw [List.reverse_cons, List.append_assoc]
    exact e5
theorem q_each_ok {f : qO → qR} {res : List qO} : ∀ {l : List qO}, q_each l f = some res → ∀ o ∈ l, ∃ x, f o = some x ∧ ∀ z ∈ x, z ∈ res
  | [], h, o, ho => by cases ho
  | a :: r, h, o, ho => by
    obtain ⟨l1, m1, p1, p2, p3, p4⟩ := q_app_ok (show q_app (f a) (q_each r f) = some res from h)
    rcases List.mem_cons.mp ho with rfl | ho
    · exact ⟨l1, p1, p3⟩
    · obtain ⟨x, x1, x2⟩ := q_each_ok (l := r) p2 o ho
      exact ⟨x, x1, fun z hz => p4 z (x2 z hz)⟩
theorem qy_met (l : Launch) {ρ : List Int} {d mx : Nat} {g : qG} {w : List qE} {av : qL} {vs : List Value} {P : qP} {ws : va_W} {sz : Nat} (hM : zk_m k 0 0 mx) (hT : qy_TP ex D as tys d k fc ρ g w av [] 0 P) (hno : ∀ fc' ρ' o, P fc' ρ' o → ∃ rv, o.2.2 = .inl rv) (hpos : q_pos mx av 0 = true) (hargs : qy_s ρ ex as (av.map Prod.snd) vs) (hw : qy_w ρ ex fc tys as w ws) (hg : qy_g ρ g) :
    Met l (zx_name k) (Jvm.Cond.code (zx_name k) (zx_bys k) (zx_info k).1 (zx_info k).2.1 :: zx_tb) (zy_rm d 0 0)
      (va_Pc vs (fun U => U.heap.size = sz ∧ va_P D zx_cl ws U.heap ∧ va_K D zx_cl tys U ∧ va_D (fun _ => True) ws ∧ zy_X zx_xa0 q_ρ0 ex (va_A ws sz) U U.heap)) (qy_Qc ex D as tys P (va_A ws sz)) 0 0 (va_A ws sz) := by
  refine Met.ofW (cc := zx_bys k) (maxL := (zx_info k).1) (ret := (zx_info k).2.1) hM.1 rfl ?_
  intro p e s m args below meth c s₁ B hml hv
  obtain ⟨rfl, hsz, hP, hK, hD0, hX⟩ := hv
  have hts := atoms_spec (ws := Jvm.Cond.code (zx_name k) (zx_bys k) (zx_info k).1 (zx_info k).2.1 :: zx_tb) B.pre
  have hown : s.vm.findClass (zx_name k).cls = some m.cls := findClass_of_methodNamed B.named
  have hin : meth.name = (zx_name k).name := (name_of_methodNamed B.named B.method).1
  subst hsz
  obtain ⟨p1, p2⟩ := q_pos_ok hX.1 hpos hargs
  have hl := lv_entry vs (n := (zx_info k).1) (by rw [hM.2.1]; omega)
  rw [lg_entry_eq]
  refine hT () (ws := ws) (A := va_A ws s.heap.size) ⟨B.exec, B.bytes, hml, hown, fun x hx => hts x (List.mem_cons_of_mem _ hx), fun q hq => Or.inr hq, hX, Nat.le_refl _, Nat.le_refl _, Nat.le_refl _, Nat.le_refl _, fun z => hin.trans z⟩ ⟨hK, hP, hD0.self, va_S.rf, hw, hg⟩ ⟨hl.1, hl.2.1, fun q hq => ?_⟩ trivial ?_
  · obtain ⟨v, v1, v2⟩ := p1 q hq
    exact ⟨v, hl.2.2 _ v1, v2⟩
  · intro o fc' ρ' ws' H' locs' hp Dy
    refine ⟨fun rv hrv pc' ls' st' hrt => ?_, fun pc' lo' st' hrv => ?_⟩
    · exact qy_rtW B.exec B.bytes B.returns B.notSynchronized hrt (fun t oc ht hW hoc => ⟨⟨o, rv, fc', ρ', ws', hp, hrv, Dy.2.2.2.2.2, va_K.moved hW.alike Dy.1, by rw [ht]; exact Dy.2.1, Dy.2.2.1, Dy.2.2.2.2.1, hoc⟩, Dy.2.2.2.1.F ht⟩) Dy.2.2.2.1.2.2
    · obtain ⟨rv, e⟩ := hno _ _ o hp
      rw [e] at hrv
      cases hrv
end QD
