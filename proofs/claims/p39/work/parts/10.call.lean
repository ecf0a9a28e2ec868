/-! calls, and the copying of arrays -/
section ZC
variable {xa : List (Nat × Nat × List zx_V)} {ρ : Nat → Int32} {ex : Nat → Value} {D : va_G} {k pc : Nat}
theorem zx_drop_ok {α : Type} {o : List zx_O} : ∀ {l : List α} {i : Nat} {kk : List α → zx_R}, zx_drop l i kk = some o → i ≤ l.length ∧ kk (l.drop i) = some o
  | [], 0, kk, h => ⟨Nat.le_refl _, h⟩
  | [], i + 1, kk, h => by cases h
  | x :: t, 0, kk, h => ⟨Nat.zero_le _, h⟩
  | x :: t, i + 1, kk, h => by
    obtain ⟨h1, h2⟩ := zx_drop_ok (l := t) (i := i) (kk := kk) h
    exact ⟨Nat.succ_le_succ h1, h2⟩
theorem zx_over_ok {α : Type} {o : List zx_O} : ∀ {l : List α} {n : Nat} {m : List α} {kk : List α → zx_R}, zx_over l n m kk = some o → n ≤ l.length ∧ n ≤ m.length ∧ kk (l.take n ++ m.drop n) = some o
  | [], 0, m, kk, h => ⟨Nat.le_refl _, Nat.zero_le _, h⟩
  | [], n + 1, m, kk, h => by cases h
  | x :: t, 0, m, kk, h => ⟨Nat.zero_le _, Nat.zero_le _, h⟩
  | x :: t, n + 1, [], kk, h => by cases h
  | x :: t, n + 1, y :: m, kk, h => by
    obtain ⟨h1, h2, h3⟩ := zx_over_ok (l := t) (n := n) (m := m) (kk := fun r => kk (x :: r)) h
    exact ⟨Nat.succ_le_succ h1, Nat.succ_le_succ h2, h3⟩
theorem zx_into_ok {α : Type} {l : List α} {n : Nat} {o : List zx_O} : ∀ {m : List α} {d : Nat} {kk : List α → zx_R}, zx_into l n m d kk = some o → n ≤ l.length ∧ d + n ≤ m.length ∧ kk (m.take d ++ (l.take n ++ m.drop (d + n))) = some o
  | [], 0, kk, h => by
    obtain ⟨h1, h2, h3⟩ := zx_over_ok (show zx_over l n [] kk = some o from h)
    exact ⟨h1, by simpa using h2, by simpa using h3⟩
  | [], d + 1, kk, h => by cases h
  | x :: t, 0, kk, h => by
    obtain ⟨h1, h2, h3⟩ := zx_over_ok (show zx_over l n (x :: t) kk = some o from h)
    exact ⟨h1, by simpa using h2, by simpa using h3⟩
  | x :: t, d + 1, kk, h => by
    obtain ⟨h1, h2, h3⟩ := zx_into_ok (m := t) (d := d) (kk := fun r => kk (x :: r)) h
    refine ⟨h1, by simp only [List.length_cons]; omega, ?_⟩
    rw [show d + 1 + n = (d + n) + 1 by omega]
    exact h3
theorem zy_cpyv {as : List Nat} {us vs : List zx_V} {f g : Nat → Int32} {sp dp n : Nat} (hf : ∀ (j : Nat) (a : zx_V), us[j]? = some a → zy_v ρ ex as a (.int (f j))) (hg : ∀ (j : Nat) (a : zx_V), vs[j]? = some a → zy_v ρ ex as a (.int (g j))) (h1 : sp + n ≤ us.length) (h2 : dp + n ≤ vs.length) :
    ∀ (j : Nat) (a : zx_V), (vs.take dp ++ ((us.drop sp).take n ++ vs.drop (dp + n)))[j]? = some a → zy_v ρ ex as a (.int (va_cpy f g sp dp n j)) := by
  intro j a ha
  unfold va_cpy
  have l1 : (vs.take dp).length = dp := by rw [List.length_take]; omega
  have l2 : ((us.drop sp).take n).length = n := by rw [List.length_take, List.length_drop]; omega
  by_cases c1 : j < dp
  · rw [if_neg (by omega)]
    rw [List.getElem?_append_left (by omega), List.getElem?_take, if_pos c1] at ha
    exact hg j a ha
  · rw [List.getElem?_append_right (by omega), l1] at ha
    by_cases c2 : j < dp + n
    · rw [if_pos ⟨by omega, c2⟩]
      rw [List.getElem?_append_left (by omega), List.getElem?_take, if_pos (by omega), List.getElem?_drop] at ha
      exact hf _ a ha
    · rw [if_neg (by omega)]
      rw [List.getElem?_append_right (by omega), l2, List.getElem?_drop] at ha
      rw [show dp + n + (j - dp - n) = j by omega] at ha
      exact hg j a ha
theorem zh_cpy {nx idx : Nat} (h1 : Jvm.Cond.methodLink (zx_name k).cls idx arraycopyName ∈ zx_tb) (h2 : Jvm.Cond.native arraycopyName ∈ zx_tb) (h3 : Jvm.Cond.static arraycopyName ∈ zx_tb) (h4 : Jvm.Cond.initialized "java/lang/System" ∈ zx_tb) (hd : decode (zx_bys k) pc = .ok (.invokestatic idx, 3)) (hn : nx = pc + 3) : zy_Hok xa ρ ex D k pc (zx_cpy nx) := by
  intro rec hr fr g w cs sl lo st outs hk h p l e R s m args below meth cd A as tys ws H locs ls sv Q Cx Dy hl hs hret
  subst hk; subst hn
  have key : ∀ {n dp d sp s0 : Nat} {r : List zx_V} {vn vdp vd vsp vs0 : Value} {t : List Value}, zy_v ρ ex as (.inl n) vn → zy_v ρ ex as (.inl dp) vdp → zy_v ρ ex as (.inr (.inl (some d))) vd → zy_v ρ ex as (.inl sp) vsp → zy_v ρ ex as (.inr (.inl (some s0))) vs0 → zy_s ρ ex as r t →
      cond (Nat.ble n 1000000 && Nat.ble dp 1000000 && Nat.ble sp 1000000 && Nat.ble (zx_dep r) 8 && Nat.ble 1 fr.1) (zx_at w (fun c => match c with
        | .inl q => cond (Nat.beq q.1 0) (zx_at w (fun c2 => match c2 with
          | .inl q2 => cond (Nat.beq q2.1 0) (zx_drop q.2 sp fun l => zx_into l n q2.2 dp fun vs => zx_set (.inl (0, vs)) w d fun w2 => rec fr g w2 cs sl lo r (pc + 3)) none
          | .inr _ => none) d) none
        | .inr _ => none) s0) none = some outs → W p l e R s m args below meth cd H locs cs sl Q (F0 m pc ls (vn :: vdp :: vd :: vsp :: vs0 :: t)) := by
    intro n dp d sp s0 r vn vdp vd vsp vs0 t e1 e2 e3 e4 e5 e6 h
    obtain ⟨hb, h⟩ := zx_cond h
    obtain ⟨hb, hb5⟩ := Bool.and_eq_true_iff.mp hb
    obtain ⟨hb, hb4⟩ := Bool.and_eq_true_iff.mp hb
    obtain ⟨hb, hb3⟩ := Bool.and_eq_true_iff.mp hb
    obtain ⟨hb1, hb2⟩ := Bool.and_eq_true_iff.mp hb
    have hb1 := Nat.le_of_ble_eq_true hb1
    have hb2 := Nat.le_of_ble_eq_true hb2
    have hb3 := Nat.le_of_ble_eq_true hb3
    have hb4 := Nat.le_of_ble_eq_true hb4
    have hb5 := Nat.le_of_ble_eq_true hb5
    obtain ⟨z, k1, h⟩ := zx_at_ok h
    rcases z with ⟨ty, us⟩ | z
    · obtain ⟨t1, h⟩ := zx_cond h
      have t1 : ty = 0 := Nat.eq_of_beq_eq_true t1
      subst t1
      obtain ⟨z, k2, h⟩ := zx_at_ok h
      rcases z with ⟨ty, vs⟩ | z
      · obtain ⟨t1, h⟩ := zx_cond h
        have t1 : ty = 0 := Nat.eq_of_beq_eq_true t1
        subst t1
        obtain ⟨k3, h⟩ := zx_drop_ok h
        obtain ⟨k4, k5, h⟩ := zx_into_ok h
        obtain ⟨-, h⟩ := zx_set_ok h
        have k4 : sp + n ≤ us.length := by
          have k4 : n ≤ (us.drop sp).length := k4
          rw [List.length_drop] at k4
          have k3 : sp ≤ us.length := k3
          omega
        have k5 : dp + n ≤ vs.length := k5
        obtain ⟨q, ea, rfl, hq, k6, k7⟩ := zy_arr Dy.2.2.2.2.1 k1 e5
        obtain ⟨q2, eb, rfl, hq2, k8, k9⟩ := zy_arr Dy.2.2.2.2.1 k2 e3
        match ea, k7, k6 with
        | .inl (cA, n0, .inr (.inl f)), ⟨z, _⟩, _ => exact absurd z (by omega)
        | .inl (cA, n0, .inl f), ⟨_, ⟨i0, a1⟩, a2, a3⟩, k6 =>
          match eb, k9, k8 with
          | .inl (cB, n1, .inr (.inl g)), ⟨z, _⟩, _ => exact absurd z (by omega)
          | .inl (cB, n1, .inl gg), ⟨b0, ⟨i1, b1⟩, b2, b3⟩, k8 =>
            have hts := Cx.2.2.2.2.1
            have hdp := zy_dep Cx.2.2.2.2.2.2.1.1 e6
            have hR := Cx.2.2.2.2.2.2.2.2.1
            rw [show vn = _ from e1, show vdp = _ from e2, show vsp = _ from e4]
            obtain ⟨x1, x2⟩ := zy_nn hb1
            obtain ⟨y1, y2⟩ := zy_nn hb2
            obtain ⟨z1, z2⟩ := zy_nn hb3
            refine va_copyi (own := (zx_name fr.2.1).cls) Cx.1 Cx.2.1 (by rw [Cx.2.2.1]; exact hl.1.symm) Cx.2.2.2.1 (hts _ h1) (hts _ h2) (hts _ h3) (hts _ h4) Dy.1 Dy.2.1 Dy.2.2.1 Dy.2.2.2.1 s0 d i0 i1 k6 k8 a1 b1 rfl z2 y2 x2 (by rw [z1, x1, a2]; exact k4) (by rw [y1, x1, b2]; exact k5) (fun _ _ => rfl) (Nat.le_trans hb5 Cx.2.2.2.2.2.2.2.1) (by rw [hdp]; show _ + (7 + 11) ≤ _; omega) hd (fun H1 locs1 p1 d1 s1 => ?_)
            rw [x1, y1, z1] at p1 d1
            refine hr _ _ _ _ _ _ _ _ _ h Cx ⟨Dy.1, p1, d1, s1, zy_wset Dy.2.2.2.2.1 hq2 ⟨b0, ⟨i1, b1⟩, ?_, zy_cpyv a3 b3 k4 k5⟩, Dy.2.2.2.2.2⟩ hl e6 hret
            rw [b2]
            simp only [List.length_append, List.length_take, List.length_drop]
            omega
      · cases h
    · cases h
  match st, sv, hs, h with
  | .inl n :: .inl dp :: .inr (.inl (some d)) :: .inl sp :: .inr (.inl (some s0)) :: r, vn :: vdp :: vd :: vsp :: vs0 :: t, ⟨e1, e2, e3, e4, e5, e6⟩, h => exact key e1 e2 e3 e4 e5 e6 h
theorem zx_args_ok {o : List zx_O} {kk : zx_L → List zx_V → zx_R} {as : List Nat} : ∀ {is : List Nat} {st : List zx_V} {lo : zx_L} {sv base : List Value}, zx_args is st lo kk = some o → zy_s ρ ex as st sv → zy_s ρ ex as (lo.map Prod.snd) base → ∃ (av : zx_L) (r : List zx_V) (cs t : List Value), kk av r = some o ∧ sv = cs ++ t ∧ cs.length = is.length ∧ zy_s ρ ex as r t ∧ zy_s ρ ex as (av.map Prod.snd) (cs.reverse ++ base)
  | [], st, lo, sv, base, h, hs, hb => ⟨lo, st, [], sv, h, rfl, rfl, hs, hb⟩
  | i :: is, [], lo, sv, base, h, hs, hb => by cases h
  | i :: is, v :: r, lo, c :: t, base, h, ⟨h1, h2⟩, hb => by
    obtain ⟨av, r', cs, t', e1, e2, e3, e4, e5⟩ := zx_args_ok (is := is) (st := r) (lo := (i, v) :: lo) (sv := t) (base := c :: base) h h2 ⟨h1, hb⟩
    refine ⟨av, r', c :: cs, t', e1, by rw [e2]; rfl, by rw [List.length_cons, List.length_cons, e3], e4, ?_⟩
    rw [List.reverse_cons, List.append_assoc]
    exact e5
theorem zx_pos_ok (hex : ∀ j, ex j = .null ∨ ∃ a, ex j = .ref a) {mx : Nat} {as : List Nat} : ∀ {av : zx_L} {n : Nat} {vs : List Value}, zx_pos mx av n = true → zy_s ρ ex as (av.map Prod.snd) vs → (∀ q ∈ av, ∃ v, (q.1, v) ∈ lv_args n vs ∧ zy_v ρ ex as q.2 v) ∧ n + (lg_sl vs).length ≤ mx
  | [], n, [], h, _ => ⟨fun q hq => (by cases hq), by simpa [lg_sl] using Nat.le_of_ble_eq_true h⟩
  | q :: r, n, v :: vs, h, ⟨h1, h2⟩ => by
    have h : cond (Nat.beq q.1 n) (cond (zx_isL q.2) (zx_pos mx r (n + 2)) (zx_pos mx r (n + 1))) false = true := h
    have hc := zy_cat hex h1
    cases hb : Nat.beq q.1 n with
    | false => rw [hb] at h; cases h
    | true =>
      rw [hb] at h
      have e := Nat.eq_of_beq_eq_true hb
      cases hL : zx_isL q.2 with
      | true =>
        rw [hL] at h hc
        have hc : v.category = 2 := hc
        obtain ⟨k1, k2⟩ := zx_pos_ok hex (av := r) (n := n + 2) (vs := vs) h h2
        refine ⟨fun z hz => ?_, ?_⟩
        · rcases List.mem_cons.mp hz with rfl | hz
          · exact ⟨v, by rw [e]; exact List.mem_cons_self, h1⟩
          · obtain ⟨u, u1, u2⟩ := k1 z hz
            refine ⟨u, ?_, u2⟩
            show _ ∈ (n, v) :: lv_args (if v.category = 2 then n + 2 else n + 1) vs
            rw [if_pos hc]
            exact List.mem_cons_of_mem _ u1
        · have : (lg_sl (v :: vs)).length = 2 + (lg_sl vs).length := by
            unfold lg_sl
            rw [List.flatMap_cons, List.length_append, if_pos hc]
            rfl
          omega
      | false =>
        rw [hL] at h hc
        have hc : v.category = 1 := hc
        have hc2 : ¬ v.category = 2 := by omega
        obtain ⟨k1, k2⟩ := zx_pos_ok hex (av := r) (n := n + 1) (vs := vs) h h2
        refine ⟨fun z hz => ?_, ?_⟩
        · rcases List.mem_cons.mp hz with rfl | hz
          · exact ⟨v, by rw [e]; exact List.mem_cons_self, h1⟩
          · obtain ⟨u, u1, u2⟩ := k1 z hz
            refine ⟨u, ?_, u2⟩
            show _ ∈ (n, v) :: lv_args (if v.category = 2 then n + 2 else n + 1) vs
            rw [if_neg hc2]
            exact List.mem_cons_of_mem _ u1
        · have : (lg_sl (v :: vs)).length = 1 + (lg_sl vs).length := by
            unfold lg_sl
            rw [List.flatMap_cons, List.length_append, if_neg hc2]
            rfl
          omega
theorem zx_each_ok {f : zx_O → zx_R} {res : List zx_O} : ∀ {l : List zx_O}, zx_each l f = some res → ∀ o ∈ l, ∃ x, f o = some x ∧ ∀ z ∈ x, z ∈ res
  | [], h, o, ho => by cases ho
  | [a], h, o, ho => by
    rcases List.mem_cons.mp ho with rfl | ho
    · exact ⟨res, h, fun _ z => z⟩
    · cases ho
  | a :: b :: r, h, o, ho => by
    have h : (match f a with
      | none => none
      | some l1 => (match zx_each (b :: r) f with
        | none => none
        | some l2 => some (l1 ++ l2))) = some res := h
    cases h1 : f a with
    | none => rw [h1] at h; cases h
    | some l1 =>
      rw [h1] at h
      cases h2 : zx_each (b :: r) f with
      | none => rw [h2] at h; cases h
      | some l2 =>
        rw [h2] at h
        cases h
        rcases List.mem_cons.mp ho with rfl | ho
        · exact ⟨l1, h1, fun z hz => List.mem_append_left _ hz⟩
        · obtain ⟨x, x1, x2⟩ := zx_each_ok (l := b :: r) h2 o ho
          exact ⟨x, x1, fun z hz => List.mem_append_right _ (x2 z hz)⟩
def zy_oc (ρ : Nat → Int32) (ex : Nat → Value) (as : List Nat) (rv : Option zx_V) (oc : Outcome) : Prop := match rv with
  | none => oc = .returned none
  | some a => ∃ v, oc = .returned (some v) ∧ zy_v ρ ex as a v
/-- what a call comes to -/
def zy_Qc (ρ : Nat → Int32) (ex : Nat → Value) (D : va_G) (as : List Nat) (outs : List zx_O) (A : Nat → Prop) : Array Value → State → Outcome → State → Prop := fun _ st oc t =>
  (∃ o ∈ outs, ∃ rv, o.2.2 = .inl rv ∧ ∃ (as' : List Nat) (tys' : List (ClassId × FieldType)) (ws' : va_W), zy_p as as' ∧ zy_g ρ o.1 ∧ va_K D zx_cl tys' t ∧ va_P D zx_cl ws' t.heap ∧ va_D A ws' ∧ zy_w ρ ex tys' as' o.2.1 ws' ∧ zy_oc ρ ex as' rv oc) ∧ va_F A st t
/-- what the tables say of a method that is called: its class's name is plain, its most locals -/
def zk_m (k mc ms mx : Nat) : Prop := plainName (zx_name k).cls = true ∧ (zx_info k).1 = mx ∧ mx ≤ 45 ∧ Jvm.Cond.code (zx_name k) (zx_bys k) (zx_info k).1 (zx_info k).2.1 ∈ zx_tb ∧ ((zx_name k).cls ≠ "java/lang/invoke/MethodHandle" ∧ (zx_name k).cls ≠ "java/lang/invoke/VarHandle") ∧ Jvm.Cond.initialized (zx_name k).cls ∈ zx_tb
theorem zy_rtW (hex : ∀ j, ex j = .null ∨ ∃ a, ex j = .ref a) {p : Program} {l : Launch} {e : Env} {R : Room} {s : State} {m : MethodId} {args : Array Value} {below : List Frame} {meth : Method} {c : Code} {H : Heap} {locs : List Loc} {mc ms pc' : Nat} {ls : Array Slot} {st : List Value} {as : List Nat} {rv : Option zx_V} {Qc : Array Value → State → Outcome → State → Prop} {free : Addr → Prop} (hx : p.tables.exec = Jvm.exec) (hb : c.code = zx_bys k) (hr : meth.sig.returnType = (zx_info k).2.1) (hlocks : meth.locks = false) (hrt : zy_rt ρ ex as k pc' rv st)
    (hq : ∀ (t : State) (oc : Outcome), t.heap = H → s.WarmedH t.vm → zy_oc ρ ex as rv oc → Qc args s oc t) (hf : ∀ q ∈ locs, free q.base) : W p l e R s m args below meth c H locs mc ms (MQ below Qc args s mc ms free) (F0 m pc' ls st) := by
  cases rv with
  | none =>
    obtain ⟨rfl, h1, h2⟩ := hrt
    exact W.vret hx hb (hr.trans h2) (fun t ht hW => hq t _ ht hW rfl) hf h1 hlocks
  | some a =>
    obtain ⟨v, rfl, h1, h2⟩ := hrt
    rcases h2 with ⟨h2, t, h3, h4⟩ | ⟨h2, h3, h4⟩
    · have zz : ∀ {ty : FieldType} {x : Int32}, v = .int x → (zx_info k).2.1 = some ty → narrow ty (.int x) = .int x → W p l e R s m args below meth c H locs mc ms (MQ below Qc args s mc ms free) (F0 m pc' ls [v]) := by
        intro ty x hv hty hnar
        subst hv
        exact W.zret hx hb (hr.trans hty) hnar (fun t ht hW => hq t _ ht hW ⟨_, rfl, h1⟩) hf h2 hlocks
      have small : ∀ {n : Nat}, a = .inl n → v = .int (Int32.ofNat n) := fun {n} ha => by rw [ha] at h1; exact h1
      rcases h3 with ⟨rfl, h5⟩ | ⟨rfl, h5⟩ | ⟨rfl, h5⟩ | ⟨rfl, h5⟩
      · obtain ⟨x, rfl⟩ := zy_isI h4 h1
        exact W.iret hx hb (hr.trans h5) (fun t ht hW => hq t _ ht hW ⟨_, rfl, h1⟩) hf h2 hlocks
      · have z := zy_fit hex (ty := .boolean) (t := 1) (Or.inr (Or.inl ⟨rfl, rfl⟩)) h4 h1
        rcases a with n | a
        · have hv := small rfl
          exact zz hv h5 (by rw [← hv]; exact z.1)
        · cases h4
      · have z := zy_fit hex (ty := .char) (t := 4) (Or.inr (Or.inr (Or.inr (Or.inr (Or.inl ⟨rfl, rfl⟩))))) h4 h1
        rcases a with n | a
        · have hv := small rfl
          exact zz hv h5 (by rw [← hv]; exact z.1)
        · cases h4
      · have z := zy_fit hex (ty := .byte) (t := 5) (Or.inr (Or.inr (Or.inr (Or.inr (Or.inr ⟨rfl, rfl⟩))))) h4 h1
        rcases a with n | a
        · have hv := small rfl
          exact zz hv h5 (by rw [← hv]; exact z.1)
        · cases h4
    · obtain ⟨x, rfl⟩ := zy_isL h4 h1
      exact W.lret hx hb (hr.trans h3) (fun t ht hW => hq t _ ht hW ⟨_, rfl, h1⟩) hf h2 hlocks
theorem zy_met {rec : zx_Rec} (hr : zy_Snd xa ρ ex D rec) (l : Launch) {d mc ms mx : Nat} {g : zx_G} {w : zx_Wd} {av : zx_L} {vs : List Value} {outs : List zx_O} {as : List Nat} {tys : List (ClassId × FieldType)} {ws : va_W} {sz : Nat} (hM : zk_m k mc ms mx) (h : rec (d, k, 1000000, mc, ms) g w 0 0 av [] 0 = some outs) (hno : ∀ o ∈ outs, ∃ rv, o.2.2 = .inl rv) (hpos : zx_pos mx av 0 = true) (hargs : zy_s ρ ex as (av.map Prod.snd) vs) (hw : zy_w ρ ex tys as w ws) (hg : zy_g ρ g) :
    Met l (zx_name k) (Jvm.Cond.code (zx_name k) (zx_bys k) (zx_info k).1 (zx_info k).2.1 :: zx_tb) ({ frames := d, cells := mc, slots := ms, locals := 64 * d })
      (va_Pc vs (fun U => U.heap.size = sz ∧ va_P D zx_cl ws U.heap ∧ va_K D zx_cl tys U ∧ va_D (fun _ => True) ws ∧ zy_X xa ρ ex (va_A ws sz) U U.heap)) (zy_Qc ρ ex D as outs (va_A ws sz)) mc ms (va_A ws sz) := by
  refine Met.ofW (cc := zx_bys k) (maxL := (zx_info k).1) (ret := (zx_info k).2.1) hM.1 rfl ?_
  intro p e s m args below meth c s₁ B hml hv
  obtain ⟨rfl, hsz, hP, hK, hD0, hX⟩ := hv
  have hts := atoms_spec (ws := Jvm.Cond.code (zx_name k) (zx_bys k) (zx_info k).1 (zx_info k).2.1 :: zx_tb) B.pre
  have hown : s.vm.findClass (zx_name k).cls = some m.cls := findClass_of_methodNamed B.named
  have hin : meth.name = (zx_name k).name := (name_of_methodNamed B.named B.method).1
  subst hsz
  obtain ⟨p1, p2⟩ := zx_pos_ok hX.1 hpos hargs
  have hl := lv_entry vs (n := (zx_info k).1) (by rw [hM.2.1]; omega)
  rw [lg_entry_eq]
  refine hr _ _ _ _ _ _ _ _ _ h (as := as) (tys := tys) (ws := ws) (A := va_A ws s.heap.size) ⟨B.exec, B.bytes, hml, hown, fun x hx => hts x (List.mem_cons_of_mem _ hx), fun q hq => Or.inr hq, hX, Nat.le_refl _, Nat.le_refl _, Nat.le_refl _, Nat.le_refl _, fun z => hin.trans z⟩ ⟨hK, hP, hD0.self, va_S.rf, hw, hg, Nat.zero_le _, Nat.zero_le _⟩ ⟨hl.1, hl.2.1, fun q hq => ?_⟩ trivial ?_
  · obtain ⟨v, v1, v2⟩ := p1 q hq
    exact ⟨v, hl.2.2 _ v1, v2⟩
  · intro o ho as' tys' ws' H' locs' hp
    refine ⟨fun rv hrv cs' sl' pc' ls' st' Dy hrt => ?_, fun cs' sl' lo' st' hrv => ?_⟩
    · refine W.widen (k := mc) (n := ms) Dy.2.2.2.2.2.2.1 Dy.2.2.2.2.2.2.2 ?_
      refine zy_rtW hX.1 B.exec B.bytes B.returns B.notSynchronized hrt (fun t oc ht hW hoc => ⟨⟨o, ho, rv, hrv, as', tys', ws', hp, Dy.2.2.2.2.2.1, va_K.moved hW.alike Dy.1, by rw [ht]; exact Dy.2.1, Dy.2.2.1, Dy.2.2.2.2.1, hoc⟩, Dy.2.2.2.1.F ht⟩) Dy.2.2.2.1.2.2
    · obtain ⟨rv, e⟩ := hno o ho
      rw [e] at hrv
      cases hrv
end ZC
