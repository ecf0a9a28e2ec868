/-! work by hand over runs of the executor: what an end has to do with its start; ghosts that are chosen anew -/
abbrev qLk : Type := List (Nat × qV) × List qF
abbrev qEd : Type := qO × qLk
/-- what is said of an end's symbols: values over the start's symbols; a * (the end's i) + b * (the start's j) is c at least -/
def q_L (lk : qLk) (ρ ρ' : List Int) : Prop := (∀ q ∈ lk.1, ∀ z, q_val ρ q.2 = some z → ρ'[q.1]? = some z) ∧ ∀ f ∈ lk.2, ∀ r2, ρ[f.2.2.2.1]? = some r2 → ∃ r1, ρ'[f.2.1]? = some r1 ∧ f.2.2.2.2 ≤ f.1 * r1 + f.2.2.1 * r2
noncomputable def q_la (p : Nat) (sg : List qV) (k : qR) (l : List (Nat × qV)) : qR := List.rec (motive := fun _ => qR) k (fun q _ ih => q_sy p sg q.1 fun v => cond (q_ve v q.2) ih none) l
noncomputable def q_lf (p : Nat) (g : qG) (sg : List qV) (k : qR) (l : List qF) : qR := List.rec (motive := fun _ => qR) k (fun f _ ih => q_sy p sg f.2.1 fun x => q_rg g x fun l1 h1 => q_rg g (.inr (.inl (f.2.2.2.1, 1, 0))) fun l2 h2 => cond (q_le f.2.2.2.2 (Int.add (q_tm f.1 l1 h1) (q_tm f.2.2.1 l2 h2))) ih (match x with
  | .inr (.inl (s, c, d)) => cond (q_eq c 1) (zx_i (Int.sub f.2.2.2.2 (Int.mul f.1 d)) fun m => cond (q_hf f.1 s f.2.2.1 f.2.2.2.1 m g.2) ih none) none
  | _ => none)) l
noncomputable def q_lde (p : Nat) (o : qO) (l : List qEd) : qR := List.rec (motive := fun _ => qR) none (fun c _ ih => match c.1.2.2 with
  | .inl rv0 => (match o.2.2 with
    | .inl rv => q_mt p c.1.1 c.1.2.1 [] [] rv0 o.1 o.2.1 [] [] rv (fun sg => q_la p sg (q_lf p o.1 sg (some []) c.2.2) c.2.1) ih
    | .inr _ => ih)
  | .inr q0 => (match o.2.2 with
    | .inl _ => ih
    | .inr q => cond (Nat.beq q0.1 q.1) (q_mt p c.1.1 c.1.2.1 q0.2.1 q0.2.2 none o.1 o.2.1 q.2.1 q.2.2 none (fun sg => q_la p sg (q_lf p o.1 sg (some []) c.2.2) c.2.1) ih) ih)) l
noncomputable def q_lgk (ct : List qC) (fuel p k d : Nat) (cuts : List Nat) (pc : Nat) (G0 : qG) (W0 : List qE) (lo0 : qL) (st0 : List qV) (ends : List qEd) : Bool := cond (Nat.ble p (zx_len G0.1)) (q_okR (fun o => q_lde p o ends) (q_go ct zx_xa0 fuel (d, k, cuts) G0 W0 lo0 st0 pc)) false
theorem q_val_ext {ρ ρ' : List Int} (h : qe ρ ρ') {v : qV} {z : Int} (hv : q_val ρ v = some z) : q_val ρ' v = some z := by
  match v, hv with
  | .inl y, hv => exact hv
  | .inr (.inl (s, c, d)), hv =>
    have hv : (ρ[s]?).map (fun r => c * r + d) = some z := hv
    cases hs : ρ[s]? with
    | none => rw [hs] at hv; cases hv
    | some r =>
      rw [hs] at hv
      show (ρ'[s]?).map (fun r => c * r + d) = some z
      rw [h.at hs]
      exact hv
  | .inr (.inr (.inr (.inr (.inl y)))), hv => exact hv
  | .inr (.inr (.inr (.inr (.inr (.inl s))))), hv => exact h.at hv
section QHA
variable {ρ ρ' : List Int} {ex : Nat → Value} {fc fc' : Nat → Nat → Int32} {Γ : qΓ} {D : va_G} {as : List Nat} {tys : List (ClassId × FieldType)} {p : Nat} {o : List qO}
theorem q_la_ok (hp : p ≤ ρ'.length) (he : qe ρ ρ') {sg : List qV} {vals : List Int} (hF : qM_fin ρ' sg vals) {k : qR} : ∀ {l : List (Nat × qV)}, q_la p sg k l = some o → k = some o ∧ ∀ q ∈ l, ∀ z, q_val ρ q.2 = some z → (ρ'.take p ++ vals)[q.1]? = some z
  | [], h => ⟨h, fun q hq => by cases hq⟩
  | q :: l, h => by
    obtain ⟨x, z, h1, h2, h3⟩ := q_sy_ok hp hF (show q_sy p sg q.1 (fun v => cond (q_ve v q.2) (q_la p sg k l) none) = some o from h)
    obtain ⟨hb, h4⟩ := q_cond h1
    have e := q_ve_eq hb
    obtain ⟨h5, h6⟩ := q_la_ok hp he hF (l := l) h4
    refine ⟨h5, fun u hu => ?_⟩
    rcases List.mem_cons.mp hu with rfl | hu
    · intro z' hz
      have := q_val_ext he hz
      rw [← e, h2] at this
      cases this
      exact h3
    · exact h6 u hu
theorem q_lf_ok (hp : p ≤ ρ'.length) (he : qe ρ ρ') {g : qG} (hg : qy_g ρ' g) {sg : List qV} {vals : List Int} (hF : qM_fin ρ' sg vals) {k : qR} : ∀ {l : List qF}, q_lf p g sg k l = some o → k = some o ∧ ∀ f ∈ l, ∀ r2, ρ[f.2.2.2.1]? = some r2 → ∃ r1, (ρ'.take p ++ vals)[f.2.1]? = some r1 ∧ f.2.2.2.2 ≤ f.1 * r1 + f.2.2.1 * r2
  | [], h => ⟨h, fun f hf => by cases hf⟩
  | f :: l, h => by
    obtain ⟨x, z, h1, h2, h3⟩ := q_sy_ok hp hF (show q_sy p sg f.2.1 (fun x => q_rg g x fun l1 h1 => q_rg g (.inr (.inl (f.2.2.2.1, 1, 0))) fun l2 h2 => cond (q_le f.2.2.2.2 (Int.add (q_tm f.1 l1 h1) (q_tm f.2.2.1 l2 h2))) (q_lf p g sg k l) (match x with
      | .inr (.inl (s, c, d)) => cond (q_eq c 1) (zx_i (Int.sub f.2.2.2.2 (Int.mul f.1 d)) fun m => cond (q_hf f.1 s f.2.2.1 f.2.2.2.1 m g.2) (q_lf p g sg k l) none) none
      | _ => none)) = some o from h)
    obtain ⟨l1, h1', a1, a2, h4⟩ := q_rgv_ok hg h2 h1
    have done : q_lf p g sg k l = some o → (∀ r2, ρ[f.2.2.2.1]? = some r2 → f.2.2.2.2 ≤ f.1 * z + f.2.2.1 * r2) → k = some o ∧ ∀ f' ∈ f :: l, ∀ r2, ρ[f'.2.2.2.1]? = some r2 → ∃ r1, (ρ'.take p ++ vals)[f'.2.1]? = some r1 ∧ f'.2.2.2.2 ≤ f'.1 * r1 + f'.2.2.1 * r2 := by
      intro hh hle
      obtain ⟨h5, h6⟩ := q_lf_ok hp he hg hF (l := l) hh
      refine ⟨h5, fun u hu => ?_⟩
      rcases List.mem_cons.mp hu with rfl | hu
      · exact fun r2 hr => ⟨z, h3, hle r2 hr⟩
      · exact h6 u hu
    obtain ⟨u, u1, u2⟩ := q_at_ok h4
    obtain ⟨r', r1, r2, r3⟩ := hg.2.1 _ u u1
    have hr' : ∀ x2, ρ[f.2.2.2.1]? = some x2 → x2 = r' := fun x2 hx => by
      have := he.at hx
      rw [r1] at this
      cases this; rfl
    rcases q_if u2 with ⟨hc, h9⟩ | ⟨hc, h9⟩
    · rw [zx_i_eq, zx_i_eq] at h9
      rcases q_if h9 with ⟨hb, h10⟩ | ⟨hb, h10⟩
      · refine done h10 fun x2 hx => ?_
        have hb := q_le_iff.mp hb
        rw [hr' x2 hx]
        have t1 := q_tm_ok (a := f.1) a1 a2
        have t2 := q_tm_ok (a := f.2.2.1) (r := r') (lo := 1 * u.1 + 0) (hi := 1 * u.2 + 0) (by omega) (by omega)
        have hb : f.2.2.2.2 ≤ q_tm f.1 l1 h1' + q_tm f.2.2.1 (1 * u.1 + 0) (1 * u.2 + 0) := hb
        omega
      · match x, h2, h10 with
        | .inr (.inl (s, c, d)), h2, h10 =>
          obtain ⟨hc1, h11⟩ := q_cond h10
          have hc1 : c = 1 := q_eq_iff.mp hc1
          subst hc1
          rw [zx_i_eq] at h11
          obtain ⟨hh, h12⟩ := q_cond h11
          obtain ⟨f', f1, f2, f3, f4, f5, f6⟩ := q_hf_ok hh
          refine done h12 fun x2 hx => ?_
          obtain ⟨y1, y2, y3, y4, y5⟩ := hg.2.2 f' f1
          rw [f2] at y3
          rw [f3, r1] at y4
          cases y4
          have h2 : (ρ'[s]?).map (fun r => 1 * r + d) = some z := h2
          rw [y3] at h2
          have h2 : 1 * y1 + d = z := Option.some.inj h2
          rw [hr' x2 hx, ← h2]
          rw [f4, f5] at y5
          have f6 : f.2.2.2.2 - f.1 * d ≤ f'.2.2.2.2 := f6
          have e : f.1 * (1 * y1 + d) = f.1 * y1 + f.1 * d := by rw [Int.one_mul, Int.mul_add]
          rw [e]
          omega
    · exact absurd hc (by decide)
def qP_l (Γ : qΓ) (fc : Nat → Nat → Int32) (ρ : List Int) (p : Nat) (ends : List qEd) : qP := fun fc' ρ' o => ∃ E ∈ ends, E.1 = o ∧ qγ Γ fc fc' ∧ ρ'.take p = ρ.take p ∧ q_L E.2 ρ ρ'
theorem q_lde_ok (hex : ∀ j, ex j = .null ∨ ∃ a, ex j = .ref a) (hp : p ≤ ρ'.length) (he : qe ρ ρ') {z : qO} (hg : qy_g ρ' z.1) : ∀ {l : List qEd} {x : List qO}, q_lde p z l = some x → ∃ c ∈ l, ∃ vals, q_L c.2 ρ (ρ'.take p ++ vals) ∧ ∃ sg, (∃ rv0 rv, c.1.2.2 = .inl rv0 ∧ z.2.2 = .inl rv ∧ qM_res ρ' ex fc as tys p c.1.1 c.1.2.1 [] [] rv0 z.2.1 [] [] rv sg vals) ∨ ∃ q0 q, c.1.2.2 = .inr q0 ∧ z.2.2 = .inr q ∧ q0.1 = q.1 ∧ qM_res ρ' ex fc as tys p c.1.1 c.1.2.1 q0.2.1 q0.2.2 none z.2.1 q.2.1 q.2.2 none sg vals
  | [], x, h => by cases h
  | c :: l, x, h => by
    have rest : q_lde p z l = some x → ∃ c' ∈ c :: l, ∃ vals, q_L c'.2 ρ (ρ'.take p ++ vals) ∧ ∃ sg, (∃ rv0 rv, c'.1.2.2 = .inl rv0 ∧ z.2.2 = .inl rv ∧ qM_res ρ' ex fc as tys p c'.1.1 c'.1.2.1 [] [] rv0 z.2.1 [] [] rv sg vals) ∨ ∃ q0 q, c'.1.2.2 = .inr q0 ∧ z.2.2 = .inr q ∧ q0.1 = q.1 ∧ qM_res ρ' ex fc as tys p c'.1.1 c'.1.2.1 q0.2.1 q0.2.2 none z.2.1 q.2.1 q.2.2 none sg vals := fun hh => by
      obtain ⟨c', c1, c2⟩ := q_lde_ok hex hp he hg (l := l) hh
      exact ⟨c', List.mem_cons_of_mem _ c1, c2⟩
    have lnk : ∀ {sg : List qV} {vals : List Int}, qM_fin ρ' sg vals → q_la p sg (q_lf p z.1 sg (some []) c.2.2) c.2.1 = some x → q_L c.2 ρ (ρ'.take p ++ vals) := fun hF hh => by
      obtain ⟨a1, a2⟩ := q_la_ok hp he hF hh
      exact ⟨a2, (q_lf_ok hp he hg hF a1).2⟩
    obtain ⟨⟨G, w, r⟩, lk⟩ := c
    obtain ⟨g, w2, r2⟩ := z
    cases r with
    | inl rv0 =>
      cases r2 with
      | inl rv =>
        rcases q_mt_ok (fc := fc) (tys := tys) (as := as) hex hp hg (show q_mt p G w [] [] rv0 g w2 [] [] rv (fun sg => q_la p sg (q_lf p g sg (some []) lk.2) lk.1) (q_lde p (g, w2, .inl rv) l) = some x from h) with ⟨sg, vals, h1, h2⟩ | h1
        · exact ⟨_, List.mem_cons_self, vals, lnk h1.1 h2, sg, Or.inl ⟨rv0, rv, rfl, rfl, h1⟩⟩
        · exact rest h1
      | inr q => exact rest h
    | inr q0 =>
      cases r2 with
      | inl rv => exact rest h
      | inr q =>
        rcases q_if (show cond (Nat.beq q0.1 q.1) (q_mt p G w q0.2.1 q0.2.2 none g w2 q.2.1 q.2.2 none (fun sg => q_la p sg (q_lf p g sg (some []) lk.2) lk.1) (q_lde p (g, w2, .inr q) l)) (q_lde p (g, w2, .inr q) l) = some x from h) with ⟨hb, h1⟩ | ⟨hb, h1⟩
        · rcases q_mt_ok (fc := fc) (tys := tys) (as := as) hex hp hg h1 with ⟨sg, vals, h2, h3⟩ | h2
          · exact ⟨_, List.mem_cons_self, vals, lnk h2.1 h3, sg, Or.inr ⟨q0, q, rfl, rfl, Nat.eq_of_beq_eq_true hb, h2⟩⟩
          · exact rest h2
        · exact rest h1
theorem qs_lnk {ct : List qC} (hV : ∀ c ∈ ct, qy_V ex Γ D as tys c) (hT : zk_t) (hA : zk_a) (hΓ : Γ.1 fc) {fuel k d : Nat} {cuts : List Nat} {pc : Nat} {G0 : qG} {W0 : List qE} {lo0 : qL} {st0 : List qV} {ends : List qEd} (h : q_lgk ct fuel p k d cuts pc G0 W0 lo0 st0 ends = true) : qy_TP ex D as tys d k fc ρ G0 W0 lo0 st0 pc (qP_l Γ fc ρ p ends) := by
  intro _ p' l e R s m args below meth cd A ws H locs cs sl ls sv Q Cx Dy hl hs hret
  have hex := Cx.2.2.2.2.2.2.1.1
  have hg0 := Dy.2.2.2.2.2
  unfold q_lgk at h
  cases hpl : Nat.ble p (zx_len G0.1) with
  | false => rw [hpl] at h; cases h
  | true =>
    rw [hpl, cond_true] at h
    have hpl := Nat.le_of_ble_eq_true hpl
    rw [zx_len_eq, hg0.1] at hpl
    obtain ⟨outs, o1, o2⟩ := q_okR_ok h
    have C2 : qy_C ex p' R s m args meth cd A (d, k, cuts) cs sl := Cx
    refine qs_go hV hT hA fuel _ _ _ _ _ _ _ o1 () (ρ := ρ) C2 Dy hl hs ⟨hΓ, ?_⟩
    intro z fc2 ρ2 ws2 H2 locs2 ⟨hz, hq2, hγ2⟩ Dz
    obtain ⟨x, hx⟩ := o2 z hz
    have hl2 : p ≤ ρ2.length := by obtain ⟨r, rfl⟩ := hq2; rw [List.length_append]; omega
    have ht : ρ2.take p = ρ.take p := by
      obtain ⟨r, rfl⟩ := hq2
      rw [List.take_append_of_le_length hpl]
    have hlt : (ρ.take p).length = p := by rw [List.length_take]; omega
    obtain ⟨c, hc, vals, hL, sg, r⟩ := q_lde_ok (fc := fc2) (tys := tys) (as := as) hex hl2 hq2 Dz.2.2.2.2.2 hx
    have hPl : qP_l Γ fc ρ p ends fc2 (ρ2.take p ++ vals) c.1 := by
      refine ⟨c, hc, rfl, hγ2, ?_, hL⟩
      rw [ht, List.take_append_of_le_length (by omega), List.take_of_length_le (by omega)]
    rcases r with ⟨rv0, rv, e1, e2, r1, r2, r3, r4, r5, r6⟩ | ⟨q0, q, e1, e2, e3, r1, r2, r3, r4, r5, r6⟩
    · have hh := hret c.1 fc2 (ρ2.take p ++ vals) ws2 H2 locs2 hPl ⟨Dz.1, Dz.2.1, Dz.2.2.1, Dz.2.2.2.1, r3 _ Dz.2.2.2.2.1, r2⟩
      refine ⟨fun rv' hrv pc' ls2 st2 hrt => hh.1 rv0 e1 pc' ls2 st2 ?_, fun pc' lo' st' hrv => ?_⟩
      · rw [e2] at hrv
        cases hrv
        rcases r6 with ⟨q1, q2⟩ | ⟨a, b, q1, q2, q3⟩
        · rw [q1]
          rw [q2] at hrt
          exact hrt
        · rw [q1]
          rw [q2] at hrt
          obtain ⟨v, v1, v2, v3⟩ := hrt
          exact ⟨v, v1, q3 v v2, v3⟩
      · rw [e2] at hrv
        cases hrv
    · have hh := hret c.1 fc2 (ρ2.take p ++ vals) ws2 H2 locs2 hPl ⟨Dz.1, Dz.2.1, Dz.2.2.1, Dz.2.2.2.1, r3 _ Dz.2.2.2.2.1, r2⟩
      refine ⟨fun rv' hrv => ?_, fun pc' lo' st' hrv ls2 sv2 hl2 hs2 => ?_⟩
      · rw [e2] at hrv
        cases hrv
      · rw [e2] at hrv
        cases hrv
        obtain ⟨q01, q02, q03⟩ := q0
        have e3 : q01 = pc' := e3
        subst e3
        exact hh.2 q01 q02 q03 e1 ls2 sv2 (r4 _ _ hl2) (r5 _ hs2)
/-! ways are put together -/
variable {d k pc : Nat} {g g' : qG} {w w' : List qE} {lo lo' : qL} {st st' : List qV} {P P1 P2 : qP}
theorem qy_TP.bind (h : qy_TP ex D as tys d k fc ρ g w lo st pc P1) (h2 : ∀ fc' ρ' o, P1 fc' ρ' o → (∃ ws, qy_w ρ' ex fc' tys as o.2.1 ws) → qy_g ρ' o.1 → (∀ rv, o.2.2 = .inl rv → P2 fc' ρ' o) ∧ ∀ q, o.2.2 = .inr q → qy_TP ex D as tys d k fc' ρ' o.1 o.2.1 q.2.1 q.2.2 q.1 P2) : qy_TP ex D as tys d k fc ρ g w lo st pc P2 := by
  intro _ p' l e R s m args below meth cd A ws H locs cs sl ls sv Q Cx Dy hl hs hret
  refine h () Cx Dy hl hs ?_
  intro o fc' ρ' ws' H' locs' hP Dy'
  obtain ⟨k1, k2⟩ := h2 fc' ρ' o hP ⟨ws', Dy'.2.2.2.2.1⟩ Dy'.2.2.2.2.2
  refine ⟨fun rv hrv pc' ls' st' hrt => (hret o fc' ρ' ws' H' locs' (k1 rv hrv) Dy').1 rv hrv pc' ls' st' hrt, fun pc' lo' st' hq ls' sv' hl' hs' => ?_⟩
  exact k2 (pc', lo', st') hq () Cx Dy' hl' hs' hret
theorem qy_TP.intro (h : (∃ ws, qy_w ρ ex fc tys as w ws) → qy_g ρ g → qy_TP ex D as tys d k fc ρ g w lo st pc P) : qy_TP ex D as tys d k fc ρ g w lo st pc P := by
  intro _ p' l e R s m args below meth cd A ws H locs cs sl ls sv Q Cx Dy hl hs hret
  exact h ⟨ws, Dy.2.2.2.2.1⟩ Dy.2.2.2.2.2 () Cx Dy hl hs hret
theorem qy_TP.pre (h : qy_TP ex D as tys d k fc' ρ' g' w' lo' st' pc P) (hw : ∀ ws, qy_w ρ ex fc tys as w ws → qy_w ρ' ex fc' tys as w' ws) (hg : qy_g ρ g → qy_g ρ' g') (hl : ∀ ls nL, qy_l ρ ex as ls nL lo → qy_l ρ' ex as ls nL lo') (hs : ∀ sv, qy_s ρ ex as st sv → qy_s ρ' ex as st' sv) : qy_TP ex D as tys d k fc ρ g w lo st pc P := by
  intro _ p' l e R s m args below meth cd A ws H locs cs sl ls sv Q Cx Dy hl2 hs2 hret
  exact h () Cx ⟨Dy.1, Dy.2.1, Dy.2.2.1, Dy.2.2.2.1, hw _ Dy.2.2.2.2.1, hg Dy.2.2.2.2.2⟩ (hl _ _ hl2) (hs _ hs2) hret
theorem qy_TP.post (h : qy_TP ex D as tys d k fc ρ g w lo st pc P1) (h2 : ∀ fc' ρ' o, P1 fc' ρ' o → P2 fc' ρ' o) : qy_TP ex D as tys d k fc ρ g w lo st pc P2 := by
  intro _ p' l e R s m args below meth cd A ws H locs cs sl ls sv Q Cx Dy hl hs hret
  exact h () Cx Dy hl hs (fun o f r ws' H' locs' hP => hret o f r ws' H' locs' (h2 f r o hP))
theorem qy_V.ofTP {c : qC} (h : ∀ fc ρ, Γ.1 fc → qy_TP ex D as tys c.2.1 c.1 fc ρ c.2.2.1 c.2.2.2.1 c.2.2.2.2.1 [] 0 (qP_o Γ fc ρ (q_po c))) : qy_V ex Γ D as tys c := by
  intro _ fc ρ p' l e R s m args below meth cd A ws H locs cs sl ls sv Q Cx Dy hl hs hret
  exact h fc ρ hret.1 () Cx Dy hl hs hret.2
theorem qy_TP.call {rk ci k' mx : Nat} {is : List Nat} (hM : zk_m k' 0 0 mx) (hcls : q_cls rk ci k') (runner : qy_run1 ex k pc rk k' is) {av : qL} {cs : List qV} (hlen : cs.length = is.length) (hcs : av.map Prod.snd = cs.reverse) (hdp : q_dep st ≤ 8) (hpos : q_pos mx av 0 = true) (hrc : q_rcw rk ci w av)
    (hT : qy_TP ex D as tys d k' fc ρ g w av [] 0 P1) (hno : ∀ fc' ρ' o, P1 fc' ρ' o → qe ρ ρ' ∧ ∃ rv, o.2.2 = .inl rv)
    (h2 : ∀ fc' ρ' o rv, P1 fc' ρ' o → o.2.2 = .inl rv → (∃ ws, qy_w ρ' ex fc' tys as o.2.1 ws) → qy_g ρ' o.1 → qy_TP ex D as tys (d + 1) k fc' ρ' o.1 o.2.1 lo (rv.toList ++ st) (pc + 3) P2) : qy_TP ex D as tys (d + 1) k fc ρ g w lo (cs ++ st) pc P2 := by
  intro _ p' l e R s m args below meth cd A ws H locs cells sl ls sv Q Cx Dy hl hs hret
  have hex := Cx.2.2.2.2.2.2.1.1
  have cut : ∀ {x y : List qV} {v : List Value}, qy_s ρ ex as (x ++ y) v → ∃ v1 v2, v = v1 ++ v2 ∧ v1.length = x.length ∧ qy_s ρ ex as x v1 ∧ qy_s ρ ex as y v2 := by
    intro x
    induction x with
    | nil => intro y v hv; exact ⟨[], v, rfl, rfl, trivial, hv⟩
    | cons a x ih =>
      intro y v hv
      match v, hv with
      | b :: v, ⟨hb, hv⟩ =>
        obtain ⟨v1, v2, e1, e2, e3, e4⟩ := ih hv
        exact ⟨b :: v1, v2, by rw [e1]; rfl, by simp [e2], ⟨hb, e3⟩, e4⟩
  have rev : ∀ {x : List qV} {v : List Value}, qy_s ρ ex as x v → qy_s ρ ex as x.reverse v.reverse := by
    have app : ∀ {x : List qV} {v : List Value} {a : qV} {b : Value}, qy_s ρ ex as x v → qy_v ρ ex as a b → qy_s ρ ex as (x ++ [a]) (v ++ [b]) := by
      intro x
      induction x with
      | nil =>
        intro v a b hv hb
        match v, hv with
        | [], _ => exact ⟨hb, trivial⟩
      | cons y x ih =>
        intro v a b hv hb
        match v, hv with
        | c :: v, ⟨h1, h2⟩ => exact ⟨h1, ih h2 hb⟩
    intro x
    induction x with
    | nil =>
      intro v hv
      match v, hv with
      | [], _ => trivial
    | cons a x ih =>
      intro v hv
      match v, hv with
      | b :: v, ⟨h1, h2⟩ =>
        rw [List.reverse_cons, List.reverse_cons]
        exact app (ih h2) h1
  obtain ⟨v1, v2, rfl, e2, e3, e4⟩ := cut hs
  refine qy_callP (fr := (d + 1, k, [])) hM hcls runner rfl rfl Cx Dy hl.1 (by rw [e2]; exact hlen) (by rw [hcs]; exact rev e3) (by rw [qy_dep hex e4]; exact hdp) hpos hrc hT (fun f r o ho => (hno f r o ho).2) (fun o rv fc' ρ' ws' H1 locs1 v hP hrv Dy' q7 => ?_)
  have q1 := (hno _ _ _ hP).1
  refine h2 fc' ρ' o rv hP hrv ⟨ws', Dy'.2.2.2.2.1⟩ Dy'.2.2.2.2.2 () Cx Dy' (hl.mono q1) ?_ hret
  cases rv with
  | none =>
    have hv : v = none := by
      have q7 : Outcome.returned v = Outcome.returned none := q7
      cases q7; rfl
    subst hv
    exact e4.mono q1
  | some a =>
    obtain ⟨u, u1, u2⟩ := q7
    cases u1
    exact ⟨u2, e4.mono q1⟩
end QHA
