/-! parts of a method: from a pattern at a place to patterns at others, or at ends; ranges by cases -/
abbrev qSg : Type := Nat × Nat × List Nat × Nat × qG × List qE × qL × List qV × List qO
noncomputable def q_lnd (p : Nat) (o : qO) (l : List qO) : qR := List.rec (motive := fun _ => qR) none (fun c _ ih => match c.2.2 with
  | .inl rv0 => (match o.2.2 with
    | .inl rv => q_mt p c.1 c.2.1 [] [] rv0 o.1 o.2.1 [] [] rv (fun _ => some []) ih
    | .inr _ => ih)
  | .inr q0 => (match o.2.2 with
    | .inl _ => ih
    | .inr q => cond (Nat.beq q0.1 q.1) (q_mt p c.1 c.2.1 q0.2.1 q0.2.2 none o.1 o.2.1 q.2.1 q.2.2 none (fun _ => some []) ih) ih)) l
noncomputable def q_sgk (ct : List qC) (fuel : Nat) (s : qSg) : Bool := match s with
  | (k, d, cuts, pc, G0, W0, lo0, st0, ends) => q_okR (fun o => q_lnd (zx_len G0.1) o ends) (q_go ct zx_xa0 fuel (d, k, cuts) G0 W0 lo0 st0 pc)
section QSG
variable {ρ : List Int} {ex : Nat → Value} {fc : Nat → Nat → Int32} {Γ : qΓ} {D : va_G} {as : List Nat} {tys : List (ClassId × FieldType)} {p : Nat}
theorem q_lnd_ok (hex : ∀ j, ex j = .null ∨ ∃ a, ex j = .ref a) (hp : p ≤ ρ.length) {z : qO} (hg : qy_g ρ z.1) : ∀ {l : List qO} {x : List qO}, q_lnd p z l = some x → ∃ c ∈ l, ∃ sg vals, (∃ rv0 rv, c.2.2 = .inl rv0 ∧ z.2.2 = .inl rv ∧ qM_res ρ ex fc as tys p c.1 c.2.1 [] [] rv0 z.2.1 [] [] rv sg vals) ∨ ∃ q0 q, c.2.2 = .inr q0 ∧ z.2.2 = .inr q ∧ q0.1 = q.1 ∧ qM_res ρ ex fc as tys p c.1 c.2.1 q0.2.1 q0.2.2 none z.2.1 q.2.1 q.2.2 none sg vals
  | [], x, h => by cases h
  | c :: l, x, h => by
    have rest : q_lnd p z l = some x → ∃ c' ∈ c :: l, ∃ sg vals, (∃ rv0 rv, c'.2.2 = .inl rv0 ∧ z.2.2 = .inl rv ∧ qM_res ρ ex fc as tys p c'.1 c'.2.1 [] [] rv0 z.2.1 [] [] rv sg vals) ∨ ∃ q0 q, c'.2.2 = .inr q0 ∧ z.2.2 = .inr q ∧ q0.1 = q.1 ∧ qM_res ρ ex fc as tys p c'.1 c'.2.1 q0.2.1 q0.2.2 none z.2.1 q.2.1 q.2.2 none sg vals := fun hh => by
      obtain ⟨c', c1, c2⟩ := q_lnd_ok hex hp hg (l := l) hh
      exact ⟨c', List.mem_cons_of_mem _ c1, c2⟩
    obtain ⟨G, w, r⟩ := c
    obtain ⟨g, w2, r2⟩ := z
    cases r with
    | inl rv0 =>
      cases r2 with
      | inl rv =>
        rcases q_mt_ok (fc := fc) (tys := tys) (as := as) hex hp hg (show q_mt p G w [] [] rv0 g w2 [] [] rv (fun _ => some []) (q_lnd p (g, w2, .inl rv) l) = some x from h) with ⟨sg, vals, h1, -⟩ | h1
        · exact ⟨_, List.mem_cons_self, sg, vals, Or.inl ⟨rv0, rv, rfl, rfl, h1⟩⟩
        · exact rest h1
      | inr q => exact rest h
    | inr q0 =>
      cases r2 with
      | inl rv => exact rest h
      | inr q =>
        rcases q_if (show cond (Nat.beq q0.1 q.1) (q_mt p G w q0.2.1 q0.2.2 none g w2 q.2.1 q.2.2 none (fun _ => some []) (q_lnd p (g, w2, .inr q) l)) (q_lnd p (g, w2, .inr q) l) = some x from h) with ⟨hb, h1⟩ | ⟨hb, h1⟩
        · rcases q_mt_ok (fc := fc) (tys := tys) (as := as) hex hp hg h1 with ⟨sg, vals, h2, -⟩ | h2
          · exact ⟨_, List.mem_cons_self, sg, vals, Or.inr ⟨q0, q, rfl, rfl, Nat.eq_of_beq_eq_true hb, h2⟩⟩
          · exact rest h2
        · exact rest h1
theorem qs_seg {ct : List qC} (hV : ∀ c ∈ ct, qy_V ex Γ D as tys c) (hT : zk_t) (hA : zk_a) {fuel k d : Nat} {cuts : List Nat} {pc : Nat} {G0 : qG} {W0 : List qE} {lo0 : qL} {st0 : List qV} {ends : List qO} (h : q_sgk ct fuel (k, d, cuts, pc, G0, W0, lo0, st0, ends) = true) : qy_T ex Γ D as tys (d, k, cuts) G0 W0 lo0 st0 pc ends := by
  intro _ fc ρ0 p l e R s m args below meth cd A ws H locs cs sl ls sv Q Cx Dy hl hs hret
  have hex := Cx.2.2.2.2.2.2.1.1
  have hg0 := Dy.2.2.2.2.2
  have hlen : zx_len G0.1 = ρ0.length := by rw [zx_len_eq]; exact hg0.1
  have h : q_okR (fun o => q_lnd (zx_len G0.1) o ends) (q_go ct zx_xa0 fuel (d, k, cuts) G0 W0 lo0 st0 pc) = true := h
  rw [hlen] at h
  obtain ⟨outs, o1, o2⟩ := q_okR_ok h
  refine qs_go hV hT hA fuel _ _ _ _ _ _ _ o1 () (ρ := ρ0) Cx Dy hl hs ⟨hret.1, ?_⟩
  intro z fc2 ρ' ws2 H2 locs2 ⟨hz, hq2, hγ2⟩ Dz
  obtain ⟨x, hx⟩ := o2 z hz
  obtain ⟨t1, t2⟩ := q_take hq2
  obtain ⟨c, hc, sg, vals, r⟩ := q_lnd_ok (fc := fc2) (tys := tys) (as := as) hex t2 Dz.2.2.2.2.2 hx
  rcases r with ⟨rv0, rv, e1, e2, r1, r2, r3, r4, r5, r6⟩ | ⟨q0, q, e1, e2, e3, r1, r2, r3, r4, r5, r6⟩
  · rw [t1] at r2 r3 r4 r5 r6
    have hh := hret.2 c fc2 (ρ0 ++ vals) ws2 H2 locs2 ⟨hc, ⟨vals, rfl⟩, hγ2⟩ ⟨Dz.1, Dz.2.1, Dz.2.2.1, Dz.2.2.2.1, r3 _ Dz.2.2.2.2.1, r2⟩
    refine ⟨fun rv' hrv pc' ls2 st2 hrt => hh.1 rv0 e1 pc' ls2 st2 ?_, fun pc' lo' st' hrv => ?_⟩
    · rw [e2] at hrv
      cases hrv
      rcases r6 with ⟨q1, q2⟩ | ⟨a, b, q1, q2, q3⟩
      · rw [q1]
        rw [q2] at hrt
        exact hrt
      · rw [q1]
        rw [q2] at hrt
        obtain ⟨v, v1, v2, v3⟩ := hrt
        exact ⟨v, v1, q3 v v2, v3⟩
    · rw [e2] at hrv
      cases hrv
  · rw [t1] at r2 r3 r4 r5
    have hh := hret.2 c fc2 (ρ0 ++ vals) ws2 H2 locs2 ⟨hc, ⟨vals, rfl⟩, hγ2⟩ ⟨Dz.1, Dz.2.1, Dz.2.2.1, Dz.2.2.2.1, r3 _ Dz.2.2.2.2.1, r2⟩
    refine ⟨fun rv' hrv => ?_, fun pc' lo' st' hrv ls2 sv2 hl2 hs2 => ?_⟩
    · rw [e2] at hrv
      cases hrv
    · rw [e2] at hrv
      cases hrv
      obtain ⟨q01, q02, q03⟩ := q0
      have e3 : q01 = pc' := e3
      subst e3
      exact hh.2 q01 q02 q03 e1 ls2 sv2 (r4 _ _ hl2) (r5 _ hs2)
/-- a contract by cases of its start -/
theorem qy_V_cases {c : qC} (h : ∀ ρ, qy_g ρ c.2.2.1 → ∃ G, qy_g ρ G ∧ qy_V ex Γ D as tys (c.1, c.2.1, G, c.2.2.2.1, c.2.2.2.2.1, c.2.2.2.2.2)) : qy_V ex Γ D as tys c := by
  intro _ fc ρ0 p l e R s m args below meth cd A ws H locs cs sl ls sv Q Cx Dy hl hs hret
  obtain ⟨G, hG, hV⟩ := h ρ0 Dy.2.2.2.2.2
  exact hV () (ρ := ρ0) Cx ⟨Dy.1, Dy.2.1, Dy.2.2.1, Dy.2.2.2.1, Dy.2.2.2.2.1, hG⟩ hl hs hret
/-- one symbol's range narrowed to one number -/
def q_nw (g : List (Int × Int)) (i : Nat) (z : Int) : List (Int × Int) := g.set i (z, z)
theorem qy_g_nw {g : qG} (hg : qy_g ρ g) {i : Nat} {lo hi : Int} (hgi : g.1[i]? = some (lo, hi)) : ∃ z, lo ≤ z ∧ z ≤ hi ∧ qy_g ρ (q_nw g.1 i z, g.2) := by
  obtain ⟨r, r1, r2, r3⟩ := hg.2.1 i _ hgi
  refine ⟨r, r2, r3, ?_, fun j q hq => ?_, hg.2.2⟩
  · show (g.1.set i (r, r)).length = _
    rw [List.length_set]
    exact hg.1
  · have hq2 : (g.1.set i (r, r))[j]? = some q := hq
    clear hq
    rw [List.getElem?_set] at hq2
    by_cases e : i = j
    · subst e
      rw [if_pos rfl] at hq2
      by_cases e2 : i < g.1.length
      · rw [if_pos e2] at hq2
        cases hq2
        exact ⟨r, r1, Int.le_refl _, Int.le_refl _⟩
      · rw [if_neg e2] at hq2
        cases hq2
    · rw [if_neg e] at hq2
      exact hg.2.1 j q hq2
end QSG
