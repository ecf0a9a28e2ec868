/-! pictures over fewer numbers; ghosts by other names (DRAFT, not compiled yet) -/
def q_syv (n : Nat) (v : qV) : Bool := match v with
  | .inr (.inl q) => Nat.ble (Nat.succ q.1) n
  | .inr (.inr (.inr (.inr (.inr (.inl s))))) => Nat.ble (Nat.succ s) n
  | _ => true
def q_syp (n : Nat) (l : List (qV × qV)) : Bool := l.all fun u => q_syv n u.1 && q_syv n u.2
def q_sye (n : Nat) (e : qE) : Bool := match e with
  | .inl q => q.2.all (q_syv n)
  | .inr (.inl q) => q.2.all (q_syv n)
  | .inr (.inr (.inl q)) => q_syp n q.2.2.2
  | .inr (.inr (.inr q)) => q_syp n q.2.2.2.1 && q_syp n q.2.2.2.2
section QDN
variable {ρ xs : List Int} {ex : Nat → Value} {fc fc' : Nat → Nat → Int32} {as : List Nat} {tys : List (ClassId × FieldType)}
theorem qy_v.dn {a : qV} {v : Value} (h : q_syv ρ.length a = true) (hv : qy_v (ρ ++ xs) ex as a v) : qy_v ρ ex as a v := by
  match a, h, hv with
  | .inl _, _, hv => exact hv
  | .inr (.inl q), h, ⟨x, r, e1, e2, e3⟩ =>
    have hl : q.1 < ρ.length := Nat.le_of_ble_eq_true h
    rw [List.getElem?_append_left hl] at e2
    exact ⟨x, r, e1, e2, e3⟩
  | .inr (.inr (.inl none)), _, hv => exact hv
  | .inr (.inr (.inl (some k))), _, hv => exact hv
  | .inr (.inr (.inr (.inl _))), _, hv => exact hv
  | .inr (.inr (.inr (.inr (.inl _)))), _, hv => exact hv
  | .inr (.inr (.inr (.inr (.inr (.inl s))))), h, ⟨x, r, e1, e2, e3⟩ =>
    have hl : s < ρ.length := Nat.le_of_ble_eq_true h
    rw [List.getElem?_append_left hl] at e2
    exact ⟨x, r, e1, e2, e3⟩
  | .inr (.inr (.inr (.inr (.inr (.inr (.inl _)))))), _, hv => exact hv
  | .inr (.inr (.inr (.inr (.inr (.inr (.inr _)))))), _, hv => exact hv
theorem qy_s.dn : ∀ {st : List qV} {t : List Value}, st.all (q_syv ρ.length) = true → qy_s (ρ ++ xs) ex as st t → qy_s ρ ex as st t
  | [], [], _, _ => trivial
  | a :: r, v :: t, h, ⟨h1, h2⟩ => by
    obtain ⟨k1, k2⟩ := Bool.and_eq_true_iff.mp (show (q_syv ρ.length a && r.all (q_syv ρ.length)) = true from h)
    exact ⟨h1.dn k1, qy_s.dn k2 h2⟩
theorem qy_e.dn {e : qE} {q : va_E} (h : q_sye ρ.length e = true) (he : qy_e (ρ ++ xs) ex fc tys as e q) : qy_e ρ ex fc tys as e q := by
  have pr : ∀ {l : List (qV × qV)}, q_syp ρ.length l = true → ∀ u ∈ l, q_syv ρ.length u.1 = true ∧ q_syv ρ.length u.2 = true := fun hl u hu => Bool.and_eq_true_iff.mp (List.all_eq_true.mp hl u hu)
  match e, q, h, he with
  | .inl (t, vs), .inl (cA, n, .inl f), h, ⟨h1, h2, h3, h4⟩ => exact ⟨h1, h2, h3, fun j a ha => (h4 j a ha).dn (List.all_eq_true.mp h a (List.mem_of_getElem? ha))⟩
  | .inr (.inl (c, fs)), .inr (c', gs), h, ⟨h1, h2⟩ => exact ⟨h1, h2.dn h⟩
  | .inr (.inr (.inl (t, N, sg, kn))), .inl (cA, n, .inl f), h, ⟨h1, h2, h3, h4, h5⟩ =>
    exact ⟨h1, h2, h3, h4, fun u hu => by
      obtain ⟨x, a1, a2, a3, a4⟩ := h5 u hu
      exact ⟨x, a1.dn (pr h u hu).1, a2, a3, a4.dn (pr h u hu).2⟩⟩
  | .inr (.inr (.inl (t, N, sg, kn))), .inl (cA, n, .inr (.inl f)), h, he => exact he
  | .inr (.inr (.inr (t, N, κ, kn, ov))), .inl (cA, n, .inl f), h, ⟨h1, h2, h3, h4, h5⟩ =>
    obtain ⟨k1, k2⟩ := Bool.and_eq_true_iff.mp h
    refine ⟨h1, h2, h3, fun u hu => ?_, ?_⟩
    · obtain ⟨x, a1, a2, a3, a4⟩ := h4 u hu
      exact ⟨x, a1.dn (pr k1 u hu).1, a2, a3, a4.dn (pr k1 u hu).2⟩
    · match ov, h5, k2 with
      | [], h5, _ => exact h5
      | u :: l, ⟨x, y, b1, b2, b3, b4, b5⟩, k2 => exact ⟨x, y, b1.dn (pr k2 u List.mem_cons_self).1, b2, b3, b4.dn (pr k2 u List.mem_cons_self).2, b5⟩
theorem qy_w.dn {w : List qE} {ws : va_W} (h : w.all (q_sye ρ.length) = true) (hw : qy_w (ρ ++ xs) ex fc tys as w ws) : qy_w ρ ex fc tys as w ws :=
  ⟨hw.1, hw.2.1, fun k e hk => by
    obtain ⟨q, a, h1, h2, h3⟩ := hw.2.2 k e hk
    exact ⟨q, a, h1, h2, h3.dn (List.all_eq_true.mp h e (List.mem_of_getElem? hk))⟩⟩
/-- a ghost by another name -/
def q_ren (r : Nat → Nat) (e : qE) : qE := match e with
  | .inr (.inr (.inr q)) => .inr (.inr (.inr (q.1, q.2.1, r q.2.2.1, q.2.2.2.1, q.2.2.2.2)))
  | e => e
theorem qy_w.ren {r : Nat → Nat} {w : List qE} {ws : va_W} (h : ∀ t N κ kn ov, (.inr (.inr (.inr (t, N, κ, kn, ov))) : qE) ∈ w → fc' (r κ) = fc κ) (hw : qy_w ρ ex fc tys as w ws) : qy_w ρ ex fc' tys as (w.map (q_ren r)) ws := by
  refine ⟨by rw [List.length_map]; exact hw.1, by rw [List.length_map]; exact hw.2.1, fun k e hk => ?_⟩
  rw [List.getElem?_map] at hk
  cases hz : w[k]? with
  | none => rw [hz] at hk; cases hk
  | some z =>
    rw [hz] at hk
    have hk : q_ren r z = e := Option.some.inj hk
    obtain ⟨q, a, h1, h2, h3⟩ := hw.2.2 k z hz
    refine ⟨q, a, h1, h2, ?_⟩
    rw [← hk]
    match z, q, hz, h3 with
    | .inl (t, vs), .inl (cA, n, .inl f), _, h3 => exact h3
    | .inr (.inl (c, fs)), .inr (c', gs), _, h3 => exact h3
    | .inr (.inr (.inl (t, N, sg, kn))), .inl (cA, n, .inl f), _, h3 => exact h3
    | .inr (.inr (.inl (t, N, sg, kn))), .inl (cA, n, .inr (.inl f)), _, h3 => exact h3
    | .inr (.inr (.inr (t, N, κ, kn, ov))), .inl (cA, n, .inl f), hz, ⟨k1, k2, k3, k4, k5⟩ =>
      have e1 := h t N κ kn ov (List.mem_of_getElem? hz)
      refine ⟨k1, k2, k3, ?_, ?_⟩
      · show ∀ u ∈ kn, ∃ x : Int32, qy_v ρ ex as u.1 (.int x) ∧ 0 ≤ x.toInt ∧ x.toInt < N ∧ qy_v ρ ex as u.2 (.int (fc' (r κ) x.toInt.toNat))
        rw [e1]
        exact k4
      · show qy_o ρ ex as N (fc' (r κ)) f ov
        rw [e1]
        exact k5
end QDN
section QCV
variable {ρ : List Int} {ex : Nat → Value} {fc : Nat → Nat → Int32} {D : va_G} {as : List Nat} {tys : List (ClassId × FieldType)} {d k pc : Nat} {g : qG} {w : List qE} {lo : qL} {st : List qV} {P1 P2 : qP}
/-- a method's ends, seen by other numbers and other ghosts -/
theorem qy_TP.conv (h : qy_TP ex D as tys d k fc ρ g w lo st pc P1) (hc : ∀ fc' ρ' o, P1 fc' ρ' o → qy_g ρ' o.1 → o.2.2 = .inl none ∧ ∃ fc2 ρ2 g2 w2, P2 fc2 ρ2 (g2, w2, .inl none) ∧ (∀ ws, qy_w ρ' ex fc' tys as o.2.1 ws → qy_w ρ2 ex fc2 tys as w2 ws) ∧ qy_g ρ2 g2) : qy_TP ex D as tys d k fc ρ g w lo st pc P2 := by
  intro _ p' l e R s m args below meth cd A ws H locs cs sl ls sv Q Cx Dy hl hs hret
  refine h () Cx Dy hl hs ?_
  intro o fc' ρ' ws' H' locs' hP Dy'
  obtain ⟨e1, fc2, ρ2, g2, w2, hP2, hw2, hg2⟩ := hc fc' ρ' o hP Dy'.2.2.2.2.2
  refine ⟨fun rv hrv pc' ls' st' hrt => ?_, fun pc' lo' st' hq => ?_⟩
  · rw [e1] at hrv
    cases hrv
    exact (hret (g2, w2, .inl none) fc2 ρ2 ws' H' locs' hP2 ⟨Dy'.1, Dy'.2.1, Dy'.2.2.1, Dy'.2.2.2.1, hw2 _ Dy'.2.2.2.2.1, hg2⟩).1 none rfl pc' ls' st' hrt
  · rw [e1] at hq
    cases hq
end QCV
/-- what readRule() does to the ghosts: a program is there, or a FAULT was met -/
def hr_new (a b rb : Nat) (fc fc' : Nat → Nat → Int32) : Prop := (∀ κ, κ ≤ 4 → fc' κ = fc κ) ∧
  ((∃ M : Nat, M ≤ 280 ∧ hc_w (fc' 10) a M ∧ (fc' 12 rb).toInt = a ∧ (fc' 13 rb).toInt = a + M ∧ (∀ j, (j < a ∨ a + 560 ≤ j) → fc' 10 j = fc 0 j) ∧ fc' 12 b = fc 2 b ∧ fc' 13 b = fc 3 b ∧ fc' 20 = fc 20 ∧ fc' 22 = fc 22 ∧ fc' 23 = fc 23) ∨
   ((∀ j, (j < a ∨ a + 560 ≤ j) → fc' 20 j = fc 0 j) ∧ fc' 22 b = fc 2 b ∧ fc' 23 b = fc 3 b ∧ fc' 10 = fc 10 ∧ fc' 12 = fc 12 ∧ fc' 13 = fc 13))
section QGD
/-- the first numbers alone -/
theorem qy_g.dn {ρ xs : List Int} {g g' : qG} (h : qy_g (ρ ++ xs) g) (h1 : q_gto [] 0 (g.1.take g'.1.length) g'.1 = true) (h2 : g'.1.length = ρ.length) (h3 : q_fto g.2 g'.2 [] = true) (h4 : (g'.2.all fun f => Nat.ble (Nat.succ f.2.1) ρ.length && Nat.ble (Nat.succ f.2.2.2.1) ρ.length) = true) : qy_g ρ g' := by
  refine ⟨h2, fun j s hs => ?_, fun f hf => ?_⟩
  · have hj := (List.getElem?_eq_some_iff.mp hs).1
    rcases q_gto_ok h1 j s hs with ⟨r, r1, r2, r3⟩ | ⟨q, q1, -⟩
    · rw [List.getElem?_take, if_pos hj] at r1
      obtain ⟨z, z1, z2, z3⟩ := h.2.1 j r r1
      rw [List.getElem?_append_left (by omega)] at z1
      exact ⟨z, z1, by omega, by omega⟩
    · cases q1
  · obtain ⟨k1, k2⟩ := Bool.and_eq_true_iff.mp (List.all_eq_true.mp h4 f hf)
    have k1 : f.2.1 < ρ.length := Nat.le_of_ble_eq_true k1
    have k2 : f.2.2.2.1 < ρ.length := Nat.le_of_ble_eq_true k2
    rcases Bool.or_eq_true_iff.mp (List.all_eq_true.mp h3 f hf) with hh | hh
    · obtain ⟨u, u1, u2⟩ := List.any_eq_true.mp hh
      obtain ⟨r1, r2, a1, a2, a3⟩ := q_fe_ok u2 (h.2.2 u u1)
      rw [List.getElem?_append_left k1] at a1
      rw [List.getElem?_append_left k2] at a2
      exact ⟨r1, r2, a1, a2, a3⟩
    · obtain ⟨u, u1, -⟩ := List.any_eq_true.mp hh
      cases u1
end QGD
