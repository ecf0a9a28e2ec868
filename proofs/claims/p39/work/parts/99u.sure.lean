/-! sure() of the reference by hand, by program (wip/p44/emsure.py) -/
def q_fz (fc : Nat → Nat → Int32) (κ : Nat) (f : Nat → Int32) : Nat → Nat → Int32 := fun κ' => if κ' = κ then f else fc κ'
theorem q_fz_ne {fc : Nat → Nat → Int32} {κ κ' : Nat} {f : Nat → Int32} (h : κ' ≠ κ) : q_fz fc κ f κ' = fc κ' := if_neg h
section QFZ
variable {ρ : List Int} {ex : Nat → Value} {fc fc' : Nat → Nat → Int32} {D : va_G} {as : List Nat} {tys : List (ClassId × FieldType)}
/-- an array's content is given a name -/
theorem qy_w.fz {w : List qE} {ws : va_W} (h : qy_w ρ ex fc tys as w ws) {c t N : Nat} {sg : qS} (κ : Nat) (hc : w[c]? = some (.inr (.inr (.inl (t, N, sg, []))))) (ht : t < 3) (hn : w.all (q_nok κ) = true) : ∃ f : Nat → Int32, (∀ j, j < N → qy_i sg j (f j).toInt) ∧ qy_w ρ ex (q_fz fc κ f) tys as (w.set c (.inr (.inr (.inr (t, N, κ, [], []))))) ws := by
  obtain ⟨q0, a0, z1, z2, z3⟩ := h.2.2 c _ hc
  have key : ∃ (cA : ClassId) (f : Nat → Int32), q0 = .inl (cA, N, .inl f) ∧ (∃ i : Nat, tys[i]? = some (cA, zx_ft t)) ∧ ∀ j, j < N → qy_i sg j (f j).toInt := by
    match q0, z3 with
    | .inl (cA, n, .inl f), ⟨k1, k2, k3, k4, k5⟩ => subst k3; exact ⟨cA, f, rfl, k2, k4⟩
    | .inl (cA, n, .inr (.inl f)), ⟨k1, k2, k3, k4⟩ => omega
  obtain ⟨cA, f, e, k2, k4⟩ := key
  rw [e] at z2
  refine ⟨f, k4, by rw [List.length_set]; exact h.1, by rw [List.length_set]; exact h.2.1, fun k x hx => ?_⟩
  rw [List.getElem?_set] at hx
  by_cases hk : c = k
  · rw [if_pos hk] at hx
    split at hx
    · cases hx
      refine ⟨.inl (cA, N, .inl f), a0, by rw [← hk]; exact z1, by rw [← hk]; exact z2, ?_⟩
      have hf : ∀ j, j < N → f j = q_fz fc κ f κ j := fun j _ => by
        unfold q_fz
        rw [if_pos rfl]
      exact ⟨ht, k2, rfl, fun u hu => (by cases hu), hf⟩
    · cases hx
  · rw [if_neg hk] at hx
    obtain ⟨q, a, h1, h2, h3⟩ := h.2.2 k x hx
    exact ⟨q, a, h1, h2, qy_e_gh (List.all_eq_true.mp hn x (List.mem_of_getElem? hx)) (fun κ' j hk' => by rw [q_fz_ne hk']) h3⟩
/-- and forgotten again -/
theorem qy_w.uf {w : List qE} {ws : va_W} (h : qy_w ρ ex fc tys as w ws) {c t N κ : Nat} {sg : qS} (hc : w[c]? = some (.inr (.inr (.inr (t, N, κ, [], []))))) (hr : ∀ j, j < N → qy_i sg j (fc κ j).toInt) : qy_w ρ ex fc tys as (w.set c (.inr (.inr (.inl (t, N, sg, []))))) ws := by
  refine h.chg hc (fun q hq => ?_)
  match q, hq with
  | .inl (cA, n, .inl f), ⟨h1, h2, h3, h4, h5⟩ => exact ⟨h1, h2, h3, fun j hj => by rw [h5 j hj]; exact hr j hj, fun u hu => (by cases hu)⟩
theorem qy_TP.some {d k pc : Nat} {g : qG} {w w' : List qE} {lo : qL} {st : List qV} {P : qP} (h : ∀ ws, qy_w ρ ex fc tys as w ws → ∃ fc', qy_w ρ ex fc' tys as w' ws ∧ qy_TP ex D as tys d k fc' ρ g w' lo st pc P) : qy_TP ex D as tys d k fc ρ g w lo st pc P := by
  intro _ p' l e R s m args below meth cd A ws H locs cs sl ls sv Q Cx Dy hl hs hret
  obtain ⟨fc', hw', hT⟩ := h ws Dy.2.2.2.2.1
  exact hT () Cx ⟨Dy.1, Dy.2.1, Dy.2.2.1, Dy.2.2.2.1, hw', Dy.2.2.2.2.2⟩ hl hs hret
theorem qy_TP.dep {d d0 k pc : Nat} {g : qG} {w : List qE} {lo : qL} {st : List qV} {P : qP} (h : qy_TP ex D as tys d0 k fc ρ g w lo st pc P) (hd : d0 ≤ d) : qy_TP ex D as tys d k fc ρ g w lo st pc P := by
  intro _ p' l e R s m args below meth cd A ws H locs cs sl ls sv Q Cx Dy hl hs hret
  exact h () (Cx.le hd) Dy hl hs hret
end QFZ
theorem q_i32bd (x : Int32) : (-2147483648 : Int) ≤ x.toInt ∧ x.toInt ≤ 2147483647 := ⟨Int32.le_toInt x, by have := Int32.toInt_lt x; omega⟩
/-- one of what was told fits with a guess -/
def hs_ok (fc : Nat → Nat → Int32) (k v : Int) (j : Nat) : Prop := k < (fc 34 j).toInt ∨ (0 ≤ (fc 35 j).toInt ∧ (fc 35 j).toInt ≤ k) ∨ ((fc 32 j).toInt ≤ (fc 30 (5 * v + (fc 31 j).toInt).toNat).toInt ∧ (fc 33 j).toInt = 1) ∨ ((fc 30 (5 * v + (fc 31 j).toInt).toNat).toInt < (fc 32 j).toInt ∧ (fc 33 j).toInt = 0)
/-- the kinds of the six arrays -/
def hs_R (fc : Nat → Nat → Int32) : Prop := (∀ j, j < 155 → qy_i [(1, .ofNat 0, .ofNat 99)] j (fc 30 j).toInt) ∧ (∀ j, j < 30 → qy_i [(1, .ofNat 0, .ofNat 4)] j (fc 31 j).toInt) ∧ (∀ j, j < 30 → qy_i [(1, .negSucc 2147483647, .ofNat 2147483647)] j (fc 32 j).toInt) ∧ (∀ j, j < 30 → qy_i [(1, .negSucc 2147483647, .ofNat 2147483647)] j (fc 33 j).toInt) ∧ (∀ j, j < 30 → qy_i [(1, .negSucc 2147483647, .ofNat 2147483647)] j (fc 34 j).toInt) ∧ (∀ j, j < 30 → qy_i [(1, .negSucc 2147483647, .ofNat 2147483647)] j (fc 35 j).toInt)
theorem hs_R.c {fc : Nat → Nat → Int32} (h : hs_R fc) {j : Nat} (hj : j < 30) : 0 ≤ (fc 31 j).toInt ∧ (fc 31 j).toInt ≤ 4 := by
  have h1 := h.2.1 j hj
  have h2 := q_fa_lo (a := 0) (b := 0) (r := j % q_pd [(1, .ofNat 0, .ofNat 4)]) (Nat.zero_le _) (by show j % 1 ≤ 0; omega) h1 (Nat.zero_le _) (by show j % 1 < 0 + 1; omega)
  exact h2
def hs_F (fc : Nat → Nat → Int32) (k se v : Int) : Prop := ∀ i : Nat, (i : Int) < se → hs_ok fc k v i
section zUS0
variable {ex : Nat → Value} {Γ : qΓ} {D : va_G} {as : List Nat} {tys : List (ClassId × FieldType)}
def zUDP0 (fc : Nat → Nat → Int32) (ρ0 : List Int) (k se v : Int) : qP := fun fc' ρ' o => fc' = fc ∧ ρ' = ρ0 ∧ ((o = (zUT_u0D1.1, zUT_u0D1.2.1, .inl (some (.inl 1))) ∧ hs_F fc k se v) ∨ (o = (zUT_u0D1.1, zUT_u0D1.2.1, .inl (some (.inl 0))) ∧ ¬ hs_F fc k se v))
theorem zUd0 (hT : zk_t) (hA : zk_a) {fc : Nat → Nat → Int32} (hR : hs_R fc) {ρ0 : List Int} (hl0 : ρ0.length = 53) {k se v : Int} (hk : ρ0[45]? = some k) (hse : ρ0[22]? = some se) (hv : ρ0[52]? = some v) (hs30 : se ≤ 30) (hv0 : 0 ≤ v) (hv30 : v ≤ 30) : ∀ (r : Nat) (ρ : List Int) (j : Nat), ρ.take 53 = ρ0 → ρ[53]? = some (j : Int) → (j : Int) + (r : Int) = se → (∀ i : Nat, i < j → hs_ok fc k v i) → qy_TP ex D as tys 10 201 fc ρ zUT_u0DH.1 zUT_u0DH.2.1 zUT_u0DH.2.2.1 zUT_u0DH.2.2.2 2 (zUDP0 fc ρ0 k se v) := by
  intro r
  induction r with
  | zero =>
    intro ρ j ht hj hr hok
    have gs := q_tkb ht hse
    refine qy_TP.pre (ρ' := ρ) (g' := zUT_u0s_dx.1) (w' := zUT_u0s_dx.2.1) (lo' := zUT_u0s_dx.2.2.1) (st' := zUT_u0s_dx.2.2.2) ?_ (fun ws h => h) (fun h => h.to0 [] [((.ofNat 1), 53, (.negSucc 0), 22, (.ofNat 0))] (by decide +kernel) rfl (by decide +kernel) fa_nil (fa_cons ⟨_, _, hj, gs, by show (0 : Int) ≤ 1 * (j : Int) + (-1) * se; omega⟩ fa_nil)) (fun _ _ h => h) (fun _ h => h)
    refine qs_lnkB (p := 53) (ρ := ρ) fa_nil hT hA zUg_u0dx (fa_cons (fun ρ1 ht1 hL hg1 _ => ⟨fun rv hrv => ?r0, fun q hq => ?c0⟩) fa_nil)
    case r0 =>
      have hl1 : ρ1.length = 53 := hg1.len rfl
      exact ⟨rfl, by rw [← ht, ← ht1, List.take_of_length_le (by omega)], Or.inl ⟨rfl, fun i hi => hok i (by omega)⟩⟩
    case c0 =>
      have hq : (Sum.inl _ : Option qV ⊕ (Nat × qL × List qV)) = Sum.inr q := hq
      cases hq
  | succ r ih =>
    intro ρ j ht hj hr hok
    refine qy_TP.intro fun _ hgD => ?_
    have hl : ρ.length = 54 := hgD.len rfl
    have hj30 : j < 30 := by omega
    obtain ⟨hc0, hc4⟩ := hR.c hj30
    have hlst : ∃ xs : List Int, xs = [(fc 34 j).toInt, (fc 35 j).toInt, (fc 32 j).toInt, (fc 33 j).toInt, (fc 30 (5 * v + (fc 31 j).toInt).toNat).toInt] := ⟨_, rfl⟩
    obtain ⟨xs, hxs⟩ := hlst
    have he : qe ρ (ρ ++ xs) := ⟨xs, rfl⟩
    have xa : (ρ ++ xs)[54]? = some (fc 34 j).toInt := by rw [hxs, List.getElem?_append_right (by omega), hl]; rfl
    have xu : (ρ ++ xs)[55]? = some (fc 35 j).toInt := by rw [hxs, List.getElem?_append_right (by omega), hl]; rfl
    have xm : (ρ ++ xs)[56]? = some (fc 32 j).toInt := by rw [hxs, List.getElem?_append_right (by omega), hl]; rfl
    have xi : (ρ ++ xs)[57]? = some (fc 33 j).toInt := by rw [hxs, List.getElem?_append_right (by omega), hl]; rfl
    have xh : (ρ ++ xs)[58]? = some (fc 30 (5 * v + (fc 31 j).toInt).toNat).toInt := by rw [hxs, List.getElem?_append_right (by omega), hl]; rfl
    have xj := he.at hj
    have xk := he.at (q_tkb ht hk)
    have xs_ := he.at (q_tkb ht hse)
    have xv := he.at (q_tkb ht hv)
    have hij : (Int32.ofInt (j : Int)).toInt = (j : Int) := q_i32of (by omega) (by omega)
    have hlx : xs.length = 5 := by rw [hxs]; rfl
    have hwA : ∀ ws, qy_w ρ ex fc tys as zUT_u0DH.2.1 ws → qy_w (ρ ++ xs) ex fc tys as ((zUT_u0DH.2.1.set 31 (.inr (.inr (.inr (0, 30, 34, [(qa 53, qa 54)], []))))).set 32 (.inr (.inr (.inr (0, 30, 35, [(qa 53, qa 55)], []))))) ws := fun ws h => ((h.mono he).chg (i := 31) (e := (.inr (.inr (.inr (0, 30, 34, [], []))))) rfl (fun q hq => qy_knw (i := Int32.ofInt (j : Int)) (qy_kns (by rw [hij]; exact xj)) (by rw [hij]; omega) (by rw [hij]; show (j : Int) < 30; omega) (by rw [hij, Int.toNat_natCast]; exact qy_kns xa) hq)).chg (i := 32) (e := (.inr (.inr (.inr (0, 30, 35, [], []))))) rfl (fun q hq => qy_knw (i := Int32.ofInt (j : Int)) (qy_kns (by rw [hij]; exact xj)) (by rw [hij]; omega) (by rw [hij]; show (j : Int) < 30; omega) (by rw [hij, Int.toNat_natCast]; exact qy_kns xu) hq)
    have hwC0 : (fc 31 j).toInt = 0 → ∀ ws, qy_w ρ ex fc tys as zUT_u0DH.2.1 ws → qy_w (ρ ++ xs) ex fc tys as ((((((zUT_u0DH.2.1.set 31 (.inr (.inr (.inr (0, 30, 34, [(qa 53, qa 54)], []))))).set 32 (.inr (.inr (.inr (0, 30, 35, [(qa 53, qa 55)], []))))).set 28 (.inr (.inr (.inr (0, 30, 31, [(qa 53, .inl 0)], []))))).set 29 (.inr (.inr (.inr (0, 30, 32, [(qa 53, qa 56)], []))))).set 30 (.inr (.inr (.inr (0, 30, 33, [(qa 53, qa 57)], []))))).set 27 (.inr (.inr (.inr (0, 155, 30, [(.inr (.inl (52, 5, 0)), qa 58)], []))))) ws := by
      intro hc ws h
      have hi2 : (Int32.ofInt (5 * v + 0)).toInt = 5 * v + 0 := q_i32of (by omega) (by omega)
      have h1 := (hwA ws h).chg (i := 28) (e := (.inr (.inr (.inr (0, 30, 31, [], []))))) rfl (fun q hq => qy_knw (x := .inl 0) (i := Int32.ofInt (j : Int)) (qy_kns (by rw [hij]; exact xj)) (by rw [hij]; omega) (by rw [hij]; show (j : Int) < 30; omega) (by rw [hij, Int.toNat_natCast]; exact ⟨fc 31 j, rfl, hc⟩) hq)
      have h2 := h1.chg (i := 29) (e := (.inr (.inr (.inr (0, 30, 32, [], []))))) rfl (fun q hq => qy_knw (i := Int32.ofInt (j : Int)) (qy_kns (by rw [hij]; exact xj)) (by rw [hij]; omega) (by rw [hij]; show (j : Int) < 30; omega) (by rw [hij, Int.toNat_natCast]; exact qy_kns xm) hq)
      have h3 := h2.chg (i := 30) (e := (.inr (.inr (.inr (0, 30, 33, [], []))))) rfl (fun q hq => qy_knw (i := Int32.ofInt (j : Int)) (qy_kns (by rw [hij]; exact xj)) (by rw [hij]; omega) (by rw [hij]; show (j : Int) < 30; omega) (by rw [hij, Int.toNat_natCast]; exact qy_kns xi) hq)
      exact h3.chg (i := 27) (e := (.inr (.inr (.inr (0, 155, 30, [], []))))) rfl (fun q hq => qy_knw (i := Int32.ofInt (5 * v + 0)) (a := .inr (.inl (52, 5, 0))) ⟨_, v, rfl, xv, hi2⟩ (by rw [hi2]; omega) (by rw [hi2]; show 5 * v + 0 < 155; omega) (by rw [hi2]; exact qy_kns (by rw [← hc]; exact xh)) hq)
    have hwC1 : (fc 31 j).toInt = 1 → ∀ ws, qy_w ρ ex fc tys as zUT_u0DH.2.1 ws → qy_w (ρ ++ xs) ex fc tys as ((((((zUT_u0DH.2.1.set 31 (.inr (.inr (.inr (0, 30, 34, [(qa 53, qa 54)], []))))).set 32 (.inr (.inr (.inr (0, 30, 35, [(qa 53, qa 55)], []))))).set 28 (.inr (.inr (.inr (0, 30, 31, [(qa 53, .inl 1)], []))))).set 29 (.inr (.inr (.inr (0, 30, 32, [(qa 53, qa 56)], []))))).set 30 (.inr (.inr (.inr (0, 30, 33, [(qa 53, qa 57)], []))))).set 27 (.inr (.inr (.inr (0, 155, 30, [(.inr (.inl (52, 5, 1)), qa 58)], []))))) ws := by
      intro hc ws h
      have hi2 : (Int32.ofInt (5 * v + 1)).toInt = 5 * v + 1 := q_i32of (by omega) (by omega)
      have h1 := (hwA ws h).chg (i := 28) (e := (.inr (.inr (.inr (0, 30, 31, [], []))))) rfl (fun q hq => qy_knw (x := .inl 1) (i := Int32.ofInt (j : Int)) (qy_kns (by rw [hij]; exact xj)) (by rw [hij]; omega) (by rw [hij]; show (j : Int) < 30; omega) (by rw [hij, Int.toNat_natCast]; exact ⟨fc 31 j, rfl, hc⟩) hq)
      have h2 := h1.chg (i := 29) (e := (.inr (.inr (.inr (0, 30, 32, [], []))))) rfl (fun q hq => qy_knw (i := Int32.ofInt (j : Int)) (qy_kns (by rw [hij]; exact xj)) (by rw [hij]; omega) (by rw [hij]; show (j : Int) < 30; omega) (by rw [hij, Int.toNat_natCast]; exact qy_kns xm) hq)
      have h3 := h2.chg (i := 30) (e := (.inr (.inr (.inr (0, 30, 33, [], []))))) rfl (fun q hq => qy_knw (i := Int32.ofInt (j : Int)) (qy_kns (by rw [hij]; exact xj)) (by rw [hij]; omega) (by rw [hij]; show (j : Int) < 30; omega) (by rw [hij, Int.toNat_natCast]; exact qy_kns xi) hq)
      exact h3.chg (i := 27) (e := (.inr (.inr (.inr (0, 155, 30, [], []))))) rfl (fun q hq => qy_knw (i := Int32.ofInt (5 * v + 1)) (a := .inr (.inl (52, 5, 1))) ⟨_, v, rfl, xv, hi2⟩ (by rw [hi2]; omega) (by rw [hi2]; show 5 * v + 1 < 155; omega) (by rw [hi2]; exact qy_kns (by rw [← hc]; exact xh)) hq)
    have hwC2 : (fc 31 j).toInt = 2 → ∀ ws, qy_w ρ ex fc tys as zUT_u0DH.2.1 ws → qy_w (ρ ++ xs) ex fc tys as ((((((zUT_u0DH.2.1.set 31 (.inr (.inr (.inr (0, 30, 34, [(qa 53, qa 54)], []))))).set 32 (.inr (.inr (.inr (0, 30, 35, [(qa 53, qa 55)], []))))).set 28 (.inr (.inr (.inr (0, 30, 31, [(qa 53, .inl 2)], []))))).set 29 (.inr (.inr (.inr (0, 30, 32, [(qa 53, qa 56)], []))))).set 30 (.inr (.inr (.inr (0, 30, 33, [(qa 53, qa 57)], []))))).set 27 (.inr (.inr (.inr (0, 155, 30, [(.inr (.inl (52, 5, 2)), qa 58)], []))))) ws := by
      intro hc ws h
      have hi2 : (Int32.ofInt (5 * v + 2)).toInt = 5 * v + 2 := q_i32of (by omega) (by omega)
      have h1 := (hwA ws h).chg (i := 28) (e := (.inr (.inr (.inr (0, 30, 31, [], []))))) rfl (fun q hq => qy_knw (x := .inl 2) (i := Int32.ofInt (j : Int)) (qy_kns (by rw [hij]; exact xj)) (by rw [hij]; omega) (by rw [hij]; show (j : Int) < 30; omega) (by rw [hij, Int.toNat_natCast]; exact ⟨fc 31 j, rfl, hc⟩) hq)
      have h2 := h1.chg (i := 29) (e := (.inr (.inr (.inr (0, 30, 32, [], []))))) rfl (fun q hq => qy_knw (i := Int32.ofInt (j : Int)) (qy_kns (by rw [hij]; exact xj)) (by rw [hij]; omega) (by rw [hij]; show (j : Int) < 30; omega) (by rw [hij, Int.toNat_natCast]; exact qy_kns xm) hq)
      have h3 := h2.chg (i := 30) (e := (.inr (.inr (.inr (0, 30, 33, [], []))))) rfl (fun q hq => qy_knw (i := Int32.ofInt (j : Int)) (qy_kns (by rw [hij]; exact xj)) (by rw [hij]; omega) (by rw [hij]; show (j : Int) < 30; omega) (by rw [hij, Int.toNat_natCast]; exact qy_kns xi) hq)
      exact h3.chg (i := 27) (e := (.inr (.inr (.inr (0, 155, 30, [], []))))) rfl (fun q hq => qy_knw (i := Int32.ofInt (5 * v + 2)) (a := .inr (.inl (52, 5, 2))) ⟨_, v, rfl, xv, hi2⟩ (by rw [hi2]; omega) (by rw [hi2]; show 5 * v + 2 < 155; omega) (by rw [hi2]; exact qy_kns (by rw [← hc]; exact xh)) hq)
    have hwC3 : (fc 31 j).toInt = 3 → ∀ ws, qy_w ρ ex fc tys as zUT_u0DH.2.1 ws → qy_w (ρ ++ xs) ex fc tys as ((((((zUT_u0DH.2.1.set 31 (.inr (.inr (.inr (0, 30, 34, [(qa 53, qa 54)], []))))).set 32 (.inr (.inr (.inr (0, 30, 35, [(qa 53, qa 55)], []))))).set 28 (.inr (.inr (.inr (0, 30, 31, [(qa 53, .inl 3)], []))))).set 29 (.inr (.inr (.inr (0, 30, 32, [(qa 53, qa 56)], []))))).set 30 (.inr (.inr (.inr (0, 30, 33, [(qa 53, qa 57)], []))))).set 27 (.inr (.inr (.inr (0, 155, 30, [(.inr (.inl (52, 5, 3)), qa 58)], []))))) ws := by
      intro hc ws h
      have hi2 : (Int32.ofInt (5 * v + 3)).toInt = 5 * v + 3 := q_i32of (by omega) (by omega)
      have h1 := (hwA ws h).chg (i := 28) (e := (.inr (.inr (.inr (0, 30, 31, [], []))))) rfl (fun q hq => qy_knw (x := .inl 3) (i := Int32.ofInt (j : Int)) (qy_kns (by rw [hij]; exact xj)) (by rw [hij]; omega) (by rw [hij]; show (j : Int) < 30; omega) (by rw [hij, Int.toNat_natCast]; exact ⟨fc 31 j, rfl, hc⟩) hq)
      have h2 := h1.chg (i := 29) (e := (.inr (.inr (.inr (0, 30, 32, [], []))))) rfl (fun q hq => qy_knw (i := Int32.ofInt (j : Int)) (qy_kns (by rw [hij]; exact xj)) (by rw [hij]; omega) (by rw [hij]; show (j : Int) < 30; omega) (by rw [hij, Int.toNat_natCast]; exact qy_kns xm) hq)
      have h3 := h2.chg (i := 30) (e := (.inr (.inr (.inr (0, 30, 33, [], []))))) rfl (fun q hq => qy_knw (i := Int32.ofInt (j : Int)) (qy_kns (by rw [hij]; exact xj)) (by rw [hij]; omega) (by rw [hij]; show (j : Int) < 30; omega) (by rw [hij, Int.toNat_natCast]; exact qy_kns xi) hq)
      exact h3.chg (i := 27) (e := (.inr (.inr (.inr (0, 155, 30, [], []))))) rfl (fun q hq => qy_knw (i := Int32.ofInt (5 * v + 3)) (a := .inr (.inl (52, 5, 3))) ⟨_, v, rfl, xv, hi2⟩ (by rw [hi2]; omega) (by rw [hi2]; show 5 * v + 3 < 155; omega) (by rw [hi2]; exact qy_kns (by rw [← hc]; exact xh)) hq)
    have hwC4 : (fc 31 j).toInt = 4 → ∀ ws, qy_w ρ ex fc tys as zUT_u0DH.2.1 ws → qy_w (ρ ++ xs) ex fc tys as ((((((zUT_u0DH.2.1.set 31 (.inr (.inr (.inr (0, 30, 34, [(qa 53, qa 54)], []))))).set 32 (.inr (.inr (.inr (0, 30, 35, [(qa 53, qa 55)], []))))).set 28 (.inr (.inr (.inr (0, 30, 31, [(qa 53, .inl 4)], []))))).set 29 (.inr (.inr (.inr (0, 30, 32, [(qa 53, qa 56)], []))))).set 30 (.inr (.inr (.inr (0, 30, 33, [(qa 53, qa 57)], []))))).set 27 (.inr (.inr (.inr (0, 155, 30, [(.inr (.inl (52, 5, 4)), qa 58)], []))))) ws := by
      intro hc ws h
      have hi2 : (Int32.ofInt (5 * v + 4)).toInt = 5 * v + 4 := q_i32of (by omega) (by omega)
      have h1 := (hwA ws h).chg (i := 28) (e := (.inr (.inr (.inr (0, 30, 31, [], []))))) rfl (fun q hq => qy_knw (x := .inl 4) (i := Int32.ofInt (j : Int)) (qy_kns (by rw [hij]; exact xj)) (by rw [hij]; omega) (by rw [hij]; show (j : Int) < 30; omega) (by rw [hij, Int.toNat_natCast]; exact ⟨fc 31 j, rfl, hc⟩) hq)
      have h2 := h1.chg (i := 29) (e := (.inr (.inr (.inr (0, 30, 32, [], []))))) rfl (fun q hq => qy_knw (i := Int32.ofInt (j : Int)) (qy_kns (by rw [hij]; exact xj)) (by rw [hij]; omega) (by rw [hij]; show (j : Int) < 30; omega) (by rw [hij, Int.toNat_natCast]; exact qy_kns xm) hq)
      have h3 := h2.chg (i := 30) (e := (.inr (.inr (.inr (0, 30, 33, [], []))))) rfl (fun q hq => qy_knw (i := Int32.ofInt (j : Int)) (qy_kns (by rw [hij]; exact xj)) (by rw [hij]; omega) (by rw [hij]; show (j : Int) < 30; omega) (by rw [hij, Int.toNat_natCast]; exact qy_kns xi) hq)
      exact h3.chg (i := 27) (e := (.inr (.inr (.inr (0, 155, 30, [], []))))) rfl (fun q hq => qy_knw (i := Int32.ofInt (5 * v + 4)) (a := .inr (.inl (52, 5, 4))) ⟨_, v, rfl, xv, hi2⟩ (by rw [hi2]; omega) (by rw [hi2]; show 5 * v + 4 < 155; omega) (by rw [hi2]; exact qy_kns (by rw [← hc]; exact xh)) hq)
    rcases Int.lt_or_le k (fc 34 j).toInt with c1 | c1
    · skip
      refine qy_TP.pre (ρ' := ρ ++ xs) (g' := zUT_u0s_dA.1) (w' := zUT_u0s_dA.2.1) (lo' := zUT_u0s_dA.2.2.1) (st' := zUT_u0s_dA.2.2.2) ?_ hwA (fun h => h.to xs [(53, 0, 29), (54, -2147483648, 2147483647), (55, -2147483648, 2147483647), (56, -2147483648, 2147483647), (57, -2147483648, 2147483647), (58, -2147483648, 2147483647)] [((.ofNat 1), 22, (.negSucc 0), 53, (.ofNat 1)), ((.ofNat 1), 54, (.negSucc 0), 45, (.ofNat 1))] (by decide +kernel) (by rw [hlx]; rfl) (by decide +kernel) (fa_ex xj (by omega) (by omega) (fa_ex xa (by have := q_i32bd (fc 34 j); omega) (by have := q_i32bd (fc 34 j); omega) (fa_ex xu (by have := q_i32bd (fc 35 j); omega) (by have := q_i32bd (fc 35 j); omega) (fa_ex xm (by have := q_i32bd (fc 32 j); omega) (by have := q_i32bd (fc 32 j); omega) (fa_ex xi (by have := q_i32bd (fc 33 j); omega) (by have := q_i32bd (fc 33 j); omega) (fa_ex xh (by have := q_i32bd (fc 30 (5 * v + (fc 31 j).toInt).toNat); omega) (by have := q_i32bd (fc 30 (5 * v + (fc 31 j).toInt).toNat); omega) fa_nil)))))) (fa_cons ⟨_, _, xs_, xj, by show (1 : Int) ≤ 1 * se + (-1) * (j : Int); omega⟩ (fa_cons ⟨_, _, xa, xk, by show (1 : Int) ≤ 1 * (fc 34 j).toInt + (-1) * k; omega⟩ fa_nil))) (fun _ _ h => h.mono he) (fun _ h => h.mono he)
      refine qs_lnkB (p := 53) (ρ := ρ ++ xs) fa_nil hT hA zUg_u0dA (fa_cons (fun ρ1 ht1 hL hg1 _ => ⟨fun rv hrv => ?r0, fun q hq => ?c0⟩) fa_nil)
      case r0 =>
        have hrv : (Sum.inr _ : Option qV ⊕ (Nat × qL × List qV)) = Sum.inl rv := hrv
        cases hrv
      case c0 =>
        have hq : (Sum.inr _ : Option qV ⊕ (Nat × qL × List qV)) = Sum.inr q := hq
        cases hq
        have lj := (hL.n (i := 53) (d := 1) List.mem_cons_self xj)
        exact ih ρ1 (j + 1) (by rw [ht1, List.take_append_of_le_length (by omega)]; exact ht) (by rw [lj]; exact congrArg some (by omega)) (by omega) (fun i hi => by
          rcases Nat.lt_or_ge i j with z | z
          · exact hok i z
          · have e : i = j := by omega
            rw [e]
            exact Or.inl c1)
    · rcases Int.lt_or_le (fc 35 j).toInt 0 with c2 | c2
      · skip
        have cc : (fc 31 j).toInt = 0 ∨ (fc 31 j).toInt = 1 ∨ (fc 31 j).toInt = 2 ∨ (fc 31 j).toInt = 3 ∨ (fc 31 j).toInt = 4 := by omega
        rcases cc with hc | hc | hc | hc | hc
        · rcases Int.lt_or_le (fc 30 (5 * v + (fc 31 j).toInt).toNat).toInt (fc 32 j).toInt with c3 | c3
          · have c5 : (fc 33 j).toInt = 0 ∨ (fc 33 j).toInt ≤ -1 ∨ 1 ≤ (fc 33 j).toInt := by omega
            rcases c5 with c4 | c4 | c4
            · skip
              refine qy_TP.pre (ρ' := ρ ++ xs) (g' := zUT_u0s_dn0le.1) (w' := zUT_u0s_dn0le.2.1) (lo' := zUT_u0s_dn0le.2.2.1) (st' := zUT_u0s_dn0le.2.2.2) ?_ (hwC0 hc) (fun h => h.to xs [(53, 0, 29), (54, -2147483648, 2147483647), (55, -2147483648, -1), (56, -2147483648, 2147483647), (57, 0, 0), (58, -2147483648, 2147483647)] [((.ofNat 1), 22, (.negSucc 0), 53, (.ofNat 1)), ((.ofNat 1), 45, (.negSucc 0), 54, (.ofNat 0)), ((.ofNat 1), 56, (.negSucc 0), 58, (.ofNat 1))] (by decide +kernel) (by rw [hlx]; rfl) (by decide +kernel) (fa_ex xj (by omega) (by omega) (fa_ex xa (by have := q_i32bd (fc 34 j); omega) (by have := q_i32bd (fc 34 j); omega) (fa_ex xu (by have := q_i32bd (fc 35 j); omega) (by have := q_i32bd (fc 35 j); omega) (fa_ex xm (by have := q_i32bd (fc 32 j); omega) (by have := q_i32bd (fc 32 j); omega) (fa_ex xi (by have := q_i32bd (fc 33 j); omega) (by have := q_i32bd (fc 33 j); omega) (fa_ex xh (by have := q_i32bd (fc 30 (5 * v + (fc 31 j).toInt).toNat); omega) (by have := q_i32bd (fc 30 (5 * v + (fc 31 j).toInt).toNat); omega) fa_nil)))))) (fa_cons ⟨_, _, xs_, xj, by show (1 : Int) ≤ 1 * se + (-1) * (j : Int); omega⟩ (fa_cons ⟨_, _, xk, xa, by show (0 : Int) ≤ 1 * k + (-1) * (fc 34 j).toInt; omega⟩ (fa_cons ⟨_, _, xm, xh, by show (1 : Int) ≤ 1 * (fc 32 j).toInt + (-1) * (fc 30 (5 * v + (fc 31 j).toInt).toNat).toInt; omega⟩ fa_nil)))) (fun _ _ h => h.mono he) (fun _ h => h.mono he)
              refine qs_lnkB (p := 53) (ρ := ρ ++ xs) fa_nil hT hA zUg_u0dn0le (fa_cons (fun ρ1 ht1 hL hg1 _ => ⟨fun rv hrv => ?r0, fun q hq => ?c0⟩) fa_nil)
              case r0 =>
                have hrv : (Sum.inr _ : Option qV ⊕ (Nat × qL × List qV)) = Sum.inl rv := hrv
                cases hrv
              case c0 =>
                have hq : (Sum.inr _ : Option qV ⊕ (Nat × qL × List qV)) = Sum.inr q := hq
                cases hq
                have lj := (hL.n (i := 53) (d := 1) List.mem_cons_self xj)
                exact ih ρ1 (j + 1) (by rw [ht1, List.take_append_of_le_length (by omega)]; exact ht) (by rw [lj]; exact congrArg some (by omega)) (by omega) (fun i hi => by
                  rcases Nat.lt_or_ge i j with z | z
                  · exact hok i z
                  · have e : i = j := by omega
                    rw [e]
                    exact Or.inr (Or.inr (Or.inr ⟨c3, c4⟩)))
            · skip
              refine qy_TP.pre (ρ' := ρ ++ xs) (g' := zUT_u0s_dn0la.1) (w' := zUT_u0s_dn0la.2.1) (lo' := zUT_u0s_dn0la.2.2.1) (st' := zUT_u0s_dn0la.2.2.2) ?_ (hwC0 hc) (fun h => h.to xs [(53, 0, 29), (54, -2147483648, 2147483647), (55, -2147483648, -1), (56, -2147483648, 2147483647), (57, -2147483648, -1), (58, -2147483648, 2147483647)] [((.ofNat 1), 22, (.negSucc 0), 53, (.ofNat 1)), ((.ofNat 1), 45, (.negSucc 0), 54, (.ofNat 0)), ((.ofNat 1), 56, (.negSucc 0), 58, (.ofNat 1))] (by decide +kernel) (by rw [hlx]; rfl) (by decide +kernel) (fa_ex xj (by omega) (by omega) (fa_ex xa (by have := q_i32bd (fc 34 j); omega) (by have := q_i32bd (fc 34 j); omega) (fa_ex xu (by have := q_i32bd (fc 35 j); omega) (by have := q_i32bd (fc 35 j); omega) (fa_ex xm (by have := q_i32bd (fc 32 j); omega) (by have := q_i32bd (fc 32 j); omega) (fa_ex xi (by have := q_i32bd (fc 33 j); omega) (by have := q_i32bd (fc 33 j); omega) (fa_ex xh (by have := q_i32bd (fc 30 (5 * v + (fc 31 j).toInt).toNat); omega) (by have := q_i32bd (fc 30 (5 * v + (fc 31 j).toInt).toNat); omega) fa_nil)))))) (fa_cons ⟨_, _, xs_, xj, by show (1 : Int) ≤ 1 * se + (-1) * (j : Int); omega⟩ (fa_cons ⟨_, _, xk, xa, by show (0 : Int) ≤ 1 * k + (-1) * (fc 34 j).toInt; omega⟩ (fa_cons ⟨_, _, xm, xh, by show (1 : Int) ≤ 1 * (fc 32 j).toInt + (-1) * (fc 30 (5 * v + (fc 31 j).toInt).toNat).toInt; omega⟩ fa_nil)))) (fun _ _ h => h.mono he) (fun _ h => h.mono he)
              refine qs_lnkB (p := 53) (ρ := ρ ++ xs) fa_nil hT hA zUg_u0dn0la (fa_cons (fun ρ1 ht1 hL hg1 _ => ⟨fun rv hrv => ?r0, fun q hq => ?c0⟩) fa_nil)
              case r0 =>
                have hl1 : ρ1.length = 53 := hg1.len rfl
                refine ⟨rfl, ?_, Or.inr ⟨rfl, fun hF => ?_⟩⟩
                · rw [List.take_append_of_le_length (by omega), ht] at ht1
                  rw [← ht1, List.take_of_length_le (by omega)]
                · have hj2 := hF j (by omega)
                  unfold hs_ok at hj2
                  omega
              case c0 =>
                have hq : (Sum.inl _ : Option qV ⊕ (Nat × qL × List qV)) = Sum.inr q := hq
                cases hq
            · skip
              refine qy_TP.pre (ρ' := ρ ++ xs) (g' := zUT_u0s_dn0lb.1) (w' := zUT_u0s_dn0lb.2.1) (lo' := zUT_u0s_dn0lb.2.2.1) (st' := zUT_u0s_dn0lb.2.2.2) ?_ (hwC0 hc) (fun h => h.to xs [(53, 0, 29), (54, -2147483648, 2147483647), (55, -2147483648, -1), (56, -2147483648, 2147483647), (57, 1, 2147483647), (58, -2147483648, 2147483647)] [((.ofNat 1), 22, (.negSucc 0), 53, (.ofNat 1)), ((.ofNat 1), 45, (.negSucc 0), 54, (.ofNat 0)), ((.ofNat 1), 56, (.negSucc 0), 58, (.ofNat 1))] (by decide +kernel) (by rw [hlx]; rfl) (by decide +kernel) (fa_ex xj (by omega) (by omega) (fa_ex xa (by have := q_i32bd (fc 34 j); omega) (by have := q_i32bd (fc 34 j); omega) (fa_ex xu (by have := q_i32bd (fc 35 j); omega) (by have := q_i32bd (fc 35 j); omega) (fa_ex xm (by have := q_i32bd (fc 32 j); omega) (by have := q_i32bd (fc 32 j); omega) (fa_ex xi (by have := q_i32bd (fc 33 j); omega) (by have := q_i32bd (fc 33 j); omega) (fa_ex xh (by have := q_i32bd (fc 30 (5 * v + (fc 31 j).toInt).toNat); omega) (by have := q_i32bd (fc 30 (5 * v + (fc 31 j).toInt).toNat); omega) fa_nil)))))) (fa_cons ⟨_, _, xs_, xj, by show (1 : Int) ≤ 1 * se + (-1) * (j : Int); omega⟩ (fa_cons ⟨_, _, xk, xa, by show (0 : Int) ≤ 1 * k + (-1) * (fc 34 j).toInt; omega⟩ (fa_cons ⟨_, _, xm, xh, by show (1 : Int) ≤ 1 * (fc 32 j).toInt + (-1) * (fc 30 (5 * v + (fc 31 j).toInt).toNat).toInt; omega⟩ fa_nil)))) (fun _ _ h => h.mono he) (fun _ h => h.mono he)
              refine qs_lnkB (p := 53) (ρ := ρ ++ xs) fa_nil hT hA zUg_u0dn0lb (fa_cons (fun ρ1 ht1 hL hg1 _ => ⟨fun rv hrv => ?r0, fun q hq => ?c0⟩) fa_nil)
              case r0 =>
                have hl1 : ρ1.length = 53 := hg1.len rfl
                refine ⟨rfl, ?_, Or.inr ⟨rfl, fun hF => ?_⟩⟩
                · rw [List.take_append_of_le_length (by omega), ht] at ht1
                  rw [← ht1, List.take_of_length_le (by omega)]
                · have hj2 := hF j (by omega)
                  unfold hs_ok at hj2
                  omega
              case c0 =>
                have hq : (Sum.inl _ : Option qV ⊕ (Nat × qL × List qV)) = Sum.inr q := hq
                cases hq
          · have c5 : (fc 33 j).toInt = 1 ∨ (fc 33 j).toInt ≤ 0 ∨ 2 ≤ (fc 33 j).toInt := by omega
            rcases c5 with c4 | c4 | c4
            · skip
              refine qy_TP.pre (ρ' := ρ ++ xs) (g' := zUT_u0s_dn0ge.1) (w' := zUT_u0s_dn0ge.2.1) (lo' := zUT_u0s_dn0ge.2.2.1) (st' := zUT_u0s_dn0ge.2.2.2) ?_ (hwC0 hc) (fun h => h.to xs [(53, 0, 29), (54, -2147483648, 2147483647), (55, -2147483648, -1), (56, -2147483648, 2147483647), (57, 1, 1), (58, -2147483648, 2147483647)] [((.ofNat 1), 22, (.negSucc 0), 53, (.ofNat 1)), ((.ofNat 1), 45, (.negSucc 0), 54, (.ofNat 0)), ((.ofNat 1), 58, (.negSucc 0), 56, (.ofNat 0))] (by decide +kernel) (by rw [hlx]; rfl) (by decide +kernel) (fa_ex xj (by omega) (by omega) (fa_ex xa (by have := q_i32bd (fc 34 j); omega) (by have := q_i32bd (fc 34 j); omega) (fa_ex xu (by have := q_i32bd (fc 35 j); omega) (by have := q_i32bd (fc 35 j); omega) (fa_ex xm (by have := q_i32bd (fc 32 j); omega) (by have := q_i32bd (fc 32 j); omega) (fa_ex xi (by have := q_i32bd (fc 33 j); omega) (by have := q_i32bd (fc 33 j); omega) (fa_ex xh (by have := q_i32bd (fc 30 (5 * v + (fc 31 j).toInt).toNat); omega) (by have := q_i32bd (fc 30 (5 * v + (fc 31 j).toInt).toNat); omega) fa_nil)))))) (fa_cons ⟨_, _, xs_, xj, by show (1 : Int) ≤ 1 * se + (-1) * (j : Int); omega⟩ (fa_cons ⟨_, _, xk, xa, by show (0 : Int) ≤ 1 * k + (-1) * (fc 34 j).toInt; omega⟩ (fa_cons ⟨_, _, xh, xm, by show (0 : Int) ≤ 1 * (fc 30 (5 * v + (fc 31 j).toInt).toNat).toInt + (-1) * (fc 32 j).toInt; omega⟩ fa_nil)))) (fun _ _ h => h.mono he) (fun _ h => h.mono he)
              refine qs_lnkB (p := 53) (ρ := ρ ++ xs) fa_nil hT hA zUg_u0dn0ge (fa_cons (fun ρ1 ht1 hL hg1 _ => ⟨fun rv hrv => ?r0, fun q hq => ?c0⟩) fa_nil)
              case r0 =>
                have hrv : (Sum.inr _ : Option qV ⊕ (Nat × qL × List qV)) = Sum.inl rv := hrv
                cases hrv
              case c0 =>
                have hq : (Sum.inr _ : Option qV ⊕ (Nat × qL × List qV)) = Sum.inr q := hq
                cases hq
                have lj := (hL.n (i := 53) (d := 1) List.mem_cons_self xj)
                exact ih ρ1 (j + 1) (by rw [ht1, List.take_append_of_le_length (by omega)]; exact ht) (by rw [lj]; exact congrArg some (by omega)) (by omega) (fun i hi => by
                  rcases Nat.lt_or_ge i j with z | z
                  · exact hok i z
                  · have e : i = j := by omega
                    rw [e]
                    exact Or.inr (Or.inr (Or.inl ⟨c3, c4⟩)))
            · skip
              refine qy_TP.pre (ρ' := ρ ++ xs) (g' := zUT_u0s_dn0ga.1) (w' := zUT_u0s_dn0ga.2.1) (lo' := zUT_u0s_dn0ga.2.2.1) (st' := zUT_u0s_dn0ga.2.2.2) ?_ (hwC0 hc) (fun h => h.to xs [(53, 0, 29), (54, -2147483648, 2147483647), (55, -2147483648, -1), (56, -2147483648, 2147483647), (57, -2147483648, 0), (58, -2147483648, 2147483647)] [((.ofNat 1), 22, (.negSucc 0), 53, (.ofNat 1)), ((.ofNat 1), 45, (.negSucc 0), 54, (.ofNat 0)), ((.ofNat 1), 58, (.negSucc 0), 56, (.ofNat 0))] (by decide +kernel) (by rw [hlx]; rfl) (by decide +kernel) (fa_ex xj (by omega) (by omega) (fa_ex xa (by have := q_i32bd (fc 34 j); omega) (by have := q_i32bd (fc 34 j); omega) (fa_ex xu (by have := q_i32bd (fc 35 j); omega) (by have := q_i32bd (fc 35 j); omega) (fa_ex xm (by have := q_i32bd (fc 32 j); omega) (by have := q_i32bd (fc 32 j); omega) (fa_ex xi (by have := q_i32bd (fc 33 j); omega) (by have := q_i32bd (fc 33 j); omega) (fa_ex xh (by have := q_i32bd (fc 30 (5 * v + (fc 31 j).toInt).toNat); omega) (by have := q_i32bd (fc 30 (5 * v + (fc 31 j).toInt).toNat); omega) fa_nil)))))) (fa_cons ⟨_, _, xs_, xj, by show (1 : Int) ≤ 1 * se + (-1) * (j : Int); omega⟩ (fa_cons ⟨_, _, xk, xa, by show (0 : Int) ≤ 1 * k + (-1) * (fc 34 j).toInt; omega⟩ (fa_cons ⟨_, _, xh, xm, by show (0 : Int) ≤ 1 * (fc 30 (5 * v + (fc 31 j).toInt).toNat).toInt + (-1) * (fc 32 j).toInt; omega⟩ fa_nil)))) (fun _ _ h => h.mono he) (fun _ h => h.mono he)
              refine qs_lnkB (p := 53) (ρ := ρ ++ xs) fa_nil hT hA zUg_u0dn0ga (fa_cons (fun ρ1 ht1 hL hg1 _ => ⟨fun rv hrv => ?r0, fun q hq => ?c0⟩) fa_nil)
              case r0 =>
                have hl1 : ρ1.length = 53 := hg1.len rfl
                refine ⟨rfl, ?_, Or.inr ⟨rfl, fun hF => ?_⟩⟩
                · rw [List.take_append_of_le_length (by omega), ht] at ht1
                  rw [← ht1, List.take_of_length_le (by omega)]
                · have hj2 := hF j (by omega)
                  unfold hs_ok at hj2
                  omega
              case c0 =>
                have hq : (Sum.inl _ : Option qV ⊕ (Nat × qL × List qV)) = Sum.inr q := hq
                cases hq
            · skip
              refine qy_TP.pre (ρ' := ρ ++ xs) (g' := zUT_u0s_dn0gb.1) (w' := zUT_u0s_dn0gb.2.1) (lo' := zUT_u0s_dn0gb.2.2.1) (st' := zUT_u0s_dn0gb.2.2.2) ?_ (hwC0 hc) (fun h => h.to xs [(53, 0, 29), (54, -2147483648, 2147483647), (55, -2147483648, -1), (56, -2147483648, 2147483647), (57, 2, 2147483647), (58, -2147483648, 2147483647)] [((.ofNat 1), 22, (.negSucc 0), 53, (.ofNat 1)), ((.ofNat 1), 45, (.negSucc 0), 54, (.ofNat 0)), ((.ofNat 1), 58, (.negSucc 0), 56, (.ofNat 0))] (by decide +kernel) (by rw [hlx]; rfl) (by decide +kernel) (fa_ex xj (by omega) (by omega) (fa_ex xa (by have := q_i32bd (fc 34 j); omega) (by have := q_i32bd (fc 34 j); omega) (fa_ex xu (by have := q_i32bd (fc 35 j); omega) (by have := q_i32bd (fc 35 j); omega) (fa_ex xm (by have := q_i32bd (fc 32 j); omega) (by have := q_i32bd (fc 32 j); omega) (fa_ex xi (by have := q_i32bd (fc 33 j); omega) (by have := q_i32bd (fc 33 j); omega) (fa_ex xh (by have := q_i32bd (fc 30 (5 * v + (fc 31 j).toInt).toNat); omega) (by have := q_i32bd (fc 30 (5 * v + (fc 31 j).toInt).toNat); omega) fa_nil)))))) (fa_cons ⟨_, _, xs_, xj, by show (1 : Int) ≤ 1 * se + (-1) * (j : Int); omega⟩ (fa_cons ⟨_, _, xk, xa, by show (0 : Int) ≤ 1 * k + (-1) * (fc 34 j).toInt; omega⟩ (fa_cons ⟨_, _, xh, xm, by show (0 : Int) ≤ 1 * (fc 30 (5 * v + (fc 31 j).toInt).toNat).toInt + (-1) * (fc 32 j).toInt; omega⟩ fa_nil)))) (fun _ _ h => h.mono he) (fun _ h => h.mono he)
              refine qs_lnkB (p := 53) (ρ := ρ ++ xs) fa_nil hT hA zUg_u0dn0gb (fa_cons (fun ρ1 ht1 hL hg1 _ => ⟨fun rv hrv => ?r0, fun q hq => ?c0⟩) fa_nil)
              case r0 =>
                have hl1 : ρ1.length = 53 := hg1.len rfl
                refine ⟨rfl, ?_, Or.inr ⟨rfl, fun hF => ?_⟩⟩
                · rw [List.take_append_of_le_length (by omega), ht] at ht1
                  rw [← ht1, List.take_of_length_le (by omega)]
                · have hj2 := hF j (by omega)
                  unfold hs_ok at hj2
                  omega
              case c0 =>
                have hq : (Sum.inl _ : Option qV ⊕ (Nat × qL × List qV)) = Sum.inr q := hq
                cases hq
        · rcases Int.lt_or_le (fc 30 (5 * v + (fc 31 j).toInt).toNat).toInt (fc 32 j).toInt with c3 | c3
          · have c5 : (fc 33 j).toInt = 0 ∨ (fc 33 j).toInt ≤ -1 ∨ 1 ≤ (fc 33 j).toInt := by omega
            rcases c5 with c4 | c4 | c4
            · skip
              refine qy_TP.pre (ρ' := ρ ++ xs) (g' := zUT_u0s_dn1le.1) (w' := zUT_u0s_dn1le.2.1) (lo' := zUT_u0s_dn1le.2.2.1) (st' := zUT_u0s_dn1le.2.2.2) ?_ (hwC1 hc) (fun h => h.to xs [(53, 0, 29), (54, -2147483648, 2147483647), (55, -2147483648, -1), (56, -2147483648, 2147483647), (57, 0, 0), (58, -2147483648, 2147483647)] [((.ofNat 1), 22, (.negSucc 0), 53, (.ofNat 1)), ((.ofNat 1), 45, (.negSucc 0), 54, (.ofNat 0)), ((.ofNat 1), 56, (.negSucc 0), 58, (.ofNat 1))] (by decide +kernel) (by rw [hlx]; rfl) (by decide +kernel) (fa_ex xj (by omega) (by omega) (fa_ex xa (by have := q_i32bd (fc 34 j); omega) (by have := q_i32bd (fc 34 j); omega) (fa_ex xu (by have := q_i32bd (fc 35 j); omega) (by have := q_i32bd (fc 35 j); omega) (fa_ex xm (by have := q_i32bd (fc 32 j); omega) (by have := q_i32bd (fc 32 j); omega) (fa_ex xi (by have := q_i32bd (fc 33 j); omega) (by have := q_i32bd (fc 33 j); omega) (fa_ex xh (by have := q_i32bd (fc 30 (5 * v + (fc 31 j).toInt).toNat); omega) (by have := q_i32bd (fc 30 (5 * v + (fc 31 j).toInt).toNat); omega) fa_nil)))))) (fa_cons ⟨_, _, xs_, xj, by show (1 : Int) ≤ 1 * se + (-1) * (j : Int); omega⟩ (fa_cons ⟨_, _, xk, xa, by show (0 : Int) ≤ 1 * k + (-1) * (fc 34 j).toInt; omega⟩ (fa_cons ⟨_, _, xm, xh, by show (1 : Int) ≤ 1 * (fc 32 j).toInt + (-1) * (fc 30 (5 * v + (fc 31 j).toInt).toNat).toInt; omega⟩ fa_nil)))) (fun _ _ h => h.mono he) (fun _ h => h.mono he)
              refine qs_lnkB (p := 53) (ρ := ρ ++ xs) fa_nil hT hA zUg_u0dn1le (fa_cons (fun ρ1 ht1 hL hg1 _ => ⟨fun rv hrv => ?r0, fun q hq => ?c0⟩) fa_nil)
              case r0 =>
                have hrv : (Sum.inr _ : Option qV ⊕ (Nat × qL × List qV)) = Sum.inl rv := hrv
                cases hrv
              case c0 =>
                have hq : (Sum.inr _ : Option qV ⊕ (Nat × qL × List qV)) = Sum.inr q := hq
                cases hq
                have lj := (hL.n (i := 53) (d := 1) List.mem_cons_self xj)
                exact ih ρ1 (j + 1) (by rw [ht1, List.take_append_of_le_length (by omega)]; exact ht) (by rw [lj]; exact congrArg some (by omega)) (by omega) (fun i hi => by
                  rcases Nat.lt_or_ge i j with z | z
                  · exact hok i z
                  · have e : i = j := by omega
                    rw [e]
                    exact Or.inr (Or.inr (Or.inr ⟨c3, c4⟩)))
            · skip
              refine qy_TP.pre (ρ' := ρ ++ xs) (g' := zUT_u0s_dn1la.1) (w' := zUT_u0s_dn1la.2.1) (lo' := zUT_u0s_dn1la.2.2.1) (st' := zUT_u0s_dn1la.2.2.2) ?_ (hwC1 hc) (fun h => h.to xs [(53, 0, 29), (54, -2147483648, 2147483647), (55, -2147483648, -1), (56, -2147483648, 2147483647), (57, -2147483648, -1), (58, -2147483648, 2147483647)] [((.ofNat 1), 22, (.negSucc 0), 53, (.ofNat 1)), ((.ofNat 1), 45, (.negSucc 0), 54, (.ofNat 0)), ((.ofNat 1), 56, (.negSucc 0), 58, (.ofNat 1))] (by decide +kernel) (by rw [hlx]; rfl) (by decide +kernel) (fa_ex xj (by omega) (by omega) (fa_ex xa (by have := q_i32bd (fc 34 j); omega) (by have := q_i32bd (fc 34 j); omega) (fa_ex xu (by have := q_i32bd (fc 35 j); omega) (by have := q_i32bd (fc 35 j); omega) (fa_ex xm (by have := q_i32bd (fc 32 j); omega) (by have := q_i32bd (fc 32 j); omega) (fa_ex xi (by have := q_i32bd (fc 33 j); omega) (by have := q_i32bd (fc 33 j); omega) (fa_ex xh (by have := q_i32bd (fc 30 (5 * v + (fc 31 j).toInt).toNat); omega) (by have := q_i32bd (fc 30 (5 * v + (fc 31 j).toInt).toNat); omega) fa_nil)))))) (fa_cons ⟨_, _, xs_, xj, by show (1 : Int) ≤ 1 * se + (-1) * (j : Int); omega⟩ (fa_cons ⟨_, _, xk, xa, by show (0 : Int) ≤ 1 * k + (-1) * (fc 34 j).toInt; omega⟩ (fa_cons ⟨_, _, xm, xh, by show (1 : Int) ≤ 1 * (fc 32 j).toInt + (-1) * (fc 30 (5 * v + (fc 31 j).toInt).toNat).toInt; omega⟩ fa_nil)))) (fun _ _ h => h.mono he) (fun _ h => h.mono he)
              refine qs_lnkB (p := 53) (ρ := ρ ++ xs) fa_nil hT hA zUg_u0dn1la (fa_cons (fun ρ1 ht1 hL hg1 _ => ⟨fun rv hrv => ?r0, fun q hq => ?c0⟩) fa_nil)
              case r0 =>
                have hl1 : ρ1.length = 53 := hg1.len rfl
                refine ⟨rfl, ?_, Or.inr ⟨rfl, fun hF => ?_⟩⟩
                · rw [List.take_append_of_le_length (by omega), ht] at ht1
                  rw [← ht1, List.take_of_length_le (by omega)]
                · have hj2 := hF j (by omega)
                  unfold hs_ok at hj2
                  omega
              case c0 =>
                have hq : (Sum.inl _ : Option qV ⊕ (Nat × qL × List qV)) = Sum.inr q := hq
                cases hq
            · skip
              refine qy_TP.pre (ρ' := ρ ++ xs) (g' := zUT_u0s_dn1lb.1) (w' := zUT_u0s_dn1lb.2.1) (lo' := zUT_u0s_dn1lb.2.2.1) (st' := zUT_u0s_dn1lb.2.2.2) ?_ (hwC1 hc) (fun h => h.to xs [(53, 0, 29), (54, -2147483648, 2147483647), (55, -2147483648, -1), (56, -2147483648, 2147483647), (57, 1, 2147483647), (58, -2147483648, 2147483647)] [((.ofNat 1), 22, (.negSucc 0), 53, (.ofNat 1)), ((.ofNat 1), 45, (.negSucc 0), 54, (.ofNat 0)), ((.ofNat 1), 56, (.negSucc 0), 58, (.ofNat 1))] (by decide +kernel) (by rw [hlx]; rfl) (by decide +kernel) (fa_ex xj (by omega) (by omega) (fa_ex xa (by have := q_i32bd (fc 34 j); omega) (by have := q_i32bd (fc 34 j); omega) (fa_ex xu (by have := q_i32bd (fc 35 j); omega) (by have := q_i32bd (fc 35 j); omega) (fa_ex xm (by have := q_i32bd (fc 32 j); omega) (by have := q_i32bd (fc 32 j); omega) (fa_ex xi (by have := q_i32bd (fc 33 j); omega) (by have := q_i32bd (fc 33 j); omega) (fa_ex xh (by have := q_i32bd (fc 30 (5 * v + (fc 31 j).toInt).toNat); omega) (by have := q_i32bd (fc 30 (5 * v + (fc 31 j).toInt).toNat); omega) fa_nil)))))) (fa_cons ⟨_, _, xs_, xj, by show (1 : Int) ≤ 1 * se + (-1) * (j : Int); omega⟩ (fa_cons ⟨_, _, xk, xa, by show (0 : Int) ≤ 1 * k + (-1) * (fc 34 j).toInt; omega⟩ (fa_cons ⟨_, _, xm, xh, by show (1 : Int) ≤ 1 * (fc 32 j).toInt + (-1) * (fc 30 (5 * v + (fc 31 j).toInt).toNat).toInt; omega⟩ fa_nil)))) (fun _ _ h => h.mono he) (fun _ h => h.mono he)
              refine qs_lnkB (p := 53) (ρ := ρ ++ xs) fa_nil hT hA zUg_u0dn1lb (fa_cons (fun ρ1 ht1 hL hg1 _ => ⟨fun rv hrv => ?r0, fun q hq => ?c0⟩) fa_nil)
              case r0 =>
                have hl1 : ρ1.length = 53 := hg1.len rfl
                refine ⟨rfl, ?_, Or.inr ⟨rfl, fun hF => ?_⟩⟩
                · rw [List.take_append_of_le_length (by omega), ht] at ht1
                  rw [← ht1, List.take_of_length_le (by omega)]
                · have hj2 := hF j (by omega)
                  unfold hs_ok at hj2
                  omega
              case c0 =>
                have hq : (Sum.inl _ : Option qV ⊕ (Nat × qL × List qV)) = Sum.inr q := hq
                cases hq
          · have c5 : (fc 33 j).toInt = 1 ∨ (fc 33 j).toInt ≤ 0 ∨ 2 ≤ (fc 33 j).toInt := by omega
            rcases c5 with c4 | c4 | c4
            · skip
              refine qy_TP.pre (ρ' := ρ ++ xs) (g' := zUT_u0s_dn1ge.1) (w' := zUT_u0s_dn1ge.2.1) (lo' := zUT_u0s_dn1ge.2.2.1) (st' := zUT_u0s_dn1ge.2.2.2) ?_ (hwC1 hc) (fun h => h.to xs [(53, 0, 29), (54, -2147483648, 2147483647), (55, -2147483648, -1), (56, -2147483648, 2147483647), (57, 1, 1), (58, -2147483648, 2147483647)] [((.ofNat 1), 22, (.negSucc 0), 53, (.ofNat 1)), ((.ofNat 1), 45, (.negSucc 0), 54, (.ofNat 0)), ((.ofNat 1), 58, (.negSucc 0), 56, (.ofNat 0))] (by decide +kernel) (by rw [hlx]; rfl) (by decide +kernel) (fa_ex xj (by omega) (by omega) (fa_ex xa (by have := q_i32bd (fc 34 j); omega) (by have := q_i32bd (fc 34 j); omega) (fa_ex xu (by have := q_i32bd (fc 35 j); omega) (by have := q_i32bd (fc 35 j); omega) (fa_ex xm (by have := q_i32bd (fc 32 j); omega) (by have := q_i32bd (fc 32 j); omega) (fa_ex xi (by have := q_i32bd (fc 33 j); omega) (by have := q_i32bd (fc 33 j); omega) (fa_ex xh (by have := q_i32bd (fc 30 (5 * v + (fc 31 j).toInt).toNat); omega) (by have := q_i32bd (fc 30 (5 * v + (fc 31 j).toInt).toNat); omega) fa_nil)))))) (fa_cons ⟨_, _, xs_, xj, by show (1 : Int) ≤ 1 * se + (-1) * (j : Int); omega⟩ (fa_cons ⟨_, _, xk, xa, by show (0 : Int) ≤ 1 * k + (-1) * (fc 34 j).toInt; omega⟩ (fa_cons ⟨_, _, xh, xm, by show (0 : Int) ≤ 1 * (fc 30 (5 * v + (fc 31 j).toInt).toNat).toInt + (-1) * (fc 32 j).toInt; omega⟩ fa_nil)))) (fun _ _ h => h.mono he) (fun _ h => h.mono he)
              refine qs_lnkB (p := 53) (ρ := ρ ++ xs) fa_nil hT hA zUg_u0dn1ge (fa_cons (fun ρ1 ht1 hL hg1 _ => ⟨fun rv hrv => ?r0, fun q hq => ?c0⟩) fa_nil)
              case r0 =>
                have hrv : (Sum.inr _ : Option qV ⊕ (Nat × qL × List qV)) = Sum.inl rv := hrv
                cases hrv
              case c0 =>
                have hq : (Sum.inr _ : Option qV ⊕ (Nat × qL × List qV)) = Sum.inr q := hq
                cases hq
                have lj := (hL.n (i := 53) (d := 1) List.mem_cons_self xj)
                exact ih ρ1 (j + 1) (by rw [ht1, List.take_append_of_le_length (by omega)]; exact ht) (by rw [lj]; exact congrArg some (by omega)) (by omega) (fun i hi => by
                  rcases Nat.lt_or_ge i j with z | z
                  · exact hok i z
                  · have e : i = j := by omega
                    rw [e]
                    exact Or.inr (Or.inr (Or.inl ⟨c3, c4⟩)))
            · skip
              refine qy_TP.pre (ρ' := ρ ++ xs) (g' := zUT_u0s_dn1ga.1) (w' := zUT_u0s_dn1ga.2.1) (lo' := zUT_u0s_dn1ga.2.2.1) (st' := zUT_u0s_dn1ga.2.2.2) ?_ (hwC1 hc) (fun h => h.to xs [(53, 0, 29), (54, -2147483648, 2147483647), (55, -2147483648, -1), (56, -2147483648, 2147483647), (57, -2147483648, 0), (58, -2147483648, 2147483647)] [((.ofNat 1), 22, (.negSucc 0), 53, (.ofNat 1)), ((.ofNat 1), 45, (.negSucc 0), 54, (.ofNat 0)), ((.ofNat 1), 58, (.negSucc 0), 56, (.ofNat 0))] (by decide +kernel) (by rw [hlx]; rfl) (by decide +kernel) (fa_ex xj (by omega) (by omega) (fa_ex xa (by have := q_i32bd (fc 34 j); omega) (by have := q_i32bd (fc 34 j); omega) (fa_ex xu (by have := q_i32bd (fc 35 j); omega) (by have := q_i32bd (fc 35 j); omega) (fa_ex xm (by have := q_i32bd (fc 32 j); omega) (by have := q_i32bd (fc 32 j); omega) (fa_ex xi (by have := q_i32bd (fc 33 j); omega) (by have := q_i32bd (fc 33 j); omega) (fa_ex xh (by have := q_i32bd (fc 30 (5 * v + (fc 31 j).toInt).toNat); omega) (by have := q_i32bd (fc 30 (5 * v + (fc 31 j).toInt).toNat); omega) fa_nil)))))) (fa_cons ⟨_, _, xs_, xj, by show (1 : Int) ≤ 1 * se + (-1) * (j : Int); omega⟩ (fa_cons ⟨_, _, xk, xa, by show (0 : Int) ≤ 1 * k + (-1) * (fc 34 j).toInt; omega⟩ (fa_cons ⟨_, _, xh, xm, by show (0 : Int) ≤ 1 * (fc 30 (5 * v + (fc 31 j).toInt).toNat).toInt + (-1) * (fc 32 j).toInt; omega⟩ fa_nil)))) (fun _ _ h => h.mono he) (fun _ h => h.mono he)
              refine qs_lnkB (p := 53) (ρ := ρ ++ xs) fa_nil hT hA zUg_u0dn1ga (fa_cons (fun ρ1 ht1 hL hg1 _ => ⟨fun rv hrv => ?r0, fun q hq => ?c0⟩) fa_nil)
              case r0 =>
                have hl1 : ρ1.length = 53 := hg1.len rfl
                refine ⟨rfl, ?_, Or.inr ⟨rfl, fun hF => ?_⟩⟩
                · rw [List.take_append_of_le_length (by omega), ht] at ht1
                  rw [← ht1, List.take_of_length_le (by omega)]
                · have hj2 := hF j (by omega)
                  unfold hs_ok at hj2
                  omega
              case c0 =>
                have hq : (Sum.inl _ : Option qV ⊕ (Nat × qL × List qV)) = Sum.inr q := hq
                cases hq
            · skip
              refine qy_TP.pre (ρ' := ρ ++ xs) (g' := zUT_u0s_dn1gb.1) (w' := zUT_u0s_dn1gb.2.1) (lo' := zUT_u0s_dn1gb.2.2.1) (st' := zUT_u0s_dn1gb.2.2.2) ?_ (hwC1 hc) (fun h => h.to xs [(53, 0, 29), (54, -2147483648, 2147483647), (55, -2147483648, -1), (56, -2147483648, 2147483647), (57, 2, 2147483647), (58, -2147483648, 2147483647)] [((.ofNat 1), 22, (.negSucc 0), 53, (.ofNat 1)), ((.ofNat 1), 45, (.negSucc 0), 54, (.ofNat 0)), ((.ofNat 1), 58, (.negSucc 0), 56, (.ofNat 0))] (by decide +kernel) (by rw [hlx]; rfl) (by decide +kernel) (fa_ex xj (by omega) (by omega) (fa_ex xa (by have := q_i32bd (fc 34 j); omega) (by have := q_i32bd (fc 34 j); omega) (fa_ex xu (by have := q_i32bd (fc 35 j); omega) (by have := q_i32bd (fc 35 j); omega) (fa_ex xm (by have := q_i32bd (fc 32 j); omega) (by have := q_i32bd (fc 32 j); omega) (fa_ex xi (by have := q_i32bd (fc 33 j); omega) (by have := q_i32bd (fc 33 j); omega) (fa_ex xh (by have := q_i32bd (fc 30 (5 * v + (fc 31 j).toInt).toNat); omega) (by have := q_i32bd (fc 30 (5 * v + (fc 31 j).toInt).toNat); omega) fa_nil)))))) (fa_cons ⟨_, _, xs_, xj, by show (1 : Int) ≤ 1 * se + (-1) * (j : Int); omega⟩ (fa_cons ⟨_, _, xk, xa, by show (0 : Int) ≤ 1 * k + (-1) * (fc 34 j).toInt; omega⟩ (fa_cons ⟨_, _, xh, xm, by show (0 : Int) ≤ 1 * (fc 30 (5 * v + (fc 31 j).toInt).toNat).toInt + (-1) * (fc 32 j).toInt; omega⟩ fa_nil)))) (fun _ _ h => h.mono he) (fun _ h => h.mono he)
              refine qs_lnkB (p := 53) (ρ := ρ ++ xs) fa_nil hT hA zUg_u0dn1gb (fa_cons (fun ρ1 ht1 hL hg1 _ => ⟨fun rv hrv => ?r0, fun q hq => ?c0⟩) fa_nil)
              case r0 =>
                have hl1 : ρ1.length = 53 := hg1.len rfl
                refine ⟨rfl, ?_, Or.inr ⟨rfl, fun hF => ?_⟩⟩
                · rw [List.take_append_of_le_length (by omega), ht] at ht1
                  rw [← ht1, List.take_of_length_le (by omega)]
                · have hj2 := hF j (by omega)
                  unfold hs_ok at hj2
                  omega
              case c0 =>
                have hq : (Sum.inl _ : Option qV ⊕ (Nat × qL × List qV)) = Sum.inr q := hq
                cases hq
        · rcases Int.lt_or_le (fc 30 (5 * v + (fc 31 j).toInt).toNat).toInt (fc 32 j).toInt with c3 | c3
          · have c5 : (fc 33 j).toInt = 0 ∨ (fc 33 j).toInt ≤ -1 ∨ 1 ≤ (fc 33 j).toInt := by omega
            rcases c5 with c4 | c4 | c4
            · skip
              refine qy_TP.pre (ρ' := ρ ++ xs) (g' := zUT_u0s_dn2le.1) (w' := zUT_u0s_dn2le.2.1) (lo' := zUT_u0s_dn2le.2.2.1) (st' := zUT_u0s_dn2le.2.2.2) ?_ (hwC2 hc) (fun h => h.to xs [(53, 0, 29), (54, -2147483648, 2147483647), (55, -2147483648, -1), (56, -2147483648, 2147483647), (57, 0, 0), (58, -2147483648, 2147483647)] [((.ofNat 1), 22, (.negSucc 0), 53, (.ofNat 1)), ((.ofNat 1), 45, (.negSucc 0), 54, (.ofNat 0)), ((.ofNat 1), 56, (.negSucc 0), 58, (.ofNat 1))] (by decide +kernel) (by rw [hlx]; rfl) (by decide +kernel) (fa_ex xj (by omega) (by omega) (fa_ex xa (by have := q_i32bd (fc 34 j); omega) (by have := q_i32bd (fc 34 j); omega) (fa_ex xu (by have := q_i32bd (fc 35 j); omega) (by have := q_i32bd (fc 35 j); omega) (fa_ex xm (by have := q_i32bd (fc 32 j); omega) (by have := q_i32bd (fc 32 j); omega) (fa_ex xi (by have := q_i32bd (fc 33 j); omega) (by have := q_i32bd (fc 33 j); omega) (fa_ex xh (by have := q_i32bd (fc 30 (5 * v + (fc 31 j).toInt).toNat); omega) (by have := q_i32bd (fc 30 (5 * v + (fc 31 j).toInt).toNat); omega) fa_nil)))))) (fa_cons ⟨_, _, xs_, xj, by show (1 : Int) ≤ 1 * se + (-1) * (j : Int); omega⟩ (fa_cons ⟨_, _, xk, xa, by show (0 : Int) ≤ 1 * k + (-1) * (fc 34 j).toInt; omega⟩ (fa_cons ⟨_, _, xm, xh, by show (1 : Int) ≤ 1 * (fc 32 j).toInt + (-1) * (fc 30 (5 * v + (fc 31 j).toInt).toNat).toInt; omega⟩ fa_nil)))) (fun _ _ h => h.mono he) (fun _ h => h.mono he)
              refine qs_lnkB (p := 53) (ρ := ρ ++ xs) fa_nil hT hA zUg_u0dn2le (fa_cons (fun ρ1 ht1 hL hg1 _ => ⟨fun rv hrv => ?r0, fun q hq => ?c0⟩) fa_nil)
              case r0 =>
                have hrv : (Sum.inr _ : Option qV ⊕ (Nat × qL × List qV)) = Sum.inl rv := hrv
                cases hrv
              case c0 =>
                have hq : (Sum.inr _ : Option qV ⊕ (Nat × qL × List qV)) = Sum.inr q := hq
                cases hq
                have lj := (hL.n (i := 53) (d := 1) List.mem_cons_self xj)
                exact ih ρ1 (j + 1) (by rw [ht1, List.take_append_of_le_length (by omega)]; exact ht) (by rw [lj]; exact congrArg some (by omega)) (by omega) (fun i hi => by
                  rcases Nat.lt_or_ge i j with z | z
                  · exact hok i z
                  · have e : i = j := by omega
                    rw [e]
                    exact Or.inr (Or.inr (Or.inr ⟨c3, c4⟩)))
            · skip
              refine qy_TP.pre (ρ' := ρ ++ xs) (g' := zUT_u0s_dn2la.1) (w' := zUT_u0s_dn2la.2.1) (lo' := zUT_u0s_dn2la.2.2.1) (st' := zUT_u0s_dn2la.2.2.2) ?_ (hwC2 hc) (fun h => h.to xs [(53, 0, 29), (54, -2147483648, 2147483647), (55, -2147483648, -1), (56, -2147483648, 2147483647), (57, -2147483648, -1), (58, -2147483648, 2147483647)] [((.ofNat 1), 22, (.negSucc 0), 53, (.ofNat 1)), ((.ofNat 1), 45, (.negSucc 0), 54, (.ofNat 0)), ((.ofNat 1), 56, (.negSucc 0), 58, (.ofNat 1))] (by decide +kernel) (by rw [hlx]; rfl) (by decide +kernel) (fa_ex xj (by omega) (by omega) (fa_ex xa (by have := q_i32bd (fc 34 j); omega) (by have := q_i32bd (fc 34 j); omega) (fa_ex xu (by have := q_i32bd (fc 35 j); omega) (by have := q_i32bd (fc 35 j); omega) (fa_ex xm (by have := q_i32bd (fc 32 j); omega) (by have := q_i32bd (fc 32 j); omega) (fa_ex xi (by have := q_i32bd (fc 33 j); omega) (by have := q_i32bd (fc 33 j); omega) (fa_ex xh (by have := q_i32bd (fc 30 (5 * v + (fc 31 j).toInt).toNat); omega) (by have := q_i32bd (fc 30 (5 * v + (fc 31 j).toInt).toNat); omega) fa_nil)))))) (fa_cons ⟨_, _, xs_, xj, by show (1 : Int) ≤ 1 * se + (-1) * (j : Int); omega⟩ (fa_cons ⟨_, _, xk, xa, by show (0 : Int) ≤ 1 * k + (-1) * (fc 34 j).toInt; omega⟩ (fa_cons ⟨_, _, xm, xh, by show (1 : Int) ≤ 1 * (fc 32 j).toInt + (-1) * (fc 30 (5 * v + (fc 31 j).toInt).toNat).toInt; omega⟩ fa_nil)))) (fun _ _ h => h.mono he) (fun _ h => h.mono he)
              refine qs_lnkB (p := 53) (ρ := ρ ++ xs) fa_nil hT hA zUg_u0dn2la (fa_cons (fun ρ1 ht1 hL hg1 _ => ⟨fun rv hrv => ?r0, fun q hq => ?c0⟩) fa_nil)
              case r0 =>
                have hl1 : ρ1.length = 53 := hg1.len rfl
                refine ⟨rfl, ?_, Or.inr ⟨rfl, fun hF => ?_⟩⟩
                · rw [List.take_append_of_le_length (by omega), ht] at ht1
                  rw [← ht1, List.take_of_length_le (by omega)]
                · have hj2 := hF j (by omega)
                  unfold hs_ok at hj2
                  omega
              case c0 =>
                have hq : (Sum.inl _ : Option qV ⊕ (Nat × qL × List qV)) = Sum.inr q := hq
                cases hq
            · skip
              refine qy_TP.pre (ρ' := ρ ++ xs) (g' := zUT_u0s_dn2lb.1) (w' := zUT_u0s_dn2lb.2.1) (lo' := zUT_u0s_dn2lb.2.2.1) (st' := zUT_u0s_dn2lb.2.2.2) ?_ (hwC2 hc) (fun h => h.to xs [(53, 0, 29), (54, -2147483648, 2147483647), (55, -2147483648, -1), (56, -2147483648, 2147483647), (57, 1, 2147483647), (58, -2147483648, 2147483647)] [((.ofNat 1), 22, (.negSucc 0), 53, (.ofNat 1)), ((.ofNat 1), 45, (.negSucc 0), 54, (.ofNat 0)), ((.ofNat 1), 56, (.negSucc 0), 58, (.ofNat 1))] (by decide +kernel) (by rw [hlx]; rfl) (by decide +kernel) (fa_ex xj (by omega) (by omega) (fa_ex xa (by have := q_i32bd (fc 34 j); omega) (by have := q_i32bd (fc 34 j); omega) (fa_ex xu (by have := q_i32bd (fc 35 j); omega) (by have := q_i32bd (fc 35 j); omega) (fa_ex xm (by have := q_i32bd (fc 32 j); omega) (by have := q_i32bd (fc 32 j); omega) (fa_ex xi (by have := q_i32bd (fc 33 j); omega) (by have := q_i32bd (fc 33 j); omega) (fa_ex xh (by have := q_i32bd (fc 30 (5 * v + (fc 31 j).toInt).toNat); omega) (by have := q_i32bd (fc 30 (5 * v + (fc 31 j).toInt).toNat); omega) fa_nil)))))) (fa_cons ⟨_, _, xs_, xj, by show (1 : Int) ≤ 1 * se + (-1) * (j : Int); omega⟩ (fa_cons ⟨_, _, xk, xa, by show (0 : Int) ≤ 1 * k + (-1) * (fc 34 j).toInt; omega⟩ (fa_cons ⟨_, _, xm, xh, by show (1 : Int) ≤ 1 * (fc 32 j).toInt + (-1) * (fc 30 (5 * v + (fc 31 j).toInt).toNat).toInt; omega⟩ fa_nil)))) (fun _ _ h => h.mono he) (fun _ h => h.mono he)
              refine qs_lnkB (p := 53) (ρ := ρ ++ xs) fa_nil hT hA zUg_u0dn2lb (fa_cons (fun ρ1 ht1 hL hg1 _ => ⟨fun rv hrv => ?r0, fun q hq => ?c0⟩) fa_nil)
              case r0 =>
                have hl1 : ρ1.length = 53 := hg1.len rfl
                refine ⟨rfl, ?_, Or.inr ⟨rfl, fun hF => ?_⟩⟩
                · rw [List.take_append_of_le_length (by omega), ht] at ht1
                  rw [← ht1, List.take_of_length_le (by omega)]
                · have hj2 := hF j (by omega)
                  unfold hs_ok at hj2
                  omega
              case c0 =>
                have hq : (Sum.inl _ : Option qV ⊕ (Nat × qL × List qV)) = Sum.inr q := hq
                cases hq
          · have c5 : (fc 33 j).toInt = 1 ∨ (fc 33 j).toInt ≤ 0 ∨ 2 ≤ (fc 33 j).toInt := by omega
            rcases c5 with c4 | c4 | c4
            · skip
              refine qy_TP.pre (ρ' := ρ ++ xs) (g' := zUT_u0s_dn2ge.1) (w' := zUT_u0s_dn2ge.2.1) (lo' := zUT_u0s_dn2ge.2.2.1) (st' := zUT_u0s_dn2ge.2.2.2) ?_ (hwC2 hc) (fun h => h.to xs [(53, 0, 29), (54, -2147483648, 2147483647), (55, -2147483648, -1), (56, -2147483648, 2147483647), (57, 1, 1), (58, -2147483648, 2147483647)] [((.ofNat 1), 22, (.negSucc 0), 53, (.ofNat 1)), ((.ofNat 1), 45, (.negSucc 0), 54, (.ofNat 0)), ((.ofNat 1), 58, (.negSucc 0), 56, (.ofNat 0))] (by decide +kernel) (by rw [hlx]; rfl) (by decide +kernel) (fa_ex xj (by omega) (by omega) (fa_ex xa (by have := q_i32bd (fc 34 j); omega) (by have := q_i32bd (fc 34 j); omega) (fa_ex xu (by have := q_i32bd (fc 35 j); omega) (by have := q_i32bd (fc 35 j); omega) (fa_ex xm (by have := q_i32bd (fc 32 j); omega) (by have := q_i32bd (fc 32 j); omega) (fa_ex xi (by have := q_i32bd (fc 33 j); omega) (by have := q_i32bd (fc 33 j); omega) (fa_ex xh (by have := q_i32bd (fc 30 (5 * v + (fc 31 j).toInt).toNat); omega) (by have := q_i32bd (fc 30 (5 * v + (fc 31 j).toInt).toNat); omega) fa_nil)))))) (fa_cons ⟨_, _, xs_, xj, by show (1 : Int) ≤ 1 * se + (-1) * (j : Int); omega⟩ (fa_cons ⟨_, _, xk, xa, by show (0 : Int) ≤ 1 * k + (-1) * (fc 34 j).toInt; omega⟩ (fa_cons ⟨_, _, xh, xm, by show (0 : Int) ≤ 1 * (fc 30 (5 * v + (fc 31 j).toInt).toNat).toInt + (-1) * (fc 32 j).toInt; omega⟩ fa_nil)))) (fun _ _ h => h.mono he) (fun _ h => h.mono he)
              refine qs_lnkB (p := 53) (ρ := ρ ++ xs) fa_nil hT hA zUg_u0dn2ge (fa_cons (fun ρ1 ht1 hL hg1 _ => ⟨fun rv hrv => ?r0, fun q hq => ?c0⟩) fa_nil)
              case r0 =>
                have hrv : (Sum.inr _ : Option qV ⊕ (Nat × qL × List qV)) = Sum.inl rv := hrv
                cases hrv
              case c0 =>
                have hq : (Sum.inr _ : Option qV ⊕ (Nat × qL × List qV)) = Sum.inr q := hq
                cases hq
                have lj := (hL.n (i := 53) (d := 1) List.mem_cons_self xj)
                exact ih ρ1 (j + 1) (by rw [ht1, List.take_append_of_le_length (by omega)]; exact ht) (by rw [lj]; exact congrArg some (by omega)) (by omega) (fun i hi => by
                  rcases Nat.lt_or_ge i j with z | z
                  · exact hok i z
                  · have e : i = j := by omega
                    rw [e]
                    exact Or.inr (Or.inr (Or.inl ⟨c3, c4⟩)))
            · skip
              refine qy_TP.pre (ρ' := ρ ++ xs) (g' := zUT_u0s_dn2ga.1) (w' := zUT_u0s_dn2ga.2.1) (lo' := zUT_u0s_dn2ga.2.2.1) (st' := zUT_u0s_dn2ga.2.2.2) ?_ (hwC2 hc) (fun h => h.to xs [(53, 0, 29), (54, -2147483648, 2147483647), (55, -2147483648, -1), (56, -2147483648, 2147483647), (57, -2147483648, 0), (58, -2147483648, 2147483647)] [((.ofNat 1), 22, (.negSucc 0), 53, (.ofNat 1)), ((.ofNat 1), 45, (.negSucc 0), 54, (.ofNat 0)), ((.ofNat 1), 58, (.negSucc 0), 56, (.ofNat 0))] (by decide +kernel) (by rw [hlx]; rfl) (by decide +kernel) (fa_ex xj (by omega) (by omega) (fa_ex xa (by have := q_i32bd (fc 34 j); omega) (by have := q_i32bd (fc 34 j); omega) (fa_ex xu (by have := q_i32bd (fc 35 j); omega) (by have := q_i32bd (fc 35 j); omega) (fa_ex xm (by have := q_i32bd (fc 32 j); omega) (by have := q_i32bd (fc 32 j); omega) (fa_ex xi (by have := q_i32bd (fc 33 j); omega) (by have := q_i32bd (fc 33 j); omega) (fa_ex xh (by have := q_i32bd (fc 30 (5 * v + (fc 31 j).toInt).toNat); omega) (by have := q_i32bd (fc 30 (5 * v + (fc 31 j).toInt).toNat); omega) fa_nil)))))) (fa_cons ⟨_, _, xs_, xj, by show (1 : Int) ≤ 1 * se + (-1) * (j : Int); omega⟩ (fa_cons ⟨_, _, xk, xa, by show (0 : Int) ≤ 1 * k + (-1) * (fc 34 j).toInt; omega⟩ (fa_cons ⟨_, _, xh, xm, by show (0 : Int) ≤ 1 * (fc 30 (5 * v + (fc 31 j).toInt).toNat).toInt + (-1) * (fc 32 j).toInt; omega⟩ fa_nil)))) (fun _ _ h => h.mono he) (fun _ h => h.mono he)
              refine qs_lnkB (p := 53) (ρ := ρ ++ xs) fa_nil hT hA zUg_u0dn2ga (fa_cons (fun ρ1 ht1 hL hg1 _ => ⟨fun rv hrv => ?r0, fun q hq => ?c0⟩) fa_nil)
              case r0 =>
                have hl1 : ρ1.length = 53 := hg1.len rfl
                refine ⟨rfl, ?_, Or.inr ⟨rfl, fun hF => ?_⟩⟩
                · rw [List.take_append_of_le_length (by omega), ht] at ht1
                  rw [← ht1, List.take_of_length_le (by omega)]
                · have hj2 := hF j (by omega)
                  unfold hs_ok at hj2
                  omega
              case c0 =>
                have hq : (Sum.inl _ : Option qV ⊕ (Nat × qL × List qV)) = Sum.inr q := hq
                cases hq
            · skip
              refine qy_TP.pre (ρ' := ρ ++ xs) (g' := zUT_u0s_dn2gb.1) (w' := zUT_u0s_dn2gb.2.1) (lo' := zUT_u0s_dn2gb.2.2.1) (st' := zUT_u0s_dn2gb.2.2.2) ?_ (hwC2 hc) (fun h => h.to xs [(53, 0, 29), (54, -2147483648, 2147483647), (55, -2147483648, -1), (56, -2147483648, 2147483647), (57, 2, 2147483647), (58, -2147483648, 2147483647)] [((.ofNat 1), 22, (.negSucc 0), 53, (.ofNat 1)), ((.ofNat 1), 45, (.negSucc 0), 54, (.ofNat 0)), ((.ofNat 1), 58, (.negSucc 0), 56, (.ofNat 0))] (by decide +kernel) (by rw [hlx]; rfl) (by decide +kernel) (fa_ex xj (by omega) (by omega) (fa_ex xa (by have := q_i32bd (fc 34 j); omega) (by have := q_i32bd (fc 34 j); omega) (fa_ex xu (by have := q_i32bd (fc 35 j); omega) (by have := q_i32bd (fc 35 j); omega) (fa_ex xm (by have := q_i32bd (fc 32 j); omega) (by have := q_i32bd (fc 32 j); omega) (fa_ex xi (by have := q_i32bd (fc 33 j); omega) (by have := q_i32bd (fc 33 j); omega) (fa_ex xh (by have := q_i32bd (fc 30 (5 * v + (fc 31 j).toInt).toNat); omega) (by have := q_i32bd (fc 30 (5 * v + (fc 31 j).toInt).toNat); omega) fa_nil)))))) (fa_cons ⟨_, _, xs_, xj, by show (1 : Int) ≤ 1 * se + (-1) * (j : Int); omega⟩ (fa_cons ⟨_, _, xk, xa, by show (0 : Int) ≤ 1 * k + (-1) * (fc 34 j).toInt; omega⟩ (fa_cons ⟨_, _, xh, xm, by show (0 : Int) ≤ 1 * (fc 30 (5 * v + (fc 31 j).toInt).toNat).toInt + (-1) * (fc 32 j).toInt; omega⟩ fa_nil)))) (fun _ _ h => h.mono he) (fun _ h => h.mono he)
              refine qs_lnkB (p := 53) (ρ := ρ ++ xs) fa_nil hT hA zUg_u0dn2gb (fa_cons (fun ρ1 ht1 hL hg1 _ => ⟨fun rv hrv => ?r0, fun q hq => ?c0⟩) fa_nil)
              case r0 =>
                have hl1 : ρ1.length = 53 := hg1.len rfl
                refine ⟨rfl, ?_, Or.inr ⟨rfl, fun hF => ?_⟩⟩
                · rw [List.take_append_of_le_length (by omega), ht] at ht1
                  rw [← ht1, List.take_of_length_le (by omega)]
                · have hj2 := hF j (by omega)
                  unfold hs_ok at hj2
                  omega
              case c0 =>
                have hq : (Sum.inl _ : Option qV ⊕ (Nat × qL × List qV)) = Sum.inr q := hq
                cases hq
        · rcases Int.lt_or_le (fc 30 (5 * v + (fc 31 j).toInt).toNat).toInt (fc 32 j).toInt with c3 | c3
          · have c5 : (fc 33 j).toInt = 0 ∨ (fc 33 j).toInt ≤ -1 ∨ 1 ≤ (fc 33 j).toInt := by omega
            rcases c5 with c4 | c4 | c4
            · skip
              refine qy_TP.pre (ρ' := ρ ++ xs) (g' := zUT_u0s_dn3le.1) (w' := zUT_u0s_dn3le.2.1) (lo' := zUT_u0s_dn3le.2.2.1) (st' := zUT_u0s_dn3le.2.2.2) ?_ (hwC3 hc) (fun h => h.to xs [(53, 0, 29), (54, -2147483648, 2147483647), (55, -2147483648, -1), (56, -2147483648, 2147483647), (57, 0, 0), (58, -2147483648, 2147483647)] [((.ofNat 1), 22, (.negSucc 0), 53, (.ofNat 1)), ((.ofNat 1), 45, (.negSucc 0), 54, (.ofNat 0)), ((.ofNat 1), 56, (.negSucc 0), 58, (.ofNat 1))] (by decide +kernel) (by rw [hlx]; rfl) (by decide +kernel) (fa_ex xj (by omega) (by omega) (fa_ex xa (by have := q_i32bd (fc 34 j); omega) (by have := q_i32bd (fc 34 j); omega) (fa_ex xu (by have := q_i32bd (fc 35 j); omega) (by have := q_i32bd (fc 35 j); omega) (fa_ex xm (by have := q_i32bd (fc 32 j); omega) (by have := q_i32bd (fc 32 j); omega) (fa_ex xi (by have := q_i32bd (fc 33 j); omega) (by have := q_i32bd (fc 33 j); omega) (fa_ex xh (by have := q_i32bd (fc 30 (5 * v + (fc 31 j).toInt).toNat); omega) (by have := q_i32bd (fc 30 (5 * v + (fc 31 j).toInt).toNat); omega) fa_nil)))))) (fa_cons ⟨_, _, xs_, xj, by show (1 : Int) ≤ 1 * se + (-1) * (j : Int); omega⟩ (fa_cons ⟨_, _, xk, xa, by show (0 : Int) ≤ 1 * k + (-1) * (fc 34 j).toInt; omega⟩ (fa_cons ⟨_, _, xm, xh, by show (1 : Int) ≤ 1 * (fc 32 j).toInt + (-1) * (fc 30 (5 * v + (fc 31 j).toInt).toNat).toInt; omega⟩ fa_nil)))) (fun _ _ h => h.mono he) (fun _ h => h.mono he)
              refine qs_lnkB (p := 53) (ρ := ρ ++ xs) fa_nil hT hA zUg_u0dn3le (fa_cons (fun ρ1 ht1 hL hg1 _ => ⟨fun rv hrv => ?r0, fun q hq => ?c0⟩) fa_nil)
              case r0 =>
                have hrv : (Sum.inr _ : Option qV ⊕ (Nat × qL × List qV)) = Sum.inl rv := hrv
                cases hrv
              case c0 =>
                have hq : (Sum.inr _ : Option qV ⊕ (Nat × qL × List qV)) = Sum.inr q := hq
                cases hq
                have lj := (hL.n (i := 53) (d := 1) List.mem_cons_self xj)
                exact ih ρ1 (j + 1) (by rw [ht1, List.take_append_of_le_length (by omega)]; exact ht) (by rw [lj]; exact congrArg some (by omega)) (by omega) (fun i hi => by
                  rcases Nat.lt_or_ge i j with z | z
                  · exact hok i z
                  · have e : i = j := by omega
                    rw [e]
                    exact Or.inr (Or.inr (Or.inr ⟨c3, c4⟩)))
            · skip
              refine qy_TP.pre (ρ' := ρ ++ xs) (g' := zUT_u0s_dn3la.1) (w' := zUT_u0s_dn3la.2.1) (lo' := zUT_u0s_dn3la.2.2.1) (st' := zUT_u0s_dn3la.2.2.2) ?_ (hwC3 hc) (fun h => h.to xs [(53, 0, 29), (54, -2147483648, 2147483647), (55, -2147483648, -1), (56, -2147483648, 2147483647), (57, -2147483648, -1), (58, -2147483648, 2147483647)] [((.ofNat 1), 22, (.negSucc 0), 53, (.ofNat 1)), ((.ofNat 1), 45, (.negSucc 0), 54, (.ofNat 0)), ((.ofNat 1), 56, (.negSucc 0), 58, (.ofNat 1))] (by decide +kernel) (by rw [hlx]; rfl) (by decide +kernel) (fa_ex xj (by omega) (by omega) (fa_ex xa (by have := q_i32bd (fc 34 j); omega) (by have := q_i32bd (fc 34 j); omega) (fa_ex xu (by have := q_i32bd (fc 35 j); omega) (by have := q_i32bd (fc 35 j); omega) (fa_ex xm (by have := q_i32bd (fc 32 j); omega) (by have := q_i32bd (fc 32 j); omega) (fa_ex xi (by have := q_i32bd (fc 33 j); omega) (by have := q_i32bd (fc 33 j); omega) (fa_ex xh (by have := q_i32bd (fc 30 (5 * v + (fc 31 j).toInt).toNat); omega) (by have := q_i32bd (fc 30 (5 * v + (fc 31 j).toInt).toNat); omega) fa_nil)))))) (fa_cons ⟨_, _, xs_, xj, by show (1 : Int) ≤ 1 * se + (-1) * (j : Int); omega⟩ (fa_cons ⟨_, _, xk, xa, by show (0 : Int) ≤ 1 * k + (-1) * (fc 34 j).toInt; omega⟩ (fa_cons ⟨_, _, xm, xh, by show (1 : Int) ≤ 1 * (fc 32 j).toInt + (-1) * (fc 30 (5 * v + (fc 31 j).toInt).toNat).toInt; omega⟩ fa_nil)))) (fun _ _ h => h.mono he) (fun _ h => h.mono he)
              refine qs_lnkB (p := 53) (ρ := ρ ++ xs) fa_nil hT hA zUg_u0dn3la (fa_cons (fun ρ1 ht1 hL hg1 _ => ⟨fun rv hrv => ?r0, fun q hq => ?c0⟩) fa_nil)
              case r0 =>
                have hl1 : ρ1.length = 53 := hg1.len rfl
                refine ⟨rfl, ?_, Or.inr ⟨rfl, fun hF => ?_⟩⟩
                · rw [List.take_append_of_le_length (by omega), ht] at ht1
                  rw [← ht1, List.take_of_length_le (by omega)]
                · have hj2 := hF j (by omega)
                  unfold hs_ok at hj2
                  omega
              case c0 =>
                have hq : (Sum.inl _ : Option qV ⊕ (Nat × qL × List qV)) = Sum.inr q := hq
                cases hq
            · skip
              refine qy_TP.pre (ρ' := ρ ++ xs) (g' := zUT_u0s_dn3lb.1) (w' := zUT_u0s_dn3lb.2.1) (lo' := zUT_u0s_dn3lb.2.2.1) (st' := zUT_u0s_dn3lb.2.2.2) ?_ (hwC3 hc) (fun h => h.to xs [(53, 0, 29), (54, -2147483648, 2147483647), (55, -2147483648, -1), (56, -2147483648, 2147483647), (57, 1, 2147483647), (58, -2147483648, 2147483647)] [((.ofNat 1), 22, (.negSucc 0), 53, (.ofNat 1)), ((.ofNat 1), 45, (.negSucc 0), 54, (.ofNat 0)), ((.ofNat 1), 56, (.negSucc 0), 58, (.ofNat 1))] (by decide +kernel) (by rw [hlx]; rfl) (by decide +kernel) (fa_ex xj (by omega) (by omega) (fa_ex xa (by have := q_i32bd (fc 34 j); omega) (by have := q_i32bd (fc 34 j); omega) (fa_ex xu (by have := q_i32bd (fc 35 j); omega) (by have := q_i32bd (fc 35 j); omega) (fa_ex xm (by have := q_i32bd (fc 32 j); omega) (by have := q_i32bd (fc 32 j); omega) (fa_ex xi (by have := q_i32bd (fc 33 j); omega) (by have := q_i32bd (fc 33 j); omega) (fa_ex xh (by have := q_i32bd (fc 30 (5 * v + (fc 31 j).toInt).toNat); omega) (by have := q_i32bd (fc 30 (5 * v + (fc 31 j).toInt).toNat); omega) fa_nil)))))) (fa_cons ⟨_, _, xs_, xj, by show (1 : Int) ≤ 1 * se + (-1) * (j : Int); omega⟩ (fa_cons ⟨_, _, xk, xa, by show (0 : Int) ≤ 1 * k + (-1) * (fc 34 j).toInt; omega⟩ (fa_cons ⟨_, _, xm, xh, by show (1 : Int) ≤ 1 * (fc 32 j).toInt + (-1) * (fc 30 (5 * v + (fc 31 j).toInt).toNat).toInt; omega⟩ fa_nil)))) (fun _ _ h => h.mono he) (fun _ h => h.mono he)
              refine qs_lnkB (p := 53) (ρ := ρ ++ xs) fa_nil hT hA zUg_u0dn3lb (fa_cons (fun ρ1 ht1 hL hg1 _ => ⟨fun rv hrv => ?r0, fun q hq => ?c0⟩) fa_nil)
              case r0 =>
                have hl1 : ρ1.length = 53 := hg1.len rfl
                refine ⟨rfl, ?_, Or.inr ⟨rfl, fun hF => ?_⟩⟩
                · rw [List.take_append_of_le_length (by omega), ht] at ht1
                  rw [← ht1, List.take_of_length_le (by omega)]
                · have hj2 := hF j (by omega)
                  unfold hs_ok at hj2
                  omega
              case c0 =>
                have hq : (Sum.inl _ : Option qV ⊕ (Nat × qL × List qV)) = Sum.inr q := hq
                cases hq
          · have c5 : (fc 33 j).toInt = 1 ∨ (fc 33 j).toInt ≤ 0 ∨ 2 ≤ (fc 33 j).toInt := by omega
            rcases c5 with c4 | c4 | c4
            · skip
              refine qy_TP.pre (ρ' := ρ ++ xs) (g' := zUT_u0s_dn3ge.1) (w' := zUT_u0s_dn3ge.2.1) (lo' := zUT_u0s_dn3ge.2.2.1) (st' := zUT_u0s_dn3ge.2.2.2) ?_ (hwC3 hc) (fun h => h.to xs [(53, 0, 29), (54, -2147483648, 2147483647), (55, -2147483648, -1), (56, -2147483648, 2147483647), (57, 1, 1), (58, -2147483648, 2147483647)] [((.ofNat 1), 22, (.negSucc 0), 53, (.ofNat 1)), ((.ofNat 1), 45, (.negSucc 0), 54, (.ofNat 0)), ((.ofNat 1), 58, (.negSucc 0), 56, (.ofNat 0))] (by decide +kernel) (by rw [hlx]; rfl) (by decide +kernel) (fa_ex xj (by omega) (by omega) (fa_ex xa (by have := q_i32bd (fc 34 j); omega) (by have := q_i32bd (fc 34 j); omega) (fa_ex xu (by have := q_i32bd (fc 35 j); omega) (by have := q_i32bd (fc 35 j); omega) (fa_ex xm (by have := q_i32bd (fc 32 j); omega) (by have := q_i32bd (fc 32 j); omega) (fa_ex xi (by have := q_i32bd (fc 33 j); omega) (by have := q_i32bd (fc 33 j); omega) (fa_ex xh (by have := q_i32bd (fc 30 (5 * v + (fc 31 j).toInt).toNat); omega) (by have := q_i32bd (fc 30 (5 * v + (fc 31 j).toInt).toNat); omega) fa_nil)))))) (fa_cons ⟨_, _, xs_, xj, by show (1 : Int) ≤ 1 * se + (-1) * (j : Int); omega⟩ (fa_cons ⟨_, _, xk, xa, by show (0 : Int) ≤ 1 * k + (-1) * (fc 34 j).toInt; omega⟩ (fa_cons ⟨_, _, xh, xm, by show (0 : Int) ≤ 1 * (fc 30 (5 * v + (fc 31 j).toInt).toNat).toInt + (-1) * (fc 32 j).toInt; omega⟩ fa_nil)))) (fun _ _ h => h.mono he) (fun _ h => h.mono he)
              refine qs_lnkB (p := 53) (ρ := ρ ++ xs) fa_nil hT hA zUg_u0dn3ge (fa_cons (fun ρ1 ht1 hL hg1 _ => ⟨fun rv hrv => ?r0, fun q hq => ?c0⟩) fa_nil)
              case r0 =>
                have hrv : (Sum.inr _ : Option qV ⊕ (Nat × qL × List qV)) = Sum.inl rv := hrv
                cases hrv
              case c0 =>
                have hq : (Sum.inr _ : Option qV ⊕ (Nat × qL × List qV)) = Sum.inr q := hq
                cases hq
                have lj := (hL.n (i := 53) (d := 1) List.mem_cons_self xj)
                exact ih ρ1 (j + 1) (by rw [ht1, List.take_append_of_le_length (by omega)]; exact ht) (by rw [lj]; exact congrArg some (by omega)) (by omega) (fun i hi => by
                  rcases Nat.lt_or_ge i j with z | z
                  · exact hok i z
                  · have e : i = j := by omega
                    rw [e]
                    exact Or.inr (Or.inr (Or.inl ⟨c3, c4⟩)))
            · skip
              refine qy_TP.pre (ρ' := ρ ++ xs) (g' := zUT_u0s_dn3ga.1) (w' := zUT_u0s_dn3ga.2.1) (lo' := zUT_u0s_dn3ga.2.2.1) (st' := zUT_u0s_dn3ga.2.2.2) ?_ (hwC3 hc) (fun h => h.to xs [(53, 0, 29), (54, -2147483648, 2147483647), (55, -2147483648, -1), (56, -2147483648, 2147483647), (57, -2147483648, 0), (58, -2147483648, 2147483647)] [((.ofNat 1), 22, (.negSucc 0), 53, (.ofNat 1)), ((.ofNat 1), 45, (.negSucc 0), 54, (.ofNat 0)), ((.ofNat 1), 58, (.negSucc 0), 56, (.ofNat 0))] (by decide +kernel) (by rw [hlx]; rfl) (by decide +kernel) (fa_ex xj (by omega) (by omega) (fa_ex xa (by have := q_i32bd (fc 34 j); omega) (by have := q_i32bd (fc 34 j); omega) (fa_ex xu (by have := q_i32bd (fc 35 j); omega) (by have := q_i32bd (fc 35 j); omega) (fa_ex xm (by have := q_i32bd (fc 32 j); omega) (by have := q_i32bd (fc 32 j); omega) (fa_ex xi (by have := q_i32bd (fc 33 j); omega) (by have := q_i32bd (fc 33 j); omega) (fa_ex xh (by have := q_i32bd (fc 30 (5 * v + (fc 31 j).toInt).toNat); omega) (by have := q_i32bd (fc 30 (5 * v + (fc 31 j).toInt).toNat); omega) fa_nil)))))) (fa_cons ⟨_, _, xs_, xj, by show (1 : Int) ≤ 1 * se + (-1) * (j : Int); omega⟩ (fa_cons ⟨_, _, xk, xa, by show (0 : Int) ≤ 1 * k + (-1) * (fc 34 j).toInt; omega⟩ (fa_cons ⟨_, _, xh, xm, by show (0 : Int) ≤ 1 * (fc 30 (5 * v + (fc 31 j).toInt).toNat).toInt + (-1) * (fc 32 j).toInt; omega⟩ fa_nil)))) (fun _ _ h => h.mono he) (fun _ h => h.mono he)
              refine qs_lnkB (p := 53) (ρ := ρ ++ xs) fa_nil hT hA zUg_u0dn3ga (fa_cons (fun ρ1 ht1 hL hg1 _ => ⟨fun rv hrv => ?r0, fun q hq => ?c0⟩) fa_nil)
              case r0 =>
                have hl1 : ρ1.length = 53 := hg1.len rfl
                refine ⟨rfl, ?_, Or.inr ⟨rfl, fun hF => ?_⟩⟩
                · rw [List.take_append_of_le_length (by omega), ht] at ht1
                  rw [← ht1, List.take_of_length_le (by omega)]
                · have hj2 := hF j (by omega)
                  unfold hs_ok at hj2
                  omega
              case c0 =>
                have hq : (Sum.inl _ : Option qV ⊕ (Nat × qL × List qV)) = Sum.inr q := hq
                cases hq
            · skip
              refine qy_TP.pre (ρ' := ρ ++ xs) (g' := zUT_u0s_dn3gb.1) (w' := zUT_u0s_dn3gb.2.1) (lo' := zUT_u0s_dn3gb.2.2.1) (st' := zUT_u0s_dn3gb.2.2.2) ?_ (hwC3 hc) (fun h => h.to xs [(53, 0, 29), (54, -2147483648, 2147483647), (55, -2147483648, -1), (56, -2147483648, 2147483647), (57, 2, 2147483647), (58, -2147483648, 2147483647)] [((.ofNat 1), 22, (.negSucc 0), 53, (.ofNat 1)), ((.ofNat 1), 45, (.negSucc 0), 54, (.ofNat 0)), ((.ofNat 1), 58, (.negSucc 0), 56, (.ofNat 0))] (by decide +kernel) (by rw [hlx]; rfl) (by decide +kernel) (fa_ex xj (by omega) (by omega) (fa_ex xa (by have := q_i32bd (fc 34 j); omega) (by have := q_i32bd (fc 34 j); omega) (fa_ex xu (by have := q_i32bd (fc 35 j); omega) (by have := q_i32bd (fc 35 j); omega) (fa_ex xm (by have := q_i32bd (fc 32 j); omega) (by have := q_i32bd (fc 32 j); omega) (fa_ex xi (by have := q_i32bd (fc 33 j); omega) (by have := q_i32bd (fc 33 j); omega) (fa_ex xh (by have := q_i32bd (fc 30 (5 * v + (fc 31 j).toInt).toNat); omega) (by have := q_i32bd (fc 30 (5 * v + (fc 31 j).toInt).toNat); omega) fa_nil)))))) (fa_cons ⟨_, _, xs_, xj, by show (1 : Int) ≤ 1 * se + (-1) * (j : Int); omega⟩ (fa_cons ⟨_, _, xk, xa, by show (0 : Int) ≤ 1 * k + (-1) * (fc 34 j).toInt; omega⟩ (fa_cons ⟨_, _, xh, xm, by show (0 : Int) ≤ 1 * (fc 30 (5 * v + (fc 31 j).toInt).toNat).toInt + (-1) * (fc 32 j).toInt; omega⟩ fa_nil)))) (fun _ _ h => h.mono he) (fun _ h => h.mono he)
              refine qs_lnkB (p := 53) (ρ := ρ ++ xs) fa_nil hT hA zUg_u0dn3gb (fa_cons (fun ρ1 ht1 hL hg1 _ => ⟨fun rv hrv => ?r0, fun q hq => ?c0⟩) fa_nil)
              case r0 =>
                have hl1 : ρ1.length = 53 := hg1.len rfl
                refine ⟨rfl, ?_, Or.inr ⟨rfl, fun hF => ?_⟩⟩
                · rw [List.take_append_of_le_length (by omega), ht] at ht1
                  rw [← ht1, List.take_of_length_le (by omega)]
                · have hj2 := hF j (by omega)
                  unfold hs_ok at hj2
                  omega
              case c0 =>
                have hq : (Sum.inl _ : Option qV ⊕ (Nat × qL × List qV)) = Sum.inr q := hq
                cases hq
        · rcases Int.lt_or_le (fc 30 (5 * v + (fc 31 j).toInt).toNat).toInt (fc 32 j).toInt with c3 | c3
          · have c5 : (fc 33 j).toInt = 0 ∨ (fc 33 j).toInt ≤ -1 ∨ 1 ≤ (fc 33 j).toInt := by omega
            rcases c5 with c4 | c4 | c4
            · skip
              refine qy_TP.pre (ρ' := ρ ++ xs) (g' := zUT_u0s_dn4le.1) (w' := zUT_u0s_dn4le.2.1) (lo' := zUT_u0s_dn4le.2.2.1) (st' := zUT_u0s_dn4le.2.2.2) ?_ (hwC4 hc) (fun h => h.to xs [(53, 0, 29), (54, -2147483648, 2147483647), (55, -2147483648, -1), (56, -2147483648, 2147483647), (57, 0, 0), (58, -2147483648, 2147483647)] [((.ofNat 1), 22, (.negSucc 0), 53, (.ofNat 1)), ((.ofNat 1), 45, (.negSucc 0), 54, (.ofNat 0)), ((.ofNat 1), 56, (.negSucc 0), 58, (.ofNat 1))] (by decide +kernel) (by rw [hlx]; rfl) (by decide +kernel) (fa_ex xj (by omega) (by omega) (fa_ex xa (by have := q_i32bd (fc 34 j); omega) (by have := q_i32bd (fc 34 j); omega) (fa_ex xu (by have := q_i32bd (fc 35 j); omega) (by have := q_i32bd (fc 35 j); omega) (fa_ex xm (by have := q_i32bd (fc 32 j); omega) (by have := q_i32bd (fc 32 j); omega) (fa_ex xi (by have := q_i32bd (fc 33 j); omega) (by have := q_i32bd (fc 33 j); omega) (fa_ex xh (by have := q_i32bd (fc 30 (5 * v + (fc 31 j).toInt).toNat); omega) (by have := q_i32bd (fc 30 (5 * v + (fc 31 j).toInt).toNat); omega) fa_nil)))))) (fa_cons ⟨_, _, xs_, xj, by show (1 : Int) ≤ 1 * se + (-1) * (j : Int); omega⟩ (fa_cons ⟨_, _, xk, xa, by show (0 : Int) ≤ 1 * k + (-1) * (fc 34 j).toInt; omega⟩ (fa_cons ⟨_, _, xm, xh, by show (1 : Int) ≤ 1 * (fc 32 j).toInt + (-1) * (fc 30 (5 * v + (fc 31 j).toInt).toNat).toInt; omega⟩ fa_nil)))) (fun _ _ h => h.mono he) (fun _ h => h.mono he)
              refine qs_lnkB (p := 53) (ρ := ρ ++ xs) fa_nil hT hA zUg_u0dn4le (fa_cons (fun ρ1 ht1 hL hg1 _ => ⟨fun rv hrv => ?r0, fun q hq => ?c0⟩) fa_nil)
              case r0 =>
                have hrv : (Sum.inr _ : Option qV ⊕ (Nat × qL × List qV)) = Sum.inl rv := hrv
                cases hrv
              case c0 =>
                have hq : (Sum.inr _ : Option qV ⊕ (Nat × qL × List qV)) = Sum.inr q := hq
                cases hq
                have lj := (hL.n (i := 53) (d := 1) List.mem_cons_self xj)
                exact ih ρ1 (j + 1) (by rw [ht1, List.take_append_of_le_length (by omega)]; exact ht) (by rw [lj]; exact congrArg some (by omega)) (by omega) (fun i hi => by
                  rcases Nat.lt_or_ge i j with z | z
                  · exact hok i z
                  · have e : i = j := by omega
                    rw [e]
                    exact Or.inr (Or.inr (Or.inr ⟨c3, c4⟩)))
            · skip
              refine qy_TP.pre (ρ' := ρ ++ xs) (g' := zUT_u0s_dn4la.1) (w' := zUT_u0s_dn4la.2.1) (lo' := zUT_u0s_dn4la.2.2.1) (st' := zUT_u0s_dn4la.2.2.2) ?_ (hwC4 hc) (fun h => h.to xs [(53, 0, 29), (54, -2147483648, 2147483647), (55, -2147483648, -1), (56, -2147483648, 2147483647), (57, -2147483648, -1), (58, -2147483648, 2147483647)] [((.ofNat 1), 22, (.negSucc 0), 53, (.ofNat 1)), ((.ofNat 1), 45, (.negSucc 0), 54, (.ofNat 0)), ((.ofNat 1), 56, (.negSucc 0), 58, (.ofNat 1))] (by decide +kernel) (by rw [hlx]; rfl) (by decide +kernel) (fa_ex xj (by omega) (by omega) (fa_ex xa (by have := q_i32bd (fc 34 j); omega) (by have := q_i32bd (fc 34 j); omega) (fa_ex xu (by have := q_i32bd (fc 35 j); omega) (by have := q_i32bd (fc 35 j); omega) (fa_ex xm (by have := q_i32bd (fc 32 j); omega) (by have := q_i32bd (fc 32 j); omega) (fa_ex xi (by have := q_i32bd (fc 33 j); omega) (by have := q_i32bd (fc 33 j); omega) (fa_ex xh (by have := q_i32bd (fc 30 (5 * v + (fc 31 j).toInt).toNat); omega) (by have := q_i32bd (fc 30 (5 * v + (fc 31 j).toInt).toNat); omega) fa_nil)))))) (fa_cons ⟨_, _, xs_, xj, by show (1 : Int) ≤ 1 * se + (-1) * (j : Int); omega⟩ (fa_cons ⟨_, _, xk, xa, by show (0 : Int) ≤ 1 * k + (-1) * (fc 34 j).toInt; omega⟩ (fa_cons ⟨_, _, xm, xh, by show (1 : Int) ≤ 1 * (fc 32 j).toInt + (-1) * (fc 30 (5 * v + (fc 31 j).toInt).toNat).toInt; omega⟩ fa_nil)))) (fun _ _ h => h.mono he) (fun _ h => h.mono he)
              refine qs_lnkB (p := 53) (ρ := ρ ++ xs) fa_nil hT hA zUg_u0dn4la (fa_cons (fun ρ1 ht1 hL hg1 _ => ⟨fun rv hrv => ?r0, fun q hq => ?c0⟩) fa_nil)
              case r0 =>
                have hl1 : ρ1.length = 53 := hg1.len rfl
                refine ⟨rfl, ?_, Or.inr ⟨rfl, fun hF => ?_⟩⟩
                · rw [List.take_append_of_le_length (by omega), ht] at ht1
                  rw [← ht1, List.take_of_length_le (by omega)]
                · have hj2 := hF j (by omega)
                  unfold hs_ok at hj2
                  omega
              case c0 =>
                have hq : (Sum.inl _ : Option qV ⊕ (Nat × qL × List qV)) = Sum.inr q := hq
                cases hq
            · skip
              refine qy_TP.pre (ρ' := ρ ++ xs) (g' := zUT_u0s_dn4lb.1) (w' := zUT_u0s_dn4lb.2.1) (lo' := zUT_u0s_dn4lb.2.2.1) (st' := zUT_u0s_dn4lb.2.2.2) ?_ (hwC4 hc) (fun h => h.to xs [(53, 0, 29), (54, -2147483648, 2147483647), (55, -2147483648, -1), (56, -2147483648, 2147483647), (57, 1, 2147483647), (58, -2147483648, 2147483647)] [((.ofNat 1), 22, (.negSucc 0), 53, (.ofNat 1)), ((.ofNat 1), 45, (.negSucc 0), 54, (.ofNat 0)), ((.ofNat 1), 56, (.negSucc 0), 58, (.ofNat 1))] (by decide +kernel) (by rw [hlx]; rfl) (by decide +kernel) (fa_ex xj (by omega) (by omega) (fa_ex xa (by have := q_i32bd (fc 34 j); omega) (by have := q_i32bd (fc 34 j); omega) (fa_ex xu (by have := q_i32bd (fc 35 j); omega) (by have := q_i32bd (fc 35 j); omega) (fa_ex xm (by have := q_i32bd (fc 32 j); omega) (by have := q_i32bd (fc 32 j); omega) (fa_ex xi (by have := q_i32bd (fc 33 j); omega) (by have := q_i32bd (fc 33 j); omega) (fa_ex xh (by have := q_i32bd (fc 30 (5 * v + (fc 31 j).toInt).toNat); omega) (by have := q_i32bd (fc 30 (5 * v + (fc 31 j).toInt).toNat); omega) fa_nil)))))) (fa_cons ⟨_, _, xs_, xj, by show (1 : Int) ≤ 1 * se + (-1) * (j : Int); omega⟩ (fa_cons ⟨_, _, xk, xa, by show (0 : Int) ≤ 1 * k + (-1) * (fc 34 j).toInt; omega⟩ (fa_cons ⟨_, _, xm, xh, by show (1 : Int) ≤ 1 * (fc 32 j).toInt + (-1) * (fc 30 (5 * v + (fc 31 j).toInt).toNat).toInt; omega⟩ fa_nil)))) (fun _ _ h => h.mono he) (fun _ h => h.mono he)
              refine qs_lnkB (p := 53) (ρ := ρ ++ xs) fa_nil hT hA zUg_u0dn4lb (fa_cons (fun ρ1 ht1 hL hg1 _ => ⟨fun rv hrv => ?r0, fun q hq => ?c0⟩) fa_nil)
              case r0 =>
                have hl1 : ρ1.length = 53 := hg1.len rfl
                refine ⟨rfl, ?_, Or.inr ⟨rfl, fun hF => ?_⟩⟩
                · rw [List.take_append_of_le_length (by omega), ht] at ht1
                  rw [← ht1, List.take_of_length_le (by omega)]
                · have hj2 := hF j (by omega)
                  unfold hs_ok at hj2
                  omega
              case c0 =>
                have hq : (Sum.inl _ : Option qV ⊕ (Nat × qL × List qV)) = Sum.inr q := hq
                cases hq
          · have c5 : (fc 33 j).toInt = 1 ∨ (fc 33 j).toInt ≤ 0 ∨ 2 ≤ (fc 33 j).toInt := by omega
            rcases c5 with c4 | c4 | c4
            · skip
              refine qy_TP.pre (ρ' := ρ ++ xs) (g' := zUT_u0s_dn4ge.1) (w' := zUT_u0s_dn4ge.2.1) (lo' := zUT_u0s_dn4ge.2.2.1) (st' := zUT_u0s_dn4ge.2.2.2) ?_ (hwC4 hc) (fun h => h.to xs [(53, 0, 29), (54, -2147483648, 2147483647), (55, -2147483648, -1), (56, -2147483648, 2147483647), (57, 1, 1), (58, -2147483648, 2147483647)] [((.ofNat 1), 22, (.negSucc 0), 53, (.ofNat 1)), ((.ofNat 1), 45, (.negSucc 0), 54, (.ofNat 0)), ((.ofNat 1), 58, (.negSucc 0), 56, (.ofNat 0))] (by decide +kernel) (by rw [hlx]; rfl) (by decide +kernel) (fa_ex xj (by omega) (by omega) (fa_ex xa (by have := q_i32bd (fc 34 j); omega) (by have := q_i32bd (fc 34 j); omega) (fa_ex xu (by have := q_i32bd (fc 35 j); omega) (by have := q_i32bd (fc 35 j); omega) (fa_ex xm (by have := q_i32bd (fc 32 j); omega) (by have := q_i32bd (fc 32 j); omega) (fa_ex xi (by have := q_i32bd (fc 33 j); omega) (by have := q_i32bd (fc 33 j); omega) (fa_ex xh (by have := q_i32bd (fc 30 (5 * v + (fc 31 j).toInt).toNat); omega) (by have := q_i32bd (fc 30 (5 * v + (fc 31 j).toInt).toNat); omega) fa_nil)))))) (fa_cons ⟨_, _, xs_, xj, by show (1 : Int) ≤ 1 * se + (-1) * (j : Int); omega⟩ (fa_cons ⟨_, _, xk, xa, by show (0 : Int) ≤ 1 * k + (-1) * (fc 34 j).toInt; omega⟩ (fa_cons ⟨_, _, xh, xm, by show (0 : Int) ≤ 1 * (fc 30 (5 * v + (fc 31 j).toInt).toNat).toInt + (-1) * (fc 32 j).toInt; omega⟩ fa_nil)))) (fun _ _ h => h.mono he) (fun _ h => h.mono he)
              refine qs_lnkB (p := 53) (ρ := ρ ++ xs) fa_nil hT hA zUg_u0dn4ge (fa_cons (fun ρ1 ht1 hL hg1 _ => ⟨fun rv hrv => ?r0, fun q hq => ?c0⟩) fa_nil)
              case r0 =>
                have hrv : (Sum.inr _ : Option qV ⊕ (Nat × qL × List qV)) = Sum.inl rv := hrv
                cases hrv
              case c0 =>
                have hq : (Sum.inr _ : Option qV ⊕ (Nat × qL × List qV)) = Sum.inr q := hq
                cases hq
                have lj := (hL.n (i := 53) (d := 1) List.mem_cons_self xj)
                exact ih ρ1 (j + 1) (by rw [ht1, List.take_append_of_le_length (by omega)]; exact ht) (by rw [lj]; exact congrArg some (by omega)) (by omega) (fun i hi => by
                  rcases Nat.lt_or_ge i j with z | z
                  · exact hok i z
                  · have e : i = j := by omega
                    rw [e]
                    exact Or.inr (Or.inr (Or.inl ⟨c3, c4⟩)))
            · skip
              refine qy_TP.pre (ρ' := ρ ++ xs) (g' := zUT_u0s_dn4ga.1) (w' := zUT_u0s_dn4ga.2.1) (lo' := zUT_u0s_dn4ga.2.2.1) (st' := zUT_u0s_dn4ga.2.2.2) ?_ (hwC4 hc) (fun h => h.to xs [(53, 0, 29), (54, -2147483648, 2147483647), (55, -2147483648, -1), (56, -2147483648, 2147483647), (57, -2147483648, 0), (58, -2147483648, 2147483647)] [((.ofNat 1), 22, (.negSucc 0), 53, (.ofNat 1)), ((.ofNat 1), 45, (.negSucc 0), 54, (.ofNat 0)), ((.ofNat 1), 58, (.negSucc 0), 56, (.ofNat 0))] (by decide +kernel) (by rw [hlx]; rfl) (by decide +kernel) (fa_ex xj (by omega) (by omega) (fa_ex xa (by have := q_i32bd (fc 34 j); omega) (by have := q_i32bd (fc 34 j); omega) (fa_ex xu (by have := q_i32bd (fc 35 j); omega) (by have := q_i32bd (fc 35 j); omega) (fa_ex xm (by have := q_i32bd (fc 32 j); omega) (by have := q_i32bd (fc 32 j); omega) (fa_ex xi (by have := q_i32bd (fc 33 j); omega) (by have := q_i32bd (fc 33 j); omega) (fa_ex xh (by have := q_i32bd (fc 30 (5 * v + (fc 31 j).toInt).toNat); omega) (by have := q_i32bd (fc 30 (5 * v + (fc 31 j).toInt).toNat); omega) fa_nil)))))) (fa_cons ⟨_, _, xs_, xj, by show (1 : Int) ≤ 1 * se + (-1) * (j : Int); omega⟩ (fa_cons ⟨_, _, xk, xa, by show (0 : Int) ≤ 1 * k + (-1) * (fc 34 j).toInt; omega⟩ (fa_cons ⟨_, _, xh, xm, by show (0 : Int) ≤ 1 * (fc 30 (5 * v + (fc 31 j).toInt).toNat).toInt + (-1) * (fc 32 j).toInt; omega⟩ fa_nil)))) (fun _ _ h => h.mono he) (fun _ h => h.mono he)
              refine qs_lnkB (p := 53) (ρ := ρ ++ xs) fa_nil hT hA zUg_u0dn4ga (fa_cons (fun ρ1 ht1 hL hg1 _ => ⟨fun rv hrv => ?r0, fun q hq => ?c0⟩) fa_nil)
              case r0 =>
                have hl1 : ρ1.length = 53 := hg1.len rfl
                refine ⟨rfl, ?_, Or.inr ⟨rfl, fun hF => ?_⟩⟩
                · rw [List.take_append_of_le_length (by omega), ht] at ht1
                  rw [← ht1, List.take_of_length_le (by omega)]
                · have hj2 := hF j (by omega)
                  unfold hs_ok at hj2
                  omega
              case c0 =>
                have hq : (Sum.inl _ : Option qV ⊕ (Nat × qL × List qV)) = Sum.inr q := hq
                cases hq
            · skip
              refine qy_TP.pre (ρ' := ρ ++ xs) (g' := zUT_u0s_dn4gb.1) (w' := zUT_u0s_dn4gb.2.1) (lo' := zUT_u0s_dn4gb.2.2.1) (st' := zUT_u0s_dn4gb.2.2.2) ?_ (hwC4 hc) (fun h => h.to xs [(53, 0, 29), (54, -2147483648, 2147483647), (55, -2147483648, -1), (56, -2147483648, 2147483647), (57, 2, 2147483647), (58, -2147483648, 2147483647)] [((.ofNat 1), 22, (.negSucc 0), 53, (.ofNat 1)), ((.ofNat 1), 45, (.negSucc 0), 54, (.ofNat 0)), ((.ofNat 1), 58, (.negSucc 0), 56, (.ofNat 0))] (by decide +kernel) (by rw [hlx]; rfl) (by decide +kernel) (fa_ex xj (by omega) (by omega) (fa_ex xa (by have := q_i32bd (fc 34 j); omega) (by have := q_i32bd (fc 34 j); omega) (fa_ex xu (by have := q_i32bd (fc 35 j); omega) (by have := q_i32bd (fc 35 j); omega) (fa_ex xm (by have := q_i32bd (fc 32 j); omega) (by have := q_i32bd (fc 32 j); omega) (fa_ex xi (by have := q_i32bd (fc 33 j); omega) (by have := q_i32bd (fc 33 j); omega) (fa_ex xh (by have := q_i32bd (fc 30 (5 * v + (fc 31 j).toInt).toNat); omega) (by have := q_i32bd (fc 30 (5 * v + (fc 31 j).toInt).toNat); omega) fa_nil)))))) (fa_cons ⟨_, _, xs_, xj, by show (1 : Int) ≤ 1 * se + (-1) * (j : Int); omega⟩ (fa_cons ⟨_, _, xk, xa, by show (0 : Int) ≤ 1 * k + (-1) * (fc 34 j).toInt; omega⟩ (fa_cons ⟨_, _, xh, xm, by show (0 : Int) ≤ 1 * (fc 30 (5 * v + (fc 31 j).toInt).toNat).toInt + (-1) * (fc 32 j).toInt; omega⟩ fa_nil)))) (fun _ _ h => h.mono he) (fun _ h => h.mono he)
              refine qs_lnkB (p := 53) (ρ := ρ ++ xs) fa_nil hT hA zUg_u0dn4gb (fa_cons (fun ρ1 ht1 hL hg1 _ => ⟨fun rv hrv => ?r0, fun q hq => ?c0⟩) fa_nil)
              case r0 =>
                have hl1 : ρ1.length = 53 := hg1.len rfl
                refine ⟨rfl, ?_, Or.inr ⟨rfl, fun hF => ?_⟩⟩
                · rw [List.take_append_of_le_length (by omega), ht] at ht1
                  rw [← ht1, List.take_of_length_le (by omega)]
                · have hj2 := hF j (by omega)
                  unfold hs_ok at hj2
                  omega
              case c0 =>
                have hq : (Sum.inl _ : Option qV ⊕ (Nat × qL × List qV)) = Sum.inr q := hq
                cases hq
      · rcases Int.lt_or_le k (fc 35 j).toInt with c6 | c6
        · skip
          have cc : (fc 31 j).toInt = 0 ∨ (fc 31 j).toInt = 1 ∨ (fc 31 j).toInt = 2 ∨ (fc 31 j).toInt = 3 ∨ (fc 31 j).toInt = 4 := by omega
          rcases cc with hc | hc | hc | hc | hc
          · rcases Int.lt_or_le (fc 30 (5 * v + (fc 31 j).toInt).toNat).toInt (fc 32 j).toInt with c3 | c3
            · have c5 : (fc 33 j).toInt = 0 ∨ (fc 33 j).toInt ≤ -1 ∨ 1 ≤ (fc 33 j).toInt := by omega
              rcases c5 with c4 | c4 | c4
              · skip
                refine qy_TP.pre (ρ' := ρ ++ xs) (g' := zUT_u0s_dp0le.1) (w' := zUT_u0s_dp0le.2.1) (lo' := zUT_u0s_dp0le.2.2.1) (st' := zUT_u0s_dp0le.2.2.2) ?_ (hwC0 hc) (fun h => h.to xs [(53, 0, 29), (54, -2147483648, 2147483647), (55, 0, 2147483647), (56, -2147483648, 2147483647), (57, 0, 0), (58, -2147483648, 2147483647)] [((.ofNat 1), 22, (.negSucc 0), 53, (.ofNat 1)), ((.ofNat 1), 45, (.negSucc 0), 54, (.ofNat 0)), ((.ofNat 1), 55, (.negSucc 0), 45, (.ofNat 1)), ((.ofNat 1), 56, (.negSucc 0), 58, (.ofNat 1))] (by decide +kernel) (by rw [hlx]; rfl) (by decide +kernel) (fa_ex xj (by omega) (by omega) (fa_ex xa (by have := q_i32bd (fc 34 j); omega) (by have := q_i32bd (fc 34 j); omega) (fa_ex xu (by have := q_i32bd (fc 35 j); omega) (by have := q_i32bd (fc 35 j); omega) (fa_ex xm (by have := q_i32bd (fc 32 j); omega) (by have := q_i32bd (fc 32 j); omega) (fa_ex xi (by have := q_i32bd (fc 33 j); omega) (by have := q_i32bd (fc 33 j); omega) (fa_ex xh (by have := q_i32bd (fc 30 (5 * v + (fc 31 j).toInt).toNat); omega) (by have := q_i32bd (fc 30 (5 * v + (fc 31 j).toInt).toNat); omega) fa_nil)))))) (fa_cons ⟨_, _, xs_, xj, by show (1 : Int) ≤ 1 * se + (-1) * (j : Int); omega⟩ (fa_cons ⟨_, _, xk, xa, by show (0 : Int) ≤ 1 * k + (-1) * (fc 34 j).toInt; omega⟩ (fa_cons ⟨_, _, xu, xk, by show (1 : Int) ≤ 1 * (fc 35 j).toInt + (-1) * k; omega⟩ (fa_cons ⟨_, _, xm, xh, by show (1 : Int) ≤ 1 * (fc 32 j).toInt + (-1) * (fc 30 (5 * v + (fc 31 j).toInt).toNat).toInt; omega⟩ fa_nil))))) (fun _ _ h => h.mono he) (fun _ h => h.mono he)
                refine qs_lnkB (p := 53) (ρ := ρ ++ xs) fa_nil hT hA zUg_u0dp0le (fa_cons (fun ρ1 ht1 hL hg1 _ => ⟨fun rv hrv => ?r0, fun q hq => ?c0⟩) fa_nil)
                case r0 =>
                  have hrv : (Sum.inr _ : Option qV ⊕ (Nat × qL × List qV)) = Sum.inl rv := hrv
                  cases hrv
                case c0 =>
                  have hq : (Sum.inr _ : Option qV ⊕ (Nat × qL × List qV)) = Sum.inr q := hq
                  cases hq
                  have lj := (hL.n (i := 53) (d := 1) List.mem_cons_self xj)
                  exact ih ρ1 (j + 1) (by rw [ht1, List.take_append_of_le_length (by omega)]; exact ht) (by rw [lj]; exact congrArg some (by omega)) (by omega) (fun i hi => by
                    rcases Nat.lt_or_ge i j with z | z
                    · exact hok i z
                    · have e : i = j := by omega
                      rw [e]
                      exact Or.inr (Or.inr (Or.inr ⟨c3, c4⟩)))
              · skip
                refine qy_TP.pre (ρ' := ρ ++ xs) (g' := zUT_u0s_dp0la.1) (w' := zUT_u0s_dp0la.2.1) (lo' := zUT_u0s_dp0la.2.2.1) (st' := zUT_u0s_dp0la.2.2.2) ?_ (hwC0 hc) (fun h => h.to xs [(53, 0, 29), (54, -2147483648, 2147483647), (55, 0, 2147483647), (56, -2147483648, 2147483647), (57, -2147483648, -1), (58, -2147483648, 2147483647)] [((.ofNat 1), 22, (.negSucc 0), 53, (.ofNat 1)), ((.ofNat 1), 45, (.negSucc 0), 54, (.ofNat 0)), ((.ofNat 1), 55, (.negSucc 0), 45, (.ofNat 1)), ((.ofNat 1), 56, (.negSucc 0), 58, (.ofNat 1))] (by decide +kernel) (by rw [hlx]; rfl) (by decide +kernel) (fa_ex xj (by omega) (by omega) (fa_ex xa (by have := q_i32bd (fc 34 j); omega) (by have := q_i32bd (fc 34 j); omega) (fa_ex xu (by have := q_i32bd (fc 35 j); omega) (by have := q_i32bd (fc 35 j); omega) (fa_ex xm (by have := q_i32bd (fc 32 j); omega) (by have := q_i32bd (fc 32 j); omega) (fa_ex xi (by have := q_i32bd (fc 33 j); omega) (by have := q_i32bd (fc 33 j); omega) (fa_ex xh (by have := q_i32bd (fc 30 (5 * v + (fc 31 j).toInt).toNat); omega) (by have := q_i32bd (fc 30 (5 * v + (fc 31 j).toInt).toNat); omega) fa_nil)))))) (fa_cons ⟨_, _, xs_, xj, by show (1 : Int) ≤ 1 * se + (-1) * (j : Int); omega⟩ (fa_cons ⟨_, _, xk, xa, by show (0 : Int) ≤ 1 * k + (-1) * (fc 34 j).toInt; omega⟩ (fa_cons ⟨_, _, xu, xk, by show (1 : Int) ≤ 1 * (fc 35 j).toInt + (-1) * k; omega⟩ (fa_cons ⟨_, _, xm, xh, by show (1 : Int) ≤ 1 * (fc 32 j).toInt + (-1) * (fc 30 (5 * v + (fc 31 j).toInt).toNat).toInt; omega⟩ fa_nil))))) (fun _ _ h => h.mono he) (fun _ h => h.mono he)
                refine qs_lnkB (p := 53) (ρ := ρ ++ xs) fa_nil hT hA zUg_u0dp0la (fa_cons (fun ρ1 ht1 hL hg1 _ => ⟨fun rv hrv => ?r0, fun q hq => ?c0⟩) fa_nil)
                case r0 =>
                  have hl1 : ρ1.length = 53 := hg1.len rfl
                  refine ⟨rfl, ?_, Or.inr ⟨rfl, fun hF => ?_⟩⟩
                  · rw [List.take_append_of_le_length (by omega), ht] at ht1
                    rw [← ht1, List.take_of_length_le (by omega)]
                  · have hj2 := hF j (by omega)
                    unfold hs_ok at hj2
                    omega
                case c0 =>
                  have hq : (Sum.inl _ : Option qV ⊕ (Nat × qL × List qV)) = Sum.inr q := hq
                  cases hq
              · skip
                refine qy_TP.pre (ρ' := ρ ++ xs) (g' := zUT_u0s_dp0lb.1) (w' := zUT_u0s_dp0lb.2.1) (lo' := zUT_u0s_dp0lb.2.2.1) (st' := zUT_u0s_dp0lb.2.2.2) ?_ (hwC0 hc) (fun h => h.to xs [(53, 0, 29), (54, -2147483648, 2147483647), (55, 0, 2147483647), (56, -2147483648, 2147483647), (57, 1, 2147483647), (58, -2147483648, 2147483647)] [((.ofNat 1), 22, (.negSucc 0), 53, (.ofNat 1)), ((.ofNat 1), 45, (.negSucc 0), 54, (.ofNat 0)), ((.ofNat 1), 55, (.negSucc 0), 45, (.ofNat 1)), ((.ofNat 1), 56, (.negSucc 0), 58, (.ofNat 1))] (by decide +kernel) (by rw [hlx]; rfl) (by decide +kernel) (fa_ex xj (by omega) (by omega) (fa_ex xa (by have := q_i32bd (fc 34 j); omega) (by have := q_i32bd (fc 34 j); omega) (fa_ex xu (by have := q_i32bd (fc 35 j); omega) (by have := q_i32bd (fc 35 j); omega) (fa_ex xm (by have := q_i32bd (fc 32 j); omega) (by have := q_i32bd (fc 32 j); omega) (fa_ex xi (by have := q_i32bd (fc 33 j); omega) (by have := q_i32bd (fc 33 j); omega) (fa_ex xh (by have := q_i32bd (fc 30 (5 * v + (fc 31 j).toInt).toNat); omega) (by have := q_i32bd (fc 30 (5 * v + (fc 31 j).toInt).toNat); omega) fa_nil)))))) (fa_cons ⟨_, _, xs_, xj, by show (1 : Int) ≤ 1 * se + (-1) * (j : Int); omega⟩ (fa_cons ⟨_, _, xk, xa, by show (0 : Int) ≤ 1 * k + (-1) * (fc 34 j).toInt; omega⟩ (fa_cons ⟨_, _, xu, xk, by show (1 : Int) ≤ 1 * (fc 35 j).toInt + (-1) * k; omega⟩ (fa_cons ⟨_, _, xm, xh, by show (1 : Int) ≤ 1 * (fc 32 j).toInt + (-1) * (fc 30 (5 * v + (fc 31 j).toInt).toNat).toInt; omega⟩ fa_nil))))) (fun _ _ h => h.mono he) (fun _ h => h.mono he)
                refine qs_lnkB (p := 53) (ρ := ρ ++ xs) fa_nil hT hA zUg_u0dp0lb (fa_cons (fun ρ1 ht1 hL hg1 _ => ⟨fun rv hrv => ?r0, fun q hq => ?c0⟩) fa_nil)
                case r0 =>
                  have hl1 : ρ1.length = 53 := hg1.len rfl
                  refine ⟨rfl, ?_, Or.inr ⟨rfl, fun hF => ?_⟩⟩
                  · rw [List.take_append_of_le_length (by omega), ht] at ht1
                    rw [← ht1, List.take_of_length_le (by omega)]
                  · have hj2 := hF j (by omega)
                    unfold hs_ok at hj2
                    omega
                case c0 =>
                  have hq : (Sum.inl _ : Option qV ⊕ (Nat × qL × List qV)) = Sum.inr q := hq
                  cases hq
            · have c5 : (fc 33 j).toInt = 1 ∨ (fc 33 j).toInt ≤ 0 ∨ 2 ≤ (fc 33 j).toInt := by omega
              rcases c5 with c4 | c4 | c4
              · skip
                refine qy_TP.pre (ρ' := ρ ++ xs) (g' := zUT_u0s_dp0ge.1) (w' := zUT_u0s_dp0ge.2.1) (lo' := zUT_u0s_dp0ge.2.2.1) (st' := zUT_u0s_dp0ge.2.2.2) ?_ (hwC0 hc) (fun h => h.to xs [(53, 0, 29), (54, -2147483648, 2147483647), (55, 0, 2147483647), (56, -2147483648, 2147483647), (57, 1, 1), (58, -2147483648, 2147483647)] [((.ofNat 1), 22, (.negSucc 0), 53, (.ofNat 1)), ((.ofNat 1), 45, (.negSucc 0), 54, (.ofNat 0)), ((.ofNat 1), 55, (.negSucc 0), 45, (.ofNat 1)), ((.ofNat 1), 58, (.negSucc 0), 56, (.ofNat 0))] (by decide +kernel) (by rw [hlx]; rfl) (by decide +kernel) (fa_ex xj (by omega) (by omega) (fa_ex xa (by have := q_i32bd (fc 34 j); omega) (by have := q_i32bd (fc 34 j); omega) (fa_ex xu (by have := q_i32bd (fc 35 j); omega) (by have := q_i32bd (fc 35 j); omega) (fa_ex xm (by have := q_i32bd (fc 32 j); omega) (by have := q_i32bd (fc 32 j); omega) (fa_ex xi (by have := q_i32bd (fc 33 j); omega) (by have := q_i32bd (fc 33 j); omega) (fa_ex xh (by have := q_i32bd (fc 30 (5 * v + (fc 31 j).toInt).toNat); omega) (by have := q_i32bd (fc 30 (5 * v + (fc 31 j).toInt).toNat); omega) fa_nil)))))) (fa_cons ⟨_, _, xs_, xj, by show (1 : Int) ≤ 1 * se + (-1) * (j : Int); omega⟩ (fa_cons ⟨_, _, xk, xa, by show (0 : Int) ≤ 1 * k + (-1) * (fc 34 j).toInt; omega⟩ (fa_cons ⟨_, _, xu, xk, by show (1 : Int) ≤ 1 * (fc 35 j).toInt + (-1) * k; omega⟩ (fa_cons ⟨_, _, xh, xm, by show (0 : Int) ≤ 1 * (fc 30 (5 * v + (fc 31 j).toInt).toNat).toInt + (-1) * (fc 32 j).toInt; omega⟩ fa_nil))))) (fun _ _ h => h.mono he) (fun _ h => h.mono he)
                refine qs_lnkB (p := 53) (ρ := ρ ++ xs) fa_nil hT hA zUg_u0dp0ge (fa_cons (fun ρ1 ht1 hL hg1 _ => ⟨fun rv hrv => ?r0, fun q hq => ?c0⟩) fa_nil)
                case r0 =>
                  have hrv : (Sum.inr _ : Option qV ⊕ (Nat × qL × List qV)) = Sum.inl rv := hrv
                  cases hrv
                case c0 =>
                  have hq : (Sum.inr _ : Option qV ⊕ (Nat × qL × List qV)) = Sum.inr q := hq
                  cases hq
                  have lj := (hL.n (i := 53) (d := 1) List.mem_cons_self xj)
                  exact ih ρ1 (j + 1) (by rw [ht1, List.take_append_of_le_length (by omega)]; exact ht) (by rw [lj]; exact congrArg some (by omega)) (by omega) (fun i hi => by
                    rcases Nat.lt_or_ge i j with z | z
                    · exact hok i z
                    · have e : i = j := by omega
                      rw [e]
                      exact Or.inr (Or.inr (Or.inl ⟨c3, c4⟩)))
              · skip
                refine qy_TP.pre (ρ' := ρ ++ xs) (g' := zUT_u0s_dp0ga.1) (w' := zUT_u0s_dp0ga.2.1) (lo' := zUT_u0s_dp0ga.2.2.1) (st' := zUT_u0s_dp0ga.2.2.2) ?_ (hwC0 hc) (fun h => h.to xs [(53, 0, 29), (54, -2147483648, 2147483647), (55, 0, 2147483647), (56, -2147483648, 2147483647), (57, -2147483648, 0), (58, -2147483648, 2147483647)] [((.ofNat 1), 22, (.negSucc 0), 53, (.ofNat 1)), ((.ofNat 1), 45, (.negSucc 0), 54, (.ofNat 0)), ((.ofNat 1), 55, (.negSucc 0), 45, (.ofNat 1)), ((.ofNat 1), 58, (.negSucc 0), 56, (.ofNat 0))] (by decide +kernel) (by rw [hlx]; rfl) (by decide +kernel) (fa_ex xj (by omega) (by omega) (fa_ex xa (by have := q_i32bd (fc 34 j); omega) (by have := q_i32bd (fc 34 j); omega) (fa_ex xu (by have := q_i32bd (fc 35 j); omega) (by have := q_i32bd (fc 35 j); omega) (fa_ex xm (by have := q_i32bd (fc 32 j); omega) (by have := q_i32bd (fc 32 j); omega) (fa_ex xi (by have := q_i32bd (fc 33 j); omega) (by have := q_i32bd (fc 33 j); omega) (fa_ex xh (by have := q_i32bd (fc 30 (5 * v + (fc 31 j).toInt).toNat); omega) (by have := q_i32bd (fc 30 (5 * v + (fc 31 j).toInt).toNat); omega) fa_nil)))))) (fa_cons ⟨_, _, xs_, xj, by show (1 : Int) ≤ 1 * se + (-1) * (j : Int); omega⟩ (fa_cons ⟨_, _, xk, xa, by show (0 : Int) ≤ 1 * k + (-1) * (fc 34 j).toInt; omega⟩ (fa_cons ⟨_, _, xu, xk, by show (1 : Int) ≤ 1 * (fc 35 j).toInt + (-1) * k; omega⟩ (fa_cons ⟨_, _, xh, xm, by show (0 : Int) ≤ 1 * (fc 30 (5 * v + (fc 31 j).toInt).toNat).toInt + (-1) * (fc 32 j).toInt; omega⟩ fa_nil))))) (fun _ _ h => h.mono he) (fun _ h => h.mono he)
                refine qs_lnkB (p := 53) (ρ := ρ ++ xs) fa_nil hT hA zUg_u0dp0ga (fa_cons (fun ρ1 ht1 hL hg1 _ => ⟨fun rv hrv => ?r0, fun q hq => ?c0⟩) fa_nil)
                case r0 =>
                  have hl1 : ρ1.length = 53 := hg1.len rfl
                  refine ⟨rfl, ?_, Or.inr ⟨rfl, fun hF => ?_⟩⟩
                  · rw [List.take_append_of_le_length (by omega), ht] at ht1
                    rw [← ht1, List.take_of_length_le (by omega)]
                  · have hj2 := hF j (by omega)
                    unfold hs_ok at hj2
                    omega
                case c0 =>
                  have hq : (Sum.inl _ : Option qV ⊕ (Nat × qL × List qV)) = Sum.inr q := hq
                  cases hq
              · skip
                refine qy_TP.pre (ρ' := ρ ++ xs) (g' := zUT_u0s_dp0gb.1) (w' := zUT_u0s_dp0gb.2.1) (lo' := zUT_u0s_dp0gb.2.2.1) (st' := zUT_u0s_dp0gb.2.2.2) ?_ (hwC0 hc) (fun h => h.to xs [(53, 0, 29), (54, -2147483648, 2147483647), (55, 0, 2147483647), (56, -2147483648, 2147483647), (57, 2, 2147483647), (58, -2147483648, 2147483647)] [((.ofNat 1), 22, (.negSucc 0), 53, (.ofNat 1)), ((.ofNat 1), 45, (.negSucc 0), 54, (.ofNat 0)), ((.ofNat 1), 55, (.negSucc 0), 45, (.ofNat 1)), ((.ofNat 1), 58, (.negSucc 0), 56, (.ofNat 0))] (by decide +kernel) (by rw [hlx]; rfl) (by decide +kernel) (fa_ex xj (by omega) (by omega) (fa_ex xa (by have := q_i32bd (fc 34 j); omega) (by have := q_i32bd (fc 34 j); omega) (fa_ex xu (by have := q_i32bd (fc 35 j); omega) (by have := q_i32bd (fc 35 j); omega) (fa_ex xm (by have := q_i32bd (fc 32 j); omega) (by have := q_i32bd (fc 32 j); omega) (fa_ex xi (by have := q_i32bd (fc 33 j); omega) (by have := q_i32bd (fc 33 j); omega) (fa_ex xh (by have := q_i32bd (fc 30 (5 * v + (fc 31 j).toInt).toNat); omega) (by have := q_i32bd (fc 30 (5 * v + (fc 31 j).toInt).toNat); omega) fa_nil)))))) (fa_cons ⟨_, _, xs_, xj, by show (1 : Int) ≤ 1 * se + (-1) * (j : Int); omega⟩ (fa_cons ⟨_, _, xk, xa, by show (0 : Int) ≤ 1 * k + (-1) * (fc 34 j).toInt; omega⟩ (fa_cons ⟨_, _, xu, xk, by show (1 : Int) ≤ 1 * (fc 35 j).toInt + (-1) * k; omega⟩ (fa_cons ⟨_, _, xh, xm, by show (0 : Int) ≤ 1 * (fc 30 (5 * v + (fc 31 j).toInt).toNat).toInt + (-1) * (fc 32 j).toInt; omega⟩ fa_nil))))) (fun _ _ h => h.mono he) (fun _ h => h.mono he)
                refine qs_lnkB (p := 53) (ρ := ρ ++ xs) fa_nil hT hA zUg_u0dp0gb (fa_cons (fun ρ1 ht1 hL hg1 _ => ⟨fun rv hrv => ?r0, fun q hq => ?c0⟩) fa_nil)
                case r0 =>
                  have hl1 : ρ1.length = 53 := hg1.len rfl
                  refine ⟨rfl, ?_, Or.inr ⟨rfl, fun hF => ?_⟩⟩
                  · rw [List.take_append_of_le_length (by omega), ht] at ht1
                    rw [← ht1, List.take_of_length_le (by omega)]
                  · have hj2 := hF j (by omega)
                    unfold hs_ok at hj2
                    omega
                case c0 =>
                  have hq : (Sum.inl _ : Option qV ⊕ (Nat × qL × List qV)) = Sum.inr q := hq
                  cases hq
          · rcases Int.lt_or_le (fc 30 (5 * v + (fc 31 j).toInt).toNat).toInt (fc 32 j).toInt with c3 | c3
            · have c5 : (fc 33 j).toInt = 0 ∨ (fc 33 j).toInt ≤ -1 ∨ 1 ≤ (fc 33 j).toInt := by omega
              rcases c5 with c4 | c4 | c4
              · skip
                refine qy_TP.pre (ρ' := ρ ++ xs) (g' := zUT_u0s_dp1le.1) (w' := zUT_u0s_dp1le.2.1) (lo' := zUT_u0s_dp1le.2.2.1) (st' := zUT_u0s_dp1le.2.2.2) ?_ (hwC1 hc) (fun h => h.to xs [(53, 0, 29), (54, -2147483648, 2147483647), (55, 0, 2147483647), (56, -2147483648, 2147483647), (57, 0, 0), (58, -2147483648, 2147483647)] [((.ofNat 1), 22, (.negSucc 0), 53, (.ofNat 1)), ((.ofNat 1), 45, (.negSucc 0), 54, (.ofNat 0)), ((.ofNat 1), 55, (.negSucc 0), 45, (.ofNat 1)), ((.ofNat 1), 56, (.negSucc 0), 58, (.ofNat 1))] (by decide +kernel) (by rw [hlx]; rfl) (by decide +kernel) (fa_ex xj (by omega) (by omega) (fa_ex xa (by have := q_i32bd (fc 34 j); omega) (by have := q_i32bd (fc 34 j); omega) (fa_ex xu (by have := q_i32bd (fc 35 j); omega) (by have := q_i32bd (fc 35 j); omega) (fa_ex xm (by have := q_i32bd (fc 32 j); omega) (by have := q_i32bd (fc 32 j); omega) (fa_ex xi (by have := q_i32bd (fc 33 j); omega) (by have := q_i32bd (fc 33 j); omega) (fa_ex xh (by have := q_i32bd (fc 30 (5 * v + (fc 31 j).toInt).toNat); omega) (by have := q_i32bd (fc 30 (5 * v + (fc 31 j).toInt).toNat); omega) fa_nil)))))) (fa_cons ⟨_, _, xs_, xj, by show (1 : Int) ≤ 1 * se + (-1) * (j : Int); omega⟩ (fa_cons ⟨_, _, xk, xa, by show (0 : Int) ≤ 1 * k + (-1) * (fc 34 j).toInt; omega⟩ (fa_cons ⟨_, _, xu, xk, by show (1 : Int) ≤ 1 * (fc 35 j).toInt + (-1) * k; omega⟩ (fa_cons ⟨_, _, xm, xh, by show (1 : Int) ≤ 1 * (fc 32 j).toInt + (-1) * (fc 30 (5 * v + (fc 31 j).toInt).toNat).toInt; omega⟩ fa_nil))))) (fun _ _ h => h.mono he) (fun _ h => h.mono he)
                refine qs_lnkB (p := 53) (ρ := ρ ++ xs) fa_nil hT hA zUg_u0dp1le (fa_cons (fun ρ1 ht1 hL hg1 _ => ⟨fun rv hrv => ?r0, fun q hq => ?c0⟩) fa_nil)
                case r0 =>
                  have hrv : (Sum.inr _ : Option qV ⊕ (Nat × qL × List qV)) = Sum.inl rv := hrv
                  cases hrv
                case c0 =>
                  have hq : (Sum.inr _ : Option qV ⊕ (Nat × qL × List qV)) = Sum.inr q := hq
                  cases hq
                  have lj := (hL.n (i := 53) (d := 1) List.mem_cons_self xj)
                  exact ih ρ1 (j + 1) (by rw [ht1, List.take_append_of_le_length (by omega)]; exact ht) (by rw [lj]; exact congrArg some (by omega)) (by omega) (fun i hi => by
                    rcases Nat.lt_or_ge i j with z | z
                    · exact hok i z
                    · have e : i = j := by omega
                      rw [e]
                      exact Or.inr (Or.inr (Or.inr ⟨c3, c4⟩)))
              · skip
                refine qy_TP.pre (ρ' := ρ ++ xs) (g' := zUT_u0s_dp1la.1) (w' := zUT_u0s_dp1la.2.1) (lo' := zUT_u0s_dp1la.2.2.1) (st' := zUT_u0s_dp1la.2.2.2) ?_ (hwC1 hc) (fun h => h.to xs [(53, 0, 29), (54, -2147483648, 2147483647), (55, 0, 2147483647), (56, -2147483648, 2147483647), (57, -2147483648, -1), (58, -2147483648, 2147483647)] [((.ofNat 1), 22, (.negSucc 0), 53, (.ofNat 1)), ((.ofNat 1), 45, (.negSucc 0), 54, (.ofNat 0)), ((.ofNat 1), 55, (.negSucc 0), 45, (.ofNat 1)), ((.ofNat 1), 56, (.negSucc 0), 58, (.ofNat 1))] (by decide +kernel) (by rw [hlx]; rfl) (by decide +kernel) (fa_ex xj (by omega) (by omega) (fa_ex xa (by have := q_i32bd (fc 34 j); omega) (by have := q_i32bd (fc 34 j); omega) (fa_ex xu (by have := q_i32bd (fc 35 j); omega) (by have := q_i32bd (fc 35 j); omega) (fa_ex xm (by have := q_i32bd (fc 32 j); omega) (by have := q_i32bd (fc 32 j); omega) (fa_ex xi (by have := q_i32bd (fc 33 j); omega) (by have := q_i32bd (fc 33 j); omega) (fa_ex xh (by have := q_i32bd (fc 30 (5 * v + (fc 31 j).toInt).toNat); omega) (by have := q_i32bd (fc 30 (5 * v + (fc 31 j).toInt).toNat); omega) fa_nil)))))) (fa_cons ⟨_, _, xs_, xj, by show (1 : Int) ≤ 1 * se + (-1) * (j : Int); omega⟩ (fa_cons ⟨_, _, xk, xa, by show (0 : Int) ≤ 1 * k + (-1) * (fc 34 j).toInt; omega⟩ (fa_cons ⟨_, _, xu, xk, by show (1 : Int) ≤ 1 * (fc 35 j).toInt + (-1) * k; omega⟩ (fa_cons ⟨_, _, xm, xh, by show (1 : Int) ≤ 1 * (fc 32 j).toInt + (-1) * (fc 30 (5 * v + (fc 31 j).toInt).toNat).toInt; omega⟩ fa_nil))))) (fun _ _ h => h.mono he) (fun _ h => h.mono he)
                refine qs_lnkB (p := 53) (ρ := ρ ++ xs) fa_nil hT hA zUg_u0dp1la (fa_cons (fun ρ1 ht1 hL hg1 _ => ⟨fun rv hrv => ?r0, fun q hq => ?c0⟩) fa_nil)
                case r0 =>
                  have hl1 : ρ1.length = 53 := hg1.len rfl
                  refine ⟨rfl, ?_, Or.inr ⟨rfl, fun hF => ?_⟩⟩
                  · rw [List.take_append_of_le_length (by omega), ht] at ht1
                    rw [← ht1, List.take_of_length_le (by omega)]
                  · have hj2 := hF j (by omega)
                    unfold hs_ok at hj2
                    omega
                case c0 =>
                  have hq : (Sum.inl _ : Option qV ⊕ (Nat × qL × List qV)) = Sum.inr q := hq
                  cases hq
              · skip
                refine qy_TP.pre (ρ' := ρ ++ xs) (g' := zUT_u0s_dp1lb.1) (w' := zUT_u0s_dp1lb.2.1) (lo' := zUT_u0s_dp1lb.2.2.1) (st' := zUT_u0s_dp1lb.2.2.2) ?_ (hwC1 hc) (fun h => h.to xs [(53, 0, 29), (54, -2147483648, 2147483647), (55, 0, 2147483647), (56, -2147483648, 2147483647), (57, 1, 2147483647), (58, -2147483648, 2147483647)] [((.ofNat 1), 22, (.negSucc 0), 53, (.ofNat 1)), ((.ofNat 1), 45, (.negSucc 0), 54, (.ofNat 0)), ((.ofNat 1), 55, (.negSucc 0), 45, (.ofNat 1)), ((.ofNat 1), 56, (.negSucc 0), 58, (.ofNat 1))] (by decide +kernel) (by rw [hlx]; rfl) (by decide +kernel) (fa_ex xj (by omega) (by omega) (fa_ex xa (by have := q_i32bd (fc 34 j); omega) (by have := q_i32bd (fc 34 j); omega) (fa_ex xu (by have := q_i32bd (fc 35 j); omega) (by have := q_i32bd (fc 35 j); omega) (fa_ex xm (by have := q_i32bd (fc 32 j); omega) (by have := q_i32bd (fc 32 j); omega) (fa_ex xi (by have := q_i32bd (fc 33 j); omega) (by have := q_i32bd (fc 33 j); omega) (fa_ex xh (by have := q_i32bd (fc 30 (5 * v + (fc 31 j).toInt).toNat); omega) (by have := q_i32bd (fc 30 (5 * v + (fc 31 j).toInt).toNat); omega) fa_nil)))))) (fa_cons ⟨_, _, xs_, xj, by show (1 : Int) ≤ 1 * se + (-1) * (j : Int); omega⟩ (fa_cons ⟨_, _, xk, xa, by show (0 : Int) ≤ 1 * k + (-1) * (fc 34 j).toInt; omega⟩ (fa_cons ⟨_, _, xu, xk, by show (1 : Int) ≤ 1 * (fc 35 j).toInt + (-1) * k; omega⟩ (fa_cons ⟨_, _, xm, xh, by show (1 : Int) ≤ 1 * (fc 32 j).toInt + (-1) * (fc 30 (5 * v + (fc 31 j).toInt).toNat).toInt; omega⟩ fa_nil))))) (fun _ _ h => h.mono he) (fun _ h => h.mono he)
                refine qs_lnkB (p := 53) (ρ := ρ ++ xs) fa_nil hT hA zUg_u0dp1lb (fa_cons (fun ρ1 ht1 hL hg1 _ => ⟨fun rv hrv => ?r0, fun q hq => ?c0⟩) fa_nil)
                case r0 =>
                  have hl1 : ρ1.length = 53 := hg1.len rfl
                  refine ⟨rfl, ?_, Or.inr ⟨rfl, fun hF => ?_⟩⟩
                  · rw [List.take_append_of_le_length (by omega), ht] at ht1
                    rw [← ht1, List.take_of_length_le (by omega)]
                  · have hj2 := hF j (by omega)
                    unfold hs_ok at hj2
                    omega
                case c0 =>
                  have hq : (Sum.inl _ : Option qV ⊕ (Nat × qL × List qV)) = Sum.inr q := hq
                  cases hq
            · have c5 : (fc 33 j).toInt = 1 ∨ (fc 33 j).toInt ≤ 0 ∨ 2 ≤ (fc 33 j).toInt := by omega
              rcases c5 with c4 | c4 | c4
              · skip
                refine qy_TP.pre (ρ' := ρ ++ xs) (g' := zUT_u0s_dp1ge.1) (w' := zUT_u0s_dp1ge.2.1) (lo' := zUT_u0s_dp1ge.2.2.1) (st' := zUT_u0s_dp1ge.2.2.2) ?_ (hwC1 hc) (fun h => h.to xs [(53, 0, 29), (54, -2147483648, 2147483647), (55, 0, 2147483647), (56, -2147483648, 2147483647), (57, 1, 1), (58, -2147483648, 2147483647)] [((.ofNat 1), 22, (.negSucc 0), 53, (.ofNat 1)), ((.ofNat 1), 45, (.negSucc 0), 54, (.ofNat 0)), ((.ofNat 1), 55, (.negSucc 0), 45, (.ofNat 1)), ((.ofNat 1), 58, (.negSucc 0), 56, (.ofNat 0))] (by decide +kernel) (by rw [hlx]; rfl) (by decide +kernel) (fa_ex xj (by omega) (by omega) (fa_ex xa (by have := q_i32bd (fc 34 j); omega) (by have := q_i32bd (fc 34 j); omega) (fa_ex xu (by have := q_i32bd (fc 35 j); omega) (by have := q_i32bd (fc 35 j); omega) (fa_ex xm (by have := q_i32bd (fc 32 j); omega) (by have := q_i32bd (fc 32 j); omega) (fa_ex xi (by have := q_i32bd (fc 33 j); omega) (by have := q_i32bd (fc 33 j); omega) (fa_ex xh (by have := q_i32bd (fc 30 (5 * v + (fc 31 j).toInt).toNat); omega) (by have := q_i32bd (fc 30 (5 * v + (fc 31 j).toInt).toNat); omega) fa_nil)))))) (fa_cons ⟨_, _, xs_, xj, by show (1 : Int) ≤ 1 * se + (-1) * (j : Int); omega⟩ (fa_cons ⟨_, _, xk, xa, by show (0 : Int) ≤ 1 * k + (-1) * (fc 34 j).toInt; omega⟩ (fa_cons ⟨_, _, xu, xk, by show (1 : Int) ≤ 1 * (fc 35 j).toInt + (-1) * k; omega⟩ (fa_cons ⟨_, _, xh, xm, by show (0 : Int) ≤ 1 * (fc 30 (5 * v + (fc 31 j).toInt).toNat).toInt + (-1) * (fc 32 j).toInt; omega⟩ fa_nil))))) (fun _ _ h => h.mono he) (fun _ h => h.mono he)
                refine qs_lnkB (p := 53) (ρ := ρ ++ xs) fa_nil hT hA zUg_u0dp1ge (fa_cons (fun ρ1 ht1 hL hg1 _ => ⟨fun rv hrv => ?r0, fun q hq => ?c0⟩) fa_nil)
                case r0 =>
                  have hrv : (Sum.inr _ : Option qV ⊕ (Nat × qL × List qV)) = Sum.inl rv := hrv
                  cases hrv
                case c0 =>
                  have hq : (Sum.inr _ : Option qV ⊕ (Nat × qL × List qV)) = Sum.inr q := hq
                  cases hq
                  have lj := (hL.n (i := 53) (d := 1) List.mem_cons_self xj)
                  exact ih ρ1 (j + 1) (by rw [ht1, List.take_append_of_le_length (by omega)]; exact ht) (by rw [lj]; exact congrArg some (by omega)) (by omega) (fun i hi => by
                    rcases Nat.lt_or_ge i j with z | z
                    · exact hok i z
                    · have e : i = j := by omega
                      rw [e]
                      exact Or.inr (Or.inr (Or.inl ⟨c3, c4⟩)))
              · skip
                refine qy_TP.pre (ρ' := ρ ++ xs) (g' := zUT_u0s_dp1ga.1) (w' := zUT_u0s_dp1ga.2.1) (lo' := zUT_u0s_dp1ga.2.2.1) (st' := zUT_u0s_dp1ga.2.2.2) ?_ (hwC1 hc) (fun h => h.to xs [(53, 0, 29), (54, -2147483648, 2147483647), (55, 0, 2147483647), (56, -2147483648, 2147483647), (57, -2147483648, 0), (58, -2147483648, 2147483647)] [((.ofNat 1), 22, (.negSucc 0), 53, (.ofNat 1)), ((.ofNat 1), 45, (.negSucc 0), 54, (.ofNat 0)), ((.ofNat 1), 55, (.negSucc 0), 45, (.ofNat 1)), ((.ofNat 1), 58, (.negSucc 0), 56, (.ofNat 0))] (by decide +kernel) (by rw [hlx]; rfl) (by decide +kernel) (fa_ex xj (by omega) (by omega) (fa_ex xa (by have := q_i32bd (fc 34 j); omega) (by have := q_i32bd (fc 34 j); omega) (fa_ex xu (by have := q_i32bd (fc 35 j); omega) (by have := q_i32bd (fc 35 j); omega) (fa_ex xm (by have := q_i32bd (fc 32 j); omega) (by have := q_i32bd (fc 32 j); omega) (fa_ex xi (by have := q_i32bd (fc 33 j); omega) (by have := q_i32bd (fc 33 j); omega) (fa_ex xh (by have := q_i32bd (fc 30 (5 * v + (fc 31 j).toInt).toNat); omega) (by have := q_i32bd (fc 30 (5 * v + (fc 31 j).toInt).toNat); omega) fa_nil)))))) (fa_cons ⟨_, _, xs_, xj, by show (1 : Int) ≤ 1 * se + (-1) * (j : Int); omega⟩ (fa_cons ⟨_, _, xk, xa, by show (0 : Int) ≤ 1 * k + (-1) * (fc 34 j).toInt; omega⟩ (fa_cons ⟨_, _, xu, xk, by show (1 : Int) ≤ 1 * (fc 35 j).toInt + (-1) * k; omega⟩ (fa_cons ⟨_, _, xh, xm, by show (0 : Int) ≤ 1 * (fc 30 (5 * v + (fc 31 j).toInt).toNat).toInt + (-1) * (fc 32 j).toInt; omega⟩ fa_nil))))) (fun _ _ h => h.mono he) (fun _ h => h.mono he)
                refine qs_lnkB (p := 53) (ρ := ρ ++ xs) fa_nil hT hA zUg_u0dp1ga (fa_cons (fun ρ1 ht1 hL hg1 _ => ⟨fun rv hrv => ?r0, fun q hq => ?c0⟩) fa_nil)
                case r0 =>
                  have hl1 : ρ1.length = 53 := hg1.len rfl
                  refine ⟨rfl, ?_, Or.inr ⟨rfl, fun hF => ?_⟩⟩
                  · rw [List.take_append_of_le_length (by omega), ht] at ht1
                    rw [← ht1, List.take_of_length_le (by omega)]
                  · have hj2 := hF j (by omega)
                    unfold hs_ok at hj2
                    omega
                case c0 =>
                  have hq : (Sum.inl _ : Option qV ⊕ (Nat × qL × List qV)) = Sum.inr q := hq
                  cases hq
              · skip
                refine qy_TP.pre (ρ' := ρ ++ xs) (g' := zUT_u0s_dp1gb.1) (w' := zUT_u0s_dp1gb.2.1) (lo' := zUT_u0s_dp1gb.2.2.1) (st' := zUT_u0s_dp1gb.2.2.2) ?_ (hwC1 hc) (fun h => h.to xs [(53, 0, 29), (54, -2147483648, 2147483647), (55, 0, 2147483647), (56, -2147483648, 2147483647), (57, 2, 2147483647), (58, -2147483648, 2147483647)] [((.ofNat 1), 22, (.negSucc 0), 53, (.ofNat 1)), ((.ofNat 1), 45, (.negSucc 0), 54, (.ofNat 0)), ((.ofNat 1), 55, (.negSucc 0), 45, (.ofNat 1)), ((.ofNat 1), 58, (.negSucc 0), 56, (.ofNat 0))] (by decide +kernel) (by rw [hlx]; rfl) (by decide +kernel) (fa_ex xj (by omega) (by omega) (fa_ex xa (by have := q_i32bd (fc 34 j); omega) (by have := q_i32bd (fc 34 j); omega) (fa_ex xu (by have := q_i32bd (fc 35 j); omega) (by have := q_i32bd (fc 35 j); omega) (fa_ex xm (by have := q_i32bd (fc 32 j); omega) (by have := q_i32bd (fc 32 j); omega) (fa_ex xi (by have := q_i32bd (fc 33 j); omega) (by have := q_i32bd (fc 33 j); omega) (fa_ex xh (by have := q_i32bd (fc 30 (5 * v + (fc 31 j).toInt).toNat); omega) (by have := q_i32bd (fc 30 (5 * v + (fc 31 j).toInt).toNat); omega) fa_nil)))))) (fa_cons ⟨_, _, xs_, xj, by show (1 : Int) ≤ 1 * se + (-1) * (j : Int); omega⟩ (fa_cons ⟨_, _, xk, xa, by show (0 : Int) ≤ 1 * k + (-1) * (fc 34 j).toInt; omega⟩ (fa_cons ⟨_, _, xu, xk, by show (1 : Int) ≤ 1 * (fc 35 j).toInt + (-1) * k; omega⟩ (fa_cons ⟨_, _, xh, xm, by show (0 : Int) ≤ 1 * (fc 30 (5 * v + (fc 31 j).toInt).toNat).toInt + (-1) * (fc 32 j).toInt; omega⟩ fa_nil))))) (fun _ _ h => h.mono he) (fun _ h => h.mono he)
                refine qs_lnkB (p := 53) (ρ := ρ ++ xs) fa_nil hT hA zUg_u0dp1gb (fa_cons (fun ρ1 ht1 hL hg1 _ => ⟨fun rv hrv => ?r0, fun q hq => ?c0⟩) fa_nil)
                case r0 =>
                  have hl1 : ρ1.length = 53 := hg1.len rfl
                  refine ⟨rfl, ?_, Or.inr ⟨rfl, fun hF => ?_⟩⟩
                  · rw [List.take_append_of_le_length (by omega), ht] at ht1
                    rw [← ht1, List.take_of_length_le (by omega)]
                  · have hj2 := hF j (by omega)
                    unfold hs_ok at hj2
                    omega
                case c0 =>
                  have hq : (Sum.inl _ : Option qV ⊕ (Nat × qL × List qV)) = Sum.inr q := hq
                  cases hq
          · rcases Int.lt_or_le (fc 30 (5 * v + (fc 31 j).toInt).toNat).toInt (fc 32 j).toInt with c3 | c3
            · have c5 : (fc 33 j).toInt = 0 ∨ (fc 33 j).toInt ≤ -1 ∨ 1 ≤ (fc 33 j).toInt := by omega
              rcases c5 with c4 | c4 | c4
              · skip
                refine qy_TP.pre (ρ' := ρ ++ xs) (g' := zUT_u0s_dp2le.1) (w' := zUT_u0s_dp2le.2.1) (lo' := zUT_u0s_dp2le.2.2.1) (st' := zUT_u0s_dp2le.2.2.2) ?_ (hwC2 hc) (fun h => h.to xs [(53, 0, 29), (54, -2147483648, 2147483647), (55, 0, 2147483647), (56, -2147483648, 2147483647), (57, 0, 0), (58, -2147483648, 2147483647)] [((.ofNat 1), 22, (.negSucc 0), 53, (.ofNat 1)), ((.ofNat 1), 45, (.negSucc 0), 54, (.ofNat 0)), ((.ofNat 1), 55, (.negSucc 0), 45, (.ofNat 1)), ((.ofNat 1), 56, (.negSucc 0), 58, (.ofNat 1))] (by decide +kernel) (by rw [hlx]; rfl) (by decide +kernel) (fa_ex xj (by omega) (by omega) (fa_ex xa (by have := q_i32bd (fc 34 j); omega) (by have := q_i32bd (fc 34 j); omega) (fa_ex xu (by have := q_i32bd (fc 35 j); omega) (by have := q_i32bd (fc 35 j); omega) (fa_ex xm (by have := q_i32bd (fc 32 j); omega) (by have := q_i32bd (fc 32 j); omega) (fa_ex xi (by have := q_i32bd (fc 33 j); omega) (by have := q_i32bd (fc 33 j); omega) (fa_ex xh (by have := q_i32bd (fc 30 (5 * v + (fc 31 j).toInt).toNat); omega) (by have := q_i32bd (fc 30 (5 * v + (fc 31 j).toInt).toNat); omega) fa_nil)))))) (fa_cons ⟨_, _, xs_, xj, by show (1 : Int) ≤ 1 * se + (-1) * (j : Int); omega⟩ (fa_cons ⟨_, _, xk, xa, by show (0 : Int) ≤ 1 * k + (-1) * (fc 34 j).toInt; omega⟩ (fa_cons ⟨_, _, xu, xk, by show (1 : Int) ≤ 1 * (fc 35 j).toInt + (-1) * k; omega⟩ (fa_cons ⟨_, _, xm, xh, by show (1 : Int) ≤ 1 * (fc 32 j).toInt + (-1) * (fc 30 (5 * v + (fc 31 j).toInt).toNat).toInt; omega⟩ fa_nil))))) (fun _ _ h => h.mono he) (fun _ h => h.mono he)
                refine qs_lnkB (p := 53) (ρ := ρ ++ xs) fa_nil hT hA zUg_u0dp2le (fa_cons (fun ρ1 ht1 hL hg1 _ => ⟨fun rv hrv => ?r0, fun q hq => ?c0⟩) fa_nil)
                case r0 =>
                  have hrv : (Sum.inr _ : Option qV ⊕ (Nat × qL × List qV)) = Sum.inl rv := hrv
                  cases hrv
                case c0 =>
                  have hq : (Sum.inr _ : Option qV ⊕ (Nat × qL × List qV)) = Sum.inr q := hq
                  cases hq
                  have lj := (hL.n (i := 53) (d := 1) List.mem_cons_self xj)
                  exact ih ρ1 (j + 1) (by rw [ht1, List.take_append_of_le_length (by omega)]; exact ht) (by rw [lj]; exact congrArg some (by omega)) (by omega) (fun i hi => by
                    rcases Nat.lt_or_ge i j with z | z
                    · exact hok i z
                    · have e : i = j := by omega
                      rw [e]
                      exact Or.inr (Or.inr (Or.inr ⟨c3, c4⟩)))
              · skip
                refine qy_TP.pre (ρ' := ρ ++ xs) (g' := zUT_u0s_dp2la.1) (w' := zUT_u0s_dp2la.2.1) (lo' := zUT_u0s_dp2la.2.2.1) (st' := zUT_u0s_dp2la.2.2.2) ?_ (hwC2 hc) (fun h => h.to xs [(53, 0, 29), (54, -2147483648, 2147483647), (55, 0, 2147483647), (56, -2147483648, 2147483647), (57, -2147483648, -1), (58, -2147483648, 2147483647)] [((.ofNat 1), 22, (.negSucc 0), 53, (.ofNat 1)), ((.ofNat 1), 45, (.negSucc 0), 54, (.ofNat 0)), ((.ofNat 1), 55, (.negSucc 0), 45, (.ofNat 1)), ((.ofNat 1), 56, (.negSucc 0), 58, (.ofNat 1))] (by decide +kernel) (by rw [hlx]; rfl) (by decide +kernel) (fa_ex xj (by omega) (by omega) (fa_ex xa (by have := q_i32bd (fc 34 j); omega) (by have := q_i32bd (fc 34 j); omega) (fa_ex xu (by have := q_i32bd (fc 35 j); omega) (by have := q_i32bd (fc 35 j); omega) (fa_ex xm (by have := q_i32bd (fc 32 j); omega) (by have := q_i32bd (fc 32 j); omega) (fa_ex xi (by have := q_i32bd (fc 33 j); omega) (by have := q_i32bd (fc 33 j); omega) (fa_ex xh (by have := q_i32bd (fc 30 (5 * v + (fc 31 j).toInt).toNat); omega) (by have := q_i32bd (fc 30 (5 * v + (fc 31 j).toInt).toNat); omega) fa_nil)))))) (fa_cons ⟨_, _, xs_, xj, by show (1 : Int) ≤ 1 * se + (-1) * (j : Int); omega⟩ (fa_cons ⟨_, _, xk, xa, by show (0 : Int) ≤ 1 * k + (-1) * (fc 34 j).toInt; omega⟩ (fa_cons ⟨_, _, xu, xk, by show (1 : Int) ≤ 1 * (fc 35 j).toInt + (-1) * k; omega⟩ (fa_cons ⟨_, _, xm, xh, by show (1 : Int) ≤ 1 * (fc 32 j).toInt + (-1) * (fc 30 (5 * v + (fc 31 j).toInt).toNat).toInt; omega⟩ fa_nil))))) (fun _ _ h => h.mono he) (fun _ h => h.mono he)
                refine qs_lnkB (p := 53) (ρ := ρ ++ xs) fa_nil hT hA zUg_u0dp2la (fa_cons (fun ρ1 ht1 hL hg1 _ => ⟨fun rv hrv => ?r0, fun q hq => ?c0⟩) fa_nil)
                case r0 =>
                  have hl1 : ρ1.length = 53 := hg1.len rfl
                  refine ⟨rfl, ?_, Or.inr ⟨rfl, fun hF => ?_⟩⟩
                  · rw [List.take_append_of_le_length (by omega), ht] at ht1
                    rw [← ht1, List.take_of_length_le (by omega)]
                  · have hj2 := hF j (by omega)
                    unfold hs_ok at hj2
                    omega
                case c0 =>
                  have hq : (Sum.inl _ : Option qV ⊕ (Nat × qL × List qV)) = Sum.inr q := hq
                  cases hq
              · skip
                refine qy_TP.pre (ρ' := ρ ++ xs) (g' := zUT_u0s_dp2lb.1) (w' := zUT_u0s_dp2lb.2.1) (lo' := zUT_u0s_dp2lb.2.2.1) (st' := zUT_u0s_dp2lb.2.2.2) ?_ (hwC2 hc) (fun h => h.to xs [(53, 0, 29), (54, -2147483648, 2147483647), (55, 0, 2147483647), (56, -2147483648, 2147483647), (57, 1, 2147483647), (58, -2147483648, 2147483647)] [((.ofNat 1), 22, (.negSucc 0), 53, (.ofNat 1)), ((.ofNat 1), 45, (.negSucc 0), 54, (.ofNat 0)), ((.ofNat 1), 55, (.negSucc 0), 45, (.ofNat 1)), ((.ofNat 1), 56, (.negSucc 0), 58, (.ofNat 1))] (by decide +kernel) (by rw [hlx]; rfl) (by decide +kernel) (fa_ex xj (by omega) (by omega) (fa_ex xa (by have := q_i32bd (fc 34 j); omega) (by have := q_i32bd (fc 34 j); omega) (fa_ex xu (by have := q_i32bd (fc 35 j); omega) (by have := q_i32bd (fc 35 j); omega) (fa_ex xm (by have := q_i32bd (fc 32 j); omega) (by have := q_i32bd (fc 32 j); omega) (fa_ex xi (by have := q_i32bd (fc 33 j); omega) (by have := q_i32bd (fc 33 j); omega) (fa_ex xh (by have := q_i32bd (fc 30 (5 * v + (fc 31 j).toInt).toNat); omega) (by have := q_i32bd (fc 30 (5 * v + (fc 31 j).toInt).toNat); omega) fa_nil)))))) (fa_cons ⟨_, _, xs_, xj, by show (1 : Int) ≤ 1 * se + (-1) * (j : Int); omega⟩ (fa_cons ⟨_, _, xk, xa, by show (0 : Int) ≤ 1 * k + (-1) * (fc 34 j).toInt; omega⟩ (fa_cons ⟨_, _, xu, xk, by show (1 : Int) ≤ 1 * (fc 35 j).toInt + (-1) * k; omega⟩ (fa_cons ⟨_, _, xm, xh, by show (1 : Int) ≤ 1 * (fc 32 j).toInt + (-1) * (fc 30 (5 * v + (fc 31 j).toInt).toNat).toInt; omega⟩ fa_nil))))) (fun _ _ h => h.mono he) (fun _ h => h.mono he)
                refine qs_lnkB (p := 53) (ρ := ρ ++ xs) fa_nil hT hA zUg_u0dp2lb (fa_cons (fun ρ1 ht1 hL hg1 _ => ⟨fun rv hrv => ?r0, fun q hq => ?c0⟩) fa_nil)
                case r0 =>
                  have hl1 : ρ1.length = 53 := hg1.len rfl
                  refine ⟨rfl, ?_, Or.inr ⟨rfl, fun hF => ?_⟩⟩
                  · rw [List.take_append_of_le_length (by omega), ht] at ht1
                    rw [← ht1, List.take_of_length_le (by omega)]
                  · have hj2 := hF j (by omega)
                    unfold hs_ok at hj2
                    omega
                case c0 =>
                  have hq : (Sum.inl _ : Option qV ⊕ (Nat × qL × List qV)) = Sum.inr q := hq
                  cases hq
            · have c5 : (fc 33 j).toInt = 1 ∨ (fc 33 j).toInt ≤ 0 ∨ 2 ≤ (fc 33 j).toInt := by omega
              rcases c5 with c4 | c4 | c4
              · skip
                refine qy_TP.pre (ρ' := ρ ++ xs) (g' := zUT_u0s_dp2ge.1) (w' := zUT_u0s_dp2ge.2.1) (lo' := zUT_u0s_dp2ge.2.2.1) (st' := zUT_u0s_dp2ge.2.2.2) ?_ (hwC2 hc) (fun h => h.to xs [(53, 0, 29), (54, -2147483648, 2147483647), (55, 0, 2147483647), (56, -2147483648, 2147483647), (57, 1, 1), (58, -2147483648, 2147483647)] [((.ofNat 1), 22, (.negSucc 0), 53, (.ofNat 1)), ((.ofNat 1), 45, (.negSucc 0), 54, (.ofNat 0)), ((.ofNat 1), 55, (.negSucc 0), 45, (.ofNat 1)), ((.ofNat 1), 58, (.negSucc 0), 56, (.ofNat 0))] (by decide +kernel) (by rw [hlx]; rfl) (by decide +kernel) (fa_ex xj (by omega) (by omega) (fa_ex xa (by have := q_i32bd (fc 34 j); omega) (by have := q_i32bd (fc 34 j); omega) (fa_ex xu (by have := q_i32bd (fc 35 j); omega) (by have := q_i32bd (fc 35 j); omega) (fa_ex xm (by have := q_i32bd (fc 32 j); omega) (by have := q_i32bd (fc 32 j); omega) (fa_ex xi (by have := q_i32bd (fc 33 j); omega) (by have := q_i32bd (fc 33 j); omega) (fa_ex xh (by have := q_i32bd (fc 30 (5 * v + (fc 31 j).toInt).toNat); omega) (by have := q_i32bd (fc 30 (5 * v + (fc 31 j).toInt).toNat); omega) fa_nil)))))) (fa_cons ⟨_, _, xs_, xj, by show (1 : Int) ≤ 1 * se + (-1) * (j : Int); omega⟩ (fa_cons ⟨_, _, xk, xa, by show (0 : Int) ≤ 1 * k + (-1) * (fc 34 j).toInt; omega⟩ (fa_cons ⟨_, _, xu, xk, by show (1 : Int) ≤ 1 * (fc 35 j).toInt + (-1) * k; omega⟩ (fa_cons ⟨_, _, xh, xm, by show (0 : Int) ≤ 1 * (fc 30 (5 * v + (fc 31 j).toInt).toNat).toInt + (-1) * (fc 32 j).toInt; omega⟩ fa_nil))))) (fun _ _ h => h.mono he) (fun _ h => h.mono he)
                refine qs_lnkB (p := 53) (ρ := ρ ++ xs) fa_nil hT hA zUg_u0dp2ge (fa_cons (fun ρ1 ht1 hL hg1 _ => ⟨fun rv hrv => ?r0, fun q hq => ?c0⟩) fa_nil)
                case r0 =>
                  have hrv : (Sum.inr _ : Option qV ⊕ (Nat × qL × List qV)) = Sum.inl rv := hrv
                  cases hrv
                case c0 =>
                  have hq : (Sum.inr _ : Option qV ⊕ (Nat × qL × List qV)) = Sum.inr q := hq
                  cases hq
                  have lj := (hL.n (i := 53) (d := 1) List.mem_cons_self xj)
                  exact ih ρ1 (j + 1) (by rw [ht1, List.take_append_of_le_length (by omega)]; exact ht) (by rw [lj]; exact congrArg some (by omega)) (by omega) (fun i hi => by
                    rcases Nat.lt_or_ge i j with z | z
                    · exact hok i z
                    · have e : i = j := by omega
                      rw [e]
                      exact Or.inr (Or.inr (Or.inl ⟨c3, c4⟩)))
              · skip
                refine qy_TP.pre (ρ' := ρ ++ xs) (g' := zUT_u0s_dp2ga.1) (w' := zUT_u0s_dp2ga.2.1) (lo' := zUT_u0s_dp2ga.2.2.1) (st' := zUT_u0s_dp2ga.2.2.2) ?_ (hwC2 hc) (fun h => h.to xs [(53, 0, 29), (54, -2147483648, 2147483647), (55, 0, 2147483647), (56, -2147483648, 2147483647), (57, -2147483648, 0), (58, -2147483648, 2147483647)] [((.ofNat 1), 22, (.negSucc 0), 53, (.ofNat 1)), ((.ofNat 1), 45, (.negSucc 0), 54, (.ofNat 0)), ((.ofNat 1), 55, (.negSucc 0), 45, (.ofNat 1)), ((.ofNat 1), 58, (.negSucc 0), 56, (.ofNat 0))] (by decide +kernel) (by rw [hlx]; rfl) (by decide +kernel) (fa_ex xj (by omega) (by omega) (fa_ex xa (by have := q_i32bd (fc 34 j); omega) (by have := q_i32bd (fc 34 j); omega) (fa_ex xu (by have := q_i32bd (fc 35 j); omega) (by have := q_i32bd (fc 35 j); omega) (fa_ex xm (by have := q_i32bd (fc 32 j); omega) (by have := q_i32bd (fc 32 j); omega) (fa_ex xi (by have := q_i32bd (fc 33 j); omega) (by have := q_i32bd (fc 33 j); omega) (fa_ex xh (by have := q_i32bd (fc 30 (5 * v + (fc 31 j).toInt).toNat); omega) (by have := q_i32bd (fc 30 (5 * v + (fc 31 j).toInt).toNat); omega) fa_nil)))))) (fa_cons ⟨_, _, xs_, xj, by show (1 : Int) ≤ 1 * se + (-1) * (j : Int); omega⟩ (fa_cons ⟨_, _, xk, xa, by show (0 : Int) ≤ 1 * k + (-1) * (fc 34 j).toInt; omega⟩ (fa_cons ⟨_, _, xu, xk, by show (1 : Int) ≤ 1 * (fc 35 j).toInt + (-1) * k; omega⟩ (fa_cons ⟨_, _, xh, xm, by show (0 : Int) ≤ 1 * (fc 30 (5 * v + (fc 31 j).toInt).toNat).toInt + (-1) * (fc 32 j).toInt; omega⟩ fa_nil))))) (fun _ _ h => h.mono he) (fun _ h => h.mono he)
                refine qs_lnkB (p := 53) (ρ := ρ ++ xs) fa_nil hT hA zUg_u0dp2ga (fa_cons (fun ρ1 ht1 hL hg1 _ => ⟨fun rv hrv => ?r0, fun q hq => ?c0⟩) fa_nil)
                case r0 =>
                  have hl1 : ρ1.length = 53 := hg1.len rfl
                  refine ⟨rfl, ?_, Or.inr ⟨rfl, fun hF => ?_⟩⟩
                  · rw [List.take_append_of_le_length (by omega), ht] at ht1
                    rw [← ht1, List.take_of_length_le (by omega)]
                  · have hj2 := hF j (by omega)
                    unfold hs_ok at hj2
                    omega
                case c0 =>
                  have hq : (Sum.inl _ : Option qV ⊕ (Nat × qL × List qV)) = Sum.inr q := hq
                  cases hq
              · skip
                refine qy_TP.pre (ρ' := ρ ++ xs) (g' := zUT_u0s_dp2gb.1) (w' := zUT_u0s_dp2gb.2.1) (lo' := zUT_u0s_dp2gb.2.2.1) (st' := zUT_u0s_dp2gb.2.2.2) ?_ (hwC2 hc) (fun h => h.to xs [(53, 0, 29), (54, -2147483648, 2147483647), (55, 0, 2147483647), (56, -2147483648, 2147483647), (57, 2, 2147483647), (58, -2147483648, 2147483647)] [((.ofNat 1), 22, (.negSucc 0), 53, (.ofNat 1)), ((.ofNat 1), 45, (.negSucc 0), 54, (.ofNat 0)), ((.ofNat 1), 55, (.negSucc 0), 45, (.ofNat 1)), ((.ofNat 1), 58, (.negSucc 0), 56, (.ofNat 0))] (by decide +kernel) (by rw [hlx]; rfl) (by decide +kernel) (fa_ex xj (by omega) (by omega) (fa_ex xa (by have := q_i32bd (fc 34 j); omega) (by have := q_i32bd (fc 34 j); omega) (fa_ex xu (by have := q_i32bd (fc 35 j); omega) (by have := q_i32bd (fc 35 j); omega) (fa_ex xm (by have := q_i32bd (fc 32 j); omega) (by have := q_i32bd (fc 32 j); omega) (fa_ex xi (by have := q_i32bd (fc 33 j); omega) (by have := q_i32bd (fc 33 j); omega) (fa_ex xh (by have := q_i32bd (fc 30 (5 * v + (fc 31 j).toInt).toNat); omega) (by have := q_i32bd (fc 30 (5 * v + (fc 31 j).toInt).toNat); omega) fa_nil)))))) (fa_cons ⟨_, _, xs_, xj, by show (1 : Int) ≤ 1 * se + (-1) * (j : Int); omega⟩ (fa_cons ⟨_, _, xk, xa, by show (0 : Int) ≤ 1 * k + (-1) * (fc 34 j).toInt; omega⟩ (fa_cons ⟨_, _, xu, xk, by show (1 : Int) ≤ 1 * (fc 35 j).toInt + (-1) * k; omega⟩ (fa_cons ⟨_, _, xh, xm, by show (0 : Int) ≤ 1 * (fc 30 (5 * v + (fc 31 j).toInt).toNat).toInt + (-1) * (fc 32 j).toInt; omega⟩ fa_nil))))) (fun _ _ h => h.mono he) (fun _ h => h.mono he)
                refine qs_lnkB (p := 53) (ρ := ρ ++ xs) fa_nil hT hA zUg_u0dp2gb (fa_cons (fun ρ1 ht1 hL hg1 _ => ⟨fun rv hrv => ?r0, fun q hq => ?c0⟩) fa_nil)
                case r0 =>
                  have hl1 : ρ1.length = 53 := hg1.len rfl
                  refine ⟨rfl, ?_, Or.inr ⟨rfl, fun hF => ?_⟩⟩
                  · rw [List.take_append_of_le_length (by omega), ht] at ht1
                    rw [← ht1, List.take_of_length_le (by omega)]
                  · have hj2 := hF j (by omega)
                    unfold hs_ok at hj2
                    omega
                case c0 =>
                  have hq : (Sum.inl _ : Option qV ⊕ (Nat × qL × List qV)) = Sum.inr q := hq
                  cases hq
          · rcases Int.lt_or_le (fc 30 (5 * v + (fc 31 j).toInt).toNat).toInt (fc 32 j).toInt with c3 | c3
            · have c5 : (fc 33 j).toInt = 0 ∨ (fc 33 j).toInt ≤ -1 ∨ 1 ≤ (fc 33 j).toInt := by omega
              rcases c5 with c4 | c4 | c4
              · skip
                refine qy_TP.pre (ρ' := ρ ++ xs) (g' := zUT_u0s_dp3le.1) (w' := zUT_u0s_dp3le.2.1) (lo' := zUT_u0s_dp3le.2.2.1) (st' := zUT_u0s_dp3le.2.2.2) ?_ (hwC3 hc) (fun h => h.to xs [(53, 0, 29), (54, -2147483648, 2147483647), (55, 0, 2147483647), (56, -2147483648, 2147483647), (57, 0, 0), (58, -2147483648, 2147483647)] [((.ofNat 1), 22, (.negSucc 0), 53, (.ofNat 1)), ((.ofNat 1), 45, (.negSucc 0), 54, (.ofNat 0)), ((.ofNat 1), 55, (.negSucc 0), 45, (.ofNat 1)), ((.ofNat 1), 56, (.negSucc 0), 58, (.ofNat 1))] (by decide +kernel) (by rw [hlx]; rfl) (by decide +kernel) (fa_ex xj (by omega) (by omega) (fa_ex xa (by have := q_i32bd (fc 34 j); omega) (by have := q_i32bd (fc 34 j); omega) (fa_ex xu (by have := q_i32bd (fc 35 j); omega) (by have := q_i32bd (fc 35 j); omega) (fa_ex xm (by have := q_i32bd (fc 32 j); omega) (by have := q_i32bd (fc 32 j); omega) (fa_ex xi (by have := q_i32bd (fc 33 j); omega) (by have := q_i32bd (fc 33 j); omega) (fa_ex xh (by have := q_i32bd (fc 30 (5 * v + (fc 31 j).toInt).toNat); omega) (by have := q_i32bd (fc 30 (5 * v + (fc 31 j).toInt).toNat); omega) fa_nil)))))) (fa_cons ⟨_, _, xs_, xj, by show (1 : Int) ≤ 1 * se + (-1) * (j : Int); omega⟩ (fa_cons ⟨_, _, xk, xa, by show (0 : Int) ≤ 1 * k + (-1) * (fc 34 j).toInt; omega⟩ (fa_cons ⟨_, _, xu, xk, by show (1 : Int) ≤ 1 * (fc 35 j).toInt + (-1) * k; omega⟩ (fa_cons ⟨_, _, xm, xh, by show (1 : Int) ≤ 1 * (fc 32 j).toInt + (-1) * (fc 30 (5 * v + (fc 31 j).toInt).toNat).toInt; omega⟩ fa_nil))))) (fun _ _ h => h.mono he) (fun _ h => h.mono he)
                refine qs_lnkB (p := 53) (ρ := ρ ++ xs) fa_nil hT hA zUg_u0dp3le (fa_cons (fun ρ1 ht1 hL hg1 _ => ⟨fun rv hrv => ?r0, fun q hq => ?c0⟩) fa_nil)
                case r0 =>
                  have hrv : (Sum.inr _ : Option qV ⊕ (Nat × qL × List qV)) = Sum.inl rv := hrv
                  cases hrv
                case c0 =>
                  have hq : (Sum.inr _ : Option qV ⊕ (Nat × qL × List qV)) = Sum.inr q := hq
                  cases hq
                  have lj := (hL.n (i := 53) (d := 1) List.mem_cons_self xj)
                  exact ih ρ1 (j + 1) (by rw [ht1, List.take_append_of_le_length (by omega)]; exact ht) (by rw [lj]; exact congrArg some (by omega)) (by omega) (fun i hi => by
                    rcases Nat.lt_or_ge i j with z | z
                    · exact hok i z
                    · have e : i = j := by omega
                      rw [e]
                      exact Or.inr (Or.inr (Or.inr ⟨c3, c4⟩)))
              · skip
                refine qy_TP.pre (ρ' := ρ ++ xs) (g' := zUT_u0s_dp3la.1) (w' := zUT_u0s_dp3la.2.1) (lo' := zUT_u0s_dp3la.2.2.1) (st' := zUT_u0s_dp3la.2.2.2) ?_ (hwC3 hc) (fun h => h.to xs [(53, 0, 29), (54, -2147483648, 2147483647), (55, 0, 2147483647), (56, -2147483648, 2147483647), (57, -2147483648, -1), (58, -2147483648, 2147483647)] [((.ofNat 1), 22, (.negSucc 0), 53, (.ofNat 1)), ((.ofNat 1), 45, (.negSucc 0), 54, (.ofNat 0)), ((.ofNat 1), 55, (.negSucc 0), 45, (.ofNat 1)), ((.ofNat 1), 56, (.negSucc 0), 58, (.ofNat 1))] (by decide +kernel) (by rw [hlx]; rfl) (by decide +kernel) (fa_ex xj (by omega) (by omega) (fa_ex xa (by have := q_i32bd (fc 34 j); omega) (by have := q_i32bd (fc 34 j); omega) (fa_ex xu (by have := q_i32bd (fc 35 j); omega) (by have := q_i32bd (fc 35 j); omega) (fa_ex xm (by have := q_i32bd (fc 32 j); omega) (by have := q_i32bd (fc 32 j); omega) (fa_ex xi (by have := q_i32bd (fc 33 j); omega) (by have := q_i32bd (fc 33 j); omega) (fa_ex xh (by have := q_i32bd (fc 30 (5 * v + (fc 31 j).toInt).toNat); omega) (by have := q_i32bd (fc 30 (5 * v + (fc 31 j).toInt).toNat); omega) fa_nil)))))) (fa_cons ⟨_, _, xs_, xj, by show (1 : Int) ≤ 1 * se + (-1) * (j : Int); omega⟩ (fa_cons ⟨_, _, xk, xa, by show (0 : Int) ≤ 1 * k + (-1) * (fc 34 j).toInt; omega⟩ (fa_cons ⟨_, _, xu, xk, by show (1 : Int) ≤ 1 * (fc 35 j).toInt + (-1) * k; omega⟩ (fa_cons ⟨_, _, xm, xh, by show (1 : Int) ≤ 1 * (fc 32 j).toInt + (-1) * (fc 30 (5 * v + (fc 31 j).toInt).toNat).toInt; omega⟩ fa_nil))))) (fun _ _ h => h.mono he) (fun _ h => h.mono he)
                refine qs_lnkB (p := 53) (ρ := ρ ++ xs) fa_nil hT hA zUg_u0dp3la (fa_cons (fun ρ1 ht1 hL hg1 _ => ⟨fun rv hrv => ?r0, fun q hq => ?c0⟩) fa_nil)
                case r0 =>
                  have hl1 : ρ1.length = 53 := hg1.len rfl
                  refine ⟨rfl, ?_, Or.inr ⟨rfl, fun hF => ?_⟩⟩
                  · rw [List.take_append_of_le_length (by omega), ht] at ht1
                    rw [← ht1, List.take_of_length_le (by omega)]
                  · have hj2 := hF j (by omega)
                    unfold hs_ok at hj2
                    omega
                case c0 =>
                  have hq : (Sum.inl _ : Option qV ⊕ (Nat × qL × List qV)) = Sum.inr q := hq
                  cases hq
              · skip
                refine qy_TP.pre (ρ' := ρ ++ xs) (g' := zUT_u0s_dp3lb.1) (w' := zUT_u0s_dp3lb.2.1) (lo' := zUT_u0s_dp3lb.2.2.1) (st' := zUT_u0s_dp3lb.2.2.2) ?_ (hwC3 hc) (fun h => h.to xs [(53, 0, 29), (54, -2147483648, 2147483647), (55, 0, 2147483647), (56, -2147483648, 2147483647), (57, 1, 2147483647), (58, -2147483648, 2147483647)] [((.ofNat 1), 22, (.negSucc 0), 53, (.ofNat 1)), ((.ofNat 1), 45, (.negSucc 0), 54, (.ofNat 0)), ((.ofNat 1), 55, (.negSucc 0), 45, (.ofNat 1)), ((.ofNat 1), 56, (.negSucc 0), 58, (.ofNat 1))] (by decide +kernel) (by rw [hlx]; rfl) (by decide +kernel) (fa_ex xj (by omega) (by omega) (fa_ex xa (by have := q_i32bd (fc 34 j); omega) (by have := q_i32bd (fc 34 j); omega) (fa_ex xu (by have := q_i32bd (fc 35 j); omega) (by have := q_i32bd (fc 35 j); omega) (fa_ex xm (by have := q_i32bd (fc 32 j); omega) (by have := q_i32bd (fc 32 j); omega) (fa_ex xi (by have := q_i32bd (fc 33 j); omega) (by have := q_i32bd (fc 33 j); omega) (fa_ex xh (by have := q_i32bd (fc 30 (5 * v + (fc 31 j).toInt).toNat); omega) (by have := q_i32bd (fc 30 (5 * v + (fc 31 j).toInt).toNat); omega) fa_nil)))))) (fa_cons ⟨_, _, xs_, xj, by show (1 : Int) ≤ 1 * se + (-1) * (j : Int); omega⟩ (fa_cons ⟨_, _, xk, xa, by show (0 : Int) ≤ 1 * k + (-1) * (fc 34 j).toInt; omega⟩ (fa_cons ⟨_, _, xu, xk, by show (1 : Int) ≤ 1 * (fc 35 j).toInt + (-1) * k; omega⟩ (fa_cons ⟨_, _, xm, xh, by show (1 : Int) ≤ 1 * (fc 32 j).toInt + (-1) * (fc 30 (5 * v + (fc 31 j).toInt).toNat).toInt; omega⟩ fa_nil))))) (fun _ _ h => h.mono he) (fun _ h => h.mono he)
                refine qs_lnkB (p := 53) (ρ := ρ ++ xs) fa_nil hT hA zUg_u0dp3lb (fa_cons (fun ρ1 ht1 hL hg1 _ => ⟨fun rv hrv => ?r0, fun q hq => ?c0⟩) fa_nil)
                case r0 =>
                  have hl1 : ρ1.length = 53 := hg1.len rfl
                  refine ⟨rfl, ?_, Or.inr ⟨rfl, fun hF => ?_⟩⟩
                  · rw [List.take_append_of_le_length (by omega), ht] at ht1
                    rw [← ht1, List.take_of_length_le (by omega)]
                  · have hj2 := hF j (by omega)
                    unfold hs_ok at hj2
                    omega
                case c0 =>
                  have hq : (Sum.inl _ : Option qV ⊕ (Nat × qL × List qV)) = Sum.inr q := hq
                  cases hq
            · have c5 : (fc 33 j).toInt = 1 ∨ (fc 33 j).toInt ≤ 0 ∨ 2 ≤ (fc 33 j).toInt := by omega
              rcases c5 with c4 | c4 | c4
              · skip
                refine qy_TP.pre (ρ' := ρ ++ xs) (g' := zUT_u0s_dp3ge.1) (w' := zUT_u0s_dp3ge.2.1) (lo' := zUT_u0s_dp3ge.2.2.1) (st' := zUT_u0s_dp3ge.2.2.2) ?_ (hwC3 hc) (fun h => h.to xs [(53, 0, 29), (54, -2147483648, 2147483647), (55, 0, 2147483647), (56, -2147483648, 2147483647), (57, 1, 1), (58, -2147483648, 2147483647)] [((.ofNat 1), 22, (.negSucc 0), 53, (.ofNat 1)), ((.ofNat 1), 45, (.negSucc 0), 54, (.ofNat 0)), ((.ofNat 1), 55, (.negSucc 0), 45, (.ofNat 1)), ((.ofNat 1), 58, (.negSucc 0), 56, (.ofNat 0))] (by decide +kernel) (by rw [hlx]; rfl) (by decide +kernel) (fa_ex xj (by omega) (by omega) (fa_ex xa (by have := q_i32bd (fc 34 j); omega) (by have := q_i32bd (fc 34 j); omega) (fa_ex xu (by have := q_i32bd (fc 35 j); omega) (by have := q_i32bd (fc 35 j); omega) (fa_ex xm (by have := q_i32bd (fc 32 j); omega) (by have := q_i32bd (fc 32 j); omega) (fa_ex xi (by have := q_i32bd (fc 33 j); omega) (by have := q_i32bd (fc 33 j); omega) (fa_ex xh (by have := q_i32bd (fc 30 (5 * v + (fc 31 j).toInt).toNat); omega) (by have := q_i32bd (fc 30 (5 * v + (fc 31 j).toInt).toNat); omega) fa_nil)))))) (fa_cons ⟨_, _, xs_, xj, by show (1 : Int) ≤ 1 * se + (-1) * (j : Int); omega⟩ (fa_cons ⟨_, _, xk, xa, by show (0 : Int) ≤ 1 * k + (-1) * (fc 34 j).toInt; omega⟩ (fa_cons ⟨_, _, xu, xk, by show (1 : Int) ≤ 1 * (fc 35 j).toInt + (-1) * k; omega⟩ (fa_cons ⟨_, _, xh, xm, by show (0 : Int) ≤ 1 * (fc 30 (5 * v + (fc 31 j).toInt).toNat).toInt + (-1) * (fc 32 j).toInt; omega⟩ fa_nil))))) (fun _ _ h => h.mono he) (fun _ h => h.mono he)
                refine qs_lnkB (p := 53) (ρ := ρ ++ xs) fa_nil hT hA zUg_u0dp3ge (fa_cons (fun ρ1 ht1 hL hg1 _ => ⟨fun rv hrv => ?r0, fun q hq => ?c0⟩) fa_nil)
                case r0 =>
                  have hrv : (Sum.inr _ : Option qV ⊕ (Nat × qL × List qV)) = Sum.inl rv := hrv
                  cases hrv
                case c0 =>
                  have hq : (Sum.inr _ : Option qV ⊕ (Nat × qL × List qV)) = Sum.inr q := hq
                  cases hq
                  have lj := (hL.n (i := 53) (d := 1) List.mem_cons_self xj)
                  exact ih ρ1 (j + 1) (by rw [ht1, List.take_append_of_le_length (by omega)]; exact ht) (by rw [lj]; exact congrArg some (by omega)) (by omega) (fun i hi => by
                    rcases Nat.lt_or_ge i j with z | z
                    · exact hok i z
                    · have e : i = j := by omega
                      rw [e]
                      exact Or.inr (Or.inr (Or.inl ⟨c3, c4⟩)))
              · skip
                refine qy_TP.pre (ρ' := ρ ++ xs) (g' := zUT_u0s_dp3ga.1) (w' := zUT_u0s_dp3ga.2.1) (lo' := zUT_u0s_dp3ga.2.2.1) (st' := zUT_u0s_dp3ga.2.2.2) ?_ (hwC3 hc) (fun h => h.to xs [(53, 0, 29), (54, -2147483648, 2147483647), (55, 0, 2147483647), (56, -2147483648, 2147483647), (57, -2147483648, 0), (58, -2147483648, 2147483647)] [((.ofNat 1), 22, (.negSucc 0), 53, (.ofNat 1)), ((.ofNat 1), 45, (.negSucc 0), 54, (.ofNat 0)), ((.ofNat 1), 55, (.negSucc 0), 45, (.ofNat 1)), ((.ofNat 1), 58, (.negSucc 0), 56, (.ofNat 0))] (by decide +kernel) (by rw [hlx]; rfl) (by decide +kernel) (fa_ex xj (by omega) (by omega) (fa_ex xa (by have := q_i32bd (fc 34 j); omega) (by have := q_i32bd (fc 34 j); omega) (fa_ex xu (by have := q_i32bd (fc 35 j); omega) (by have := q_i32bd (fc 35 j); omega) (fa_ex xm (by have := q_i32bd (fc 32 j); omega) (by have := q_i32bd (fc 32 j); omega) (fa_ex xi (by have := q_i32bd (fc 33 j); omega) (by have := q_i32bd (fc 33 j); omega) (fa_ex xh (by have := q_i32bd (fc 30 (5 * v + (fc 31 j).toInt).toNat); omega) (by have := q_i32bd (fc 30 (5 * v + (fc 31 j).toInt).toNat); omega) fa_nil)))))) (fa_cons ⟨_, _, xs_, xj, by show (1 : Int) ≤ 1 * se + (-1) * (j : Int); omega⟩ (fa_cons ⟨_, _, xk, xa, by show (0 : Int) ≤ 1 * k + (-1) * (fc 34 j).toInt; omega⟩ (fa_cons ⟨_, _, xu, xk, by show (1 : Int) ≤ 1 * (fc 35 j).toInt + (-1) * k; omega⟩ (fa_cons ⟨_, _, xh, xm, by show (0 : Int) ≤ 1 * (fc 30 (5 * v + (fc 31 j).toInt).toNat).toInt + (-1) * (fc 32 j).toInt; omega⟩ fa_nil))))) (fun _ _ h => h.mono he) (fun _ h => h.mono he)
                refine qs_lnkB (p := 53) (ρ := ρ ++ xs) fa_nil hT hA zUg_u0dp3ga (fa_cons (fun ρ1 ht1 hL hg1 _ => ⟨fun rv hrv => ?r0, fun q hq => ?c0⟩) fa_nil)
                case r0 =>
                  have hl1 : ρ1.length = 53 := hg1.len rfl
                  refine ⟨rfl, ?_, Or.inr ⟨rfl, fun hF => ?_⟩⟩
                  · rw [List.take_append_of_le_length (by omega), ht] at ht1
                    rw [← ht1, List.take_of_length_le (by omega)]
                  · have hj2 := hF j (by omega)
                    unfold hs_ok at hj2
                    omega
                case c0 =>
                  have hq : (Sum.inl _ : Option qV ⊕ (Nat × qL × List qV)) = Sum.inr q := hq
                  cases hq
              · skip
                refine qy_TP.pre (ρ' := ρ ++ xs) (g' := zUT_u0s_dp3gb.1) (w' := zUT_u0s_dp3gb.2.1) (lo' := zUT_u0s_dp3gb.2.2.1) (st' := zUT_u0s_dp3gb.2.2.2) ?_ (hwC3 hc) (fun h => h.to xs [(53, 0, 29), (54, -2147483648, 2147483647), (55, 0, 2147483647), (56, -2147483648, 2147483647), (57, 2, 2147483647), (58, -2147483648, 2147483647)] [((.ofNat 1), 22, (.negSucc 0), 53, (.ofNat 1)), ((.ofNat 1), 45, (.negSucc 0), 54, (.ofNat 0)), ((.ofNat 1), 55, (.negSucc 0), 45, (.ofNat 1)), ((.ofNat 1), 58, (.negSucc 0), 56, (.ofNat 0))] (by decide +kernel) (by rw [hlx]; rfl) (by decide +kernel) (fa_ex xj (by omega) (by omega) (fa_ex xa (by have := q_i32bd (fc 34 j); omega) (by have := q_i32bd (fc 34 j); omega) (fa_ex xu (by have := q_i32bd (fc 35 j); omega) (by have := q_i32bd (fc 35 j); omega) (fa_ex xm (by have := q_i32bd (fc 32 j); omega) (by have := q_i32bd (fc 32 j); omega) (fa_ex xi (by have := q_i32bd (fc 33 j); omega) (by have := q_i32bd (fc 33 j); omega) (fa_ex xh (by have := q_i32bd (fc 30 (5 * v + (fc 31 j).toInt).toNat); omega) (by have := q_i32bd (fc 30 (5 * v + (fc 31 j).toInt).toNat); omega) fa_nil)))))) (fa_cons ⟨_, _, xs_, xj, by show (1 : Int) ≤ 1 * se + (-1) * (j : Int); omega⟩ (fa_cons ⟨_, _, xk, xa, by show (0 : Int) ≤ 1 * k + (-1) * (fc 34 j).toInt; omega⟩ (fa_cons ⟨_, _, xu, xk, by show (1 : Int) ≤ 1 * (fc 35 j).toInt + (-1) * k; omega⟩ (fa_cons ⟨_, _, xh, xm, by show (0 : Int) ≤ 1 * (fc 30 (5 * v + (fc 31 j).toInt).toNat).toInt + (-1) * (fc 32 j).toInt; omega⟩ fa_nil))))) (fun _ _ h => h.mono he) (fun _ h => h.mono he)
                refine qs_lnkB (p := 53) (ρ := ρ ++ xs) fa_nil hT hA zUg_u0dp3gb (fa_cons (fun ρ1 ht1 hL hg1 _ => ⟨fun rv hrv => ?r0, fun q hq => ?c0⟩) fa_nil)
                case r0 =>
                  have hl1 : ρ1.length = 53 := hg1.len rfl
                  refine ⟨rfl, ?_, Or.inr ⟨rfl, fun hF => ?_⟩⟩
                  · rw [List.take_append_of_le_length (by omega), ht] at ht1
                    rw [← ht1, List.take_of_length_le (by omega)]
                  · have hj2 := hF j (by omega)
                    unfold hs_ok at hj2
                    omega
                case c0 =>
                  have hq : (Sum.inl _ : Option qV ⊕ (Nat × qL × List qV)) = Sum.inr q := hq
                  cases hq
          · rcases Int.lt_or_le (fc 30 (5 * v + (fc 31 j).toInt).toNat).toInt (fc 32 j).toInt with c3 | c3
            · have c5 : (fc 33 j).toInt = 0 ∨ (fc 33 j).toInt ≤ -1 ∨ 1 ≤ (fc 33 j).toInt := by omega
              rcases c5 with c4 | c4 | c4
              · skip
                refine qy_TP.pre (ρ' := ρ ++ xs) (g' := zUT_u0s_dp4le.1) (w' := zUT_u0s_dp4le.2.1) (lo' := zUT_u0s_dp4le.2.2.1) (st' := zUT_u0s_dp4le.2.2.2) ?_ (hwC4 hc) (fun h => h.to xs [(53, 0, 29), (54, -2147483648, 2147483647), (55, 0, 2147483647), (56, -2147483648, 2147483647), (57, 0, 0), (58, -2147483648, 2147483647)] [((.ofNat 1), 22, (.negSucc 0), 53, (.ofNat 1)), ((.ofNat 1), 45, (.negSucc 0), 54, (.ofNat 0)), ((.ofNat 1), 55, (.negSucc 0), 45, (.ofNat 1)), ((.ofNat 1), 56, (.negSucc 0), 58, (.ofNat 1))] (by decide +kernel) (by rw [hlx]; rfl) (by decide +kernel) (fa_ex xj (by omega) (by omega) (fa_ex xa (by have := q_i32bd (fc 34 j); omega) (by have := q_i32bd (fc 34 j); omega) (fa_ex xu (by have := q_i32bd (fc 35 j); omega) (by have := q_i32bd (fc 35 j); omega) (fa_ex xm (by have := q_i32bd (fc 32 j); omega) (by have := q_i32bd (fc 32 j); omega) (fa_ex xi (by have := q_i32bd (fc 33 j); omega) (by have := q_i32bd (fc 33 j); omega) (fa_ex xh (by have := q_i32bd (fc 30 (5 * v + (fc 31 j).toInt).toNat); omega) (by have := q_i32bd (fc 30 (5 * v + (fc 31 j).toInt).toNat); omega) fa_nil)))))) (fa_cons ⟨_, _, xs_, xj, by show (1 : Int) ≤ 1 * se + (-1) * (j : Int); omega⟩ (fa_cons ⟨_, _, xk, xa, by show (0 : Int) ≤ 1 * k + (-1) * (fc 34 j).toInt; omega⟩ (fa_cons ⟨_, _, xu, xk, by show (1 : Int) ≤ 1 * (fc 35 j).toInt + (-1) * k; omega⟩ (fa_cons ⟨_, _, xm, xh, by show (1 : Int) ≤ 1 * (fc 32 j).toInt + (-1) * (fc 30 (5 * v + (fc 31 j).toInt).toNat).toInt; omega⟩ fa_nil))))) (fun _ _ h => h.mono he) (fun _ h => h.mono he)
                refine qs_lnkB (p := 53) (ρ := ρ ++ xs) fa_nil hT hA zUg_u0dp4le (fa_cons (fun ρ1 ht1 hL hg1 _ => ⟨fun rv hrv => ?r0, fun q hq => ?c0⟩) fa_nil)
                case r0 =>
                  have hrv : (Sum.inr _ : Option qV ⊕ (Nat × qL × List qV)) = Sum.inl rv := hrv
                  cases hrv
                case c0 =>
                  have hq : (Sum.inr _ : Option qV ⊕ (Nat × qL × List qV)) = Sum.inr q := hq
                  cases hq
                  have lj := (hL.n (i := 53) (d := 1) List.mem_cons_self xj)
                  exact ih ρ1 (j + 1) (by rw [ht1, List.take_append_of_le_length (by omega)]; exact ht) (by rw [lj]; exact congrArg some (by omega)) (by omega) (fun i hi => by
                    rcases Nat.lt_or_ge i j with z | z
                    · exact hok i z
                    · have e : i = j := by omega
                      rw [e]
                      exact Or.inr (Or.inr (Or.inr ⟨c3, c4⟩)))
              · skip
                refine qy_TP.pre (ρ' := ρ ++ xs) (g' := zUT_u0s_dp4la.1) (w' := zUT_u0s_dp4la.2.1) (lo' := zUT_u0s_dp4la.2.2.1) (st' := zUT_u0s_dp4la.2.2.2) ?_ (hwC4 hc) (fun h => h.to xs [(53, 0, 29), (54, -2147483648, 2147483647), (55, 0, 2147483647), (56, -2147483648, 2147483647), (57, -2147483648, -1), (58, -2147483648, 2147483647)] [((.ofNat 1), 22, (.negSucc 0), 53, (.ofNat 1)), ((.ofNat 1), 45, (.negSucc 0), 54, (.ofNat 0)), ((.ofNat 1), 55, (.negSucc 0), 45, (.ofNat 1)), ((.ofNat 1), 56, (.negSucc 0), 58, (.ofNat 1))] (by decide +kernel) (by rw [hlx]; rfl) (by decide +kernel) (fa_ex xj (by omega) (by omega) (fa_ex xa (by have := q_i32bd (fc 34 j); omega) (by have := q_i32bd (fc 34 j); omega) (fa_ex xu (by have := q_i32bd (fc 35 j); omega) (by have := q_i32bd (fc 35 j); omega) (fa_ex xm (by have := q_i32bd (fc 32 j); omega) (by have := q_i32bd (fc 32 j); omega) (fa_ex xi (by have := q_i32bd (fc 33 j); omega) (by have := q_i32bd (fc 33 j); omega) (fa_ex xh (by have := q_i32bd (fc 30 (5 * v + (fc 31 j).toInt).toNat); omega) (by have := q_i32bd (fc 30 (5 * v + (fc 31 j).toInt).toNat); omega) fa_nil)))))) (fa_cons ⟨_, _, xs_, xj, by show (1 : Int) ≤ 1 * se + (-1) * (j : Int); omega⟩ (fa_cons ⟨_, _, xk, xa, by show (0 : Int) ≤ 1 * k + (-1) * (fc 34 j).toInt; omega⟩ (fa_cons ⟨_, _, xu, xk, by show (1 : Int) ≤ 1 * (fc 35 j).toInt + (-1) * k; omega⟩ (fa_cons ⟨_, _, xm, xh, by show (1 : Int) ≤ 1 * (fc 32 j).toInt + (-1) * (fc 30 (5 * v + (fc 31 j).toInt).toNat).toInt; omega⟩ fa_nil))))) (fun _ _ h => h.mono he) (fun _ h => h.mono he)
                refine qs_lnkB (p := 53) (ρ := ρ ++ xs) fa_nil hT hA zUg_u0dp4la (fa_cons (fun ρ1 ht1 hL hg1 _ => ⟨fun rv hrv => ?r0, fun q hq => ?c0⟩) fa_nil)
                case r0 =>
                  have hl1 : ρ1.length = 53 := hg1.len rfl
                  refine ⟨rfl, ?_, Or.inr ⟨rfl, fun hF => ?_⟩⟩
                  · rw [List.take_append_of_le_length (by omega), ht] at ht1
                    rw [← ht1, List.take_of_length_le (by omega)]
                  · have hj2 := hF j (by omega)
                    unfold hs_ok at hj2
                    omega
                case c0 =>
                  have hq : (Sum.inl _ : Option qV ⊕ (Nat × qL × List qV)) = Sum.inr q := hq
                  cases hq
              · skip
                refine qy_TP.pre (ρ' := ρ ++ xs) (g' := zUT_u0s_dp4lb.1) (w' := zUT_u0s_dp4lb.2.1) (lo' := zUT_u0s_dp4lb.2.2.1) (st' := zUT_u0s_dp4lb.2.2.2) ?_ (hwC4 hc) (fun h => h.to xs [(53, 0, 29), (54, -2147483648, 2147483647), (55, 0, 2147483647), (56, -2147483648, 2147483647), (57, 1, 2147483647), (58, -2147483648, 2147483647)] [((.ofNat 1), 22, (.negSucc 0), 53, (.ofNat 1)), ((.ofNat 1), 45, (.negSucc 0), 54, (.ofNat 0)), ((.ofNat 1), 55, (.negSucc 0), 45, (.ofNat 1)), ((.ofNat 1), 56, (.negSucc 0), 58, (.ofNat 1))] (by decide +kernel) (by rw [hlx]; rfl) (by decide +kernel) (fa_ex xj (by omega) (by omega) (fa_ex xa (by have := q_i32bd (fc 34 j); omega) (by have := q_i32bd (fc 34 j); omega) (fa_ex xu (by have := q_i32bd (fc 35 j); omega) (by have := q_i32bd (fc 35 j); omega) (fa_ex xm (by have := q_i32bd (fc 32 j); omega) (by have := q_i32bd (fc 32 j); omega) (fa_ex xi (by have := q_i32bd (fc 33 j); omega) (by have := q_i32bd (fc 33 j); omega) (fa_ex xh (by have := q_i32bd (fc 30 (5 * v + (fc 31 j).toInt).toNat); omega) (by have := q_i32bd (fc 30 (5 * v + (fc 31 j).toInt).toNat); omega) fa_nil)))))) (fa_cons ⟨_, _, xs_, xj, by show (1 : Int) ≤ 1 * se + (-1) * (j : Int); omega⟩ (fa_cons ⟨_, _, xk, xa, by show (0 : Int) ≤ 1 * k + (-1) * (fc 34 j).toInt; omega⟩ (fa_cons ⟨_, _, xu, xk, by show (1 : Int) ≤ 1 * (fc 35 j).toInt + (-1) * k; omega⟩ (fa_cons ⟨_, _, xm, xh, by show (1 : Int) ≤ 1 * (fc 32 j).toInt + (-1) * (fc 30 (5 * v + (fc 31 j).toInt).toNat).toInt; omega⟩ fa_nil))))) (fun _ _ h => h.mono he) (fun _ h => h.mono he)
                refine qs_lnkB (p := 53) (ρ := ρ ++ xs) fa_nil hT hA zUg_u0dp4lb (fa_cons (fun ρ1 ht1 hL hg1 _ => ⟨fun rv hrv => ?r0, fun q hq => ?c0⟩) fa_nil)
                case r0 =>
                  have hl1 : ρ1.length = 53 := hg1.len rfl
                  refine ⟨rfl, ?_, Or.inr ⟨rfl, fun hF => ?_⟩⟩
                  · rw [List.take_append_of_le_length (by omega), ht] at ht1
                    rw [← ht1, List.take_of_length_le (by omega)]
                  · have hj2 := hF j (by omega)
                    unfold hs_ok at hj2
                    omega
                case c0 =>
                  have hq : (Sum.inl _ : Option qV ⊕ (Nat × qL × List qV)) = Sum.inr q := hq
                  cases hq
            · have c5 : (fc 33 j).toInt = 1 ∨ (fc 33 j).toInt ≤ 0 ∨ 2 ≤ (fc 33 j).toInt := by omega
              rcases c5 with c4 | c4 | c4
              · skip
                refine qy_TP.pre (ρ' := ρ ++ xs) (g' := zUT_u0s_dp4ge.1) (w' := zUT_u0s_dp4ge.2.1) (lo' := zUT_u0s_dp4ge.2.2.1) (st' := zUT_u0s_dp4ge.2.2.2) ?_ (hwC4 hc) (fun h => h.to xs [(53, 0, 29), (54, -2147483648, 2147483647), (55, 0, 2147483647), (56, -2147483648, 2147483647), (57, 1, 1), (58, -2147483648, 2147483647)] [((.ofNat 1), 22, (.negSucc 0), 53, (.ofNat 1)), ((.ofNat 1), 45, (.negSucc 0), 54, (.ofNat 0)), ((.ofNat 1), 55, (.negSucc 0), 45, (.ofNat 1)), ((.ofNat 1), 58, (.negSucc 0), 56, (.ofNat 0))] (by decide +kernel) (by rw [hlx]; rfl) (by decide +kernel) (fa_ex xj (by omega) (by omega) (fa_ex xa (by have := q_i32bd (fc 34 j); omega) (by have := q_i32bd (fc 34 j); omega) (fa_ex xu (by have := q_i32bd (fc 35 j); omega) (by have := q_i32bd (fc 35 j); omega) (fa_ex xm (by have := q_i32bd (fc 32 j); omega) (by have := q_i32bd (fc 32 j); omega) (fa_ex xi (by have := q_i32bd (fc 33 j); omega) (by have := q_i32bd (fc 33 j); omega) (fa_ex xh (by have := q_i32bd (fc 30 (5 * v + (fc 31 j).toInt).toNat); omega) (by have := q_i32bd (fc 30 (5 * v + (fc 31 j).toInt).toNat); omega) fa_nil)))))) (fa_cons ⟨_, _, xs_, xj, by show (1 : Int) ≤ 1 * se + (-1) * (j : Int); omega⟩ (fa_cons ⟨_, _, xk, xa, by show (0 : Int) ≤ 1 * k + (-1) * (fc 34 j).toInt; omega⟩ (fa_cons ⟨_, _, xu, xk, by show (1 : Int) ≤ 1 * (fc 35 j).toInt + (-1) * k; omega⟩ (fa_cons ⟨_, _, xh, xm, by show (0 : Int) ≤ 1 * (fc 30 (5 * v + (fc 31 j).toInt).toNat).toInt + (-1) * (fc 32 j).toInt; omega⟩ fa_nil))))) (fun _ _ h => h.mono he) (fun _ h => h.mono he)
                refine qs_lnkB (p := 53) (ρ := ρ ++ xs) fa_nil hT hA zUg_u0dp4ge (fa_cons (fun ρ1 ht1 hL hg1 _ => ⟨fun rv hrv => ?r0, fun q hq => ?c0⟩) fa_nil)
                case r0 =>
                  have hrv : (Sum.inr _ : Option qV ⊕ (Nat × qL × List qV)) = Sum.inl rv := hrv
                  cases hrv
                case c0 =>
                  have hq : (Sum.inr _ : Option qV ⊕ (Nat × qL × List qV)) = Sum.inr q := hq
                  cases hq
                  have lj := (hL.n (i := 53) (d := 1) List.mem_cons_self xj)
                  exact ih ρ1 (j + 1) (by rw [ht1, List.take_append_of_le_length (by omega)]; exact ht) (by rw [lj]; exact congrArg some (by omega)) (by omega) (fun i hi => by
                    rcases Nat.lt_or_ge i j with z | z
                    · exact hok i z
                    · have e : i = j := by omega
                      rw [e]
                      exact Or.inr (Or.inr (Or.inl ⟨c3, c4⟩)))
              · skip
                refine qy_TP.pre (ρ' := ρ ++ xs) (g' := zUT_u0s_dp4ga.1) (w' := zUT_u0s_dp4ga.2.1) (lo' := zUT_u0s_dp4ga.2.2.1) (st' := zUT_u0s_dp4ga.2.2.2) ?_ (hwC4 hc) (fun h => h.to xs [(53, 0, 29), (54, -2147483648, 2147483647), (55, 0, 2147483647), (56, -2147483648, 2147483647), (57, -2147483648, 0), (58, -2147483648, 2147483647)] [((.ofNat 1), 22, (.negSucc 0), 53, (.ofNat 1)), ((.ofNat 1), 45, (.negSucc 0), 54, (.ofNat 0)), ((.ofNat 1), 55, (.negSucc 0), 45, (.ofNat 1)), ((.ofNat 1), 58, (.negSucc 0), 56, (.ofNat 0))] (by decide +kernel) (by rw [hlx]; rfl) (by decide +kernel) (fa_ex xj (by omega) (by omega) (fa_ex xa (by have := q_i32bd (fc 34 j); omega) (by have := q_i32bd (fc 34 j); omega) (fa_ex xu (by have := q_i32bd (fc 35 j); omega) (by have := q_i32bd (fc 35 j); omega) (fa_ex xm (by have := q_i32bd (fc 32 j); omega) (by have := q_i32bd (fc 32 j); omega) (fa_ex xi (by have := q_i32bd (fc 33 j); omega) (by have := q_i32bd (fc 33 j); omega) (fa_ex xh (by have := q_i32bd (fc 30 (5 * v + (fc 31 j).toInt).toNat); omega) (by have := q_i32bd (fc 30 (5 * v + (fc 31 j).toInt).toNat); omega) fa_nil)))))) (fa_cons ⟨_, _, xs_, xj, by show (1 : Int) ≤ 1 * se + (-1) * (j : Int); omega⟩ (fa_cons ⟨_, _, xk, xa, by show (0 : Int) ≤ 1 * k + (-1) * (fc 34 j).toInt; omega⟩ (fa_cons ⟨_, _, xu, xk, by show (1 : Int) ≤ 1 * (fc 35 j).toInt + (-1) * k; omega⟩ (fa_cons ⟨_, _, xh, xm, by show (0 : Int) ≤ 1 * (fc 30 (5 * v + (fc 31 j).toInt).toNat).toInt + (-1) * (fc 32 j).toInt; omega⟩ fa_nil))))) (fun _ _ h => h.mono he) (fun _ h => h.mono he)
                refine qs_lnkB (p := 53) (ρ := ρ ++ xs) fa_nil hT hA zUg_u0dp4ga (fa_cons (fun ρ1 ht1 hL hg1 _ => ⟨fun rv hrv => ?r0, fun q hq => ?c0⟩) fa_nil)
                case r0 =>
                  have hl1 : ρ1.length = 53 := hg1.len rfl
                  refine ⟨rfl, ?_, Or.inr ⟨rfl, fun hF => ?_⟩⟩
                  · rw [List.take_append_of_le_length (by omega), ht] at ht1
                    rw [← ht1, List.take_of_length_le (by omega)]
                  · have hj2 := hF j (by omega)
                    unfold hs_ok at hj2
                    omega
                case c0 =>
                  have hq : (Sum.inl _ : Option qV ⊕ (Nat × qL × List qV)) = Sum.inr q := hq
                  cases hq
              · skip
                refine qy_TP.pre (ρ' := ρ ++ xs) (g' := zUT_u0s_dp4gb.1) (w' := zUT_u0s_dp4gb.2.1) (lo' := zUT_u0s_dp4gb.2.2.1) (st' := zUT_u0s_dp4gb.2.2.2) ?_ (hwC4 hc) (fun h => h.to xs [(53, 0, 29), (54, -2147483648, 2147483647), (55, 0, 2147483647), (56, -2147483648, 2147483647), (57, 2, 2147483647), (58, -2147483648, 2147483647)] [((.ofNat 1), 22, (.negSucc 0), 53, (.ofNat 1)), ((.ofNat 1), 45, (.negSucc 0), 54, (.ofNat 0)), ((.ofNat 1), 55, (.negSucc 0), 45, (.ofNat 1)), ((.ofNat 1), 58, (.negSucc 0), 56, (.ofNat 0))] (by decide +kernel) (by rw [hlx]; rfl) (by decide +kernel) (fa_ex xj (by omega) (by omega) (fa_ex xa (by have := q_i32bd (fc 34 j); omega) (by have := q_i32bd (fc 34 j); omega) (fa_ex xu (by have := q_i32bd (fc 35 j); omega) (by have := q_i32bd (fc 35 j); omega) (fa_ex xm (by have := q_i32bd (fc 32 j); omega) (by have := q_i32bd (fc 32 j); omega) (fa_ex xi (by have := q_i32bd (fc 33 j); omega) (by have := q_i32bd (fc 33 j); omega) (fa_ex xh (by have := q_i32bd (fc 30 (5 * v + (fc 31 j).toInt).toNat); omega) (by have := q_i32bd (fc 30 (5 * v + (fc 31 j).toInt).toNat); omega) fa_nil)))))) (fa_cons ⟨_, _, xs_, xj, by show (1 : Int) ≤ 1 * se + (-1) * (j : Int); omega⟩ (fa_cons ⟨_, _, xk, xa, by show (0 : Int) ≤ 1 * k + (-1) * (fc 34 j).toInt; omega⟩ (fa_cons ⟨_, _, xu, xk, by show (1 : Int) ≤ 1 * (fc 35 j).toInt + (-1) * k; omega⟩ (fa_cons ⟨_, _, xh, xm, by show (0 : Int) ≤ 1 * (fc 30 (5 * v + (fc 31 j).toInt).toNat).toInt + (-1) * (fc 32 j).toInt; omega⟩ fa_nil))))) (fun _ _ h => h.mono he) (fun _ h => h.mono he)
                refine qs_lnkB (p := 53) (ρ := ρ ++ xs) fa_nil hT hA zUg_u0dp4gb (fa_cons (fun ρ1 ht1 hL hg1 _ => ⟨fun rv hrv => ?r0, fun q hq => ?c0⟩) fa_nil)
                case r0 =>
                  have hl1 : ρ1.length = 53 := hg1.len rfl
                  refine ⟨rfl, ?_, Or.inr ⟨rfl, fun hF => ?_⟩⟩
                  · rw [List.take_append_of_le_length (by omega), ht] at ht1
                    rw [← ht1, List.take_of_length_le (by omega)]
                  · have hj2 := hF j (by omega)
                    unfold hs_ok at hj2
                    omega
                case c0 =>
                  have hq : (Sum.inl _ : Option qV ⊕ (Nat × qL × List qV)) = Sum.inr q := hq
                  cases hq
        · skip
          refine qy_TP.pre (ρ' := ρ ++ xs) (g' := zUT_u0s_dB.1) (w' := zUT_u0s_dB.2.1) (lo' := zUT_u0s_dB.2.2.1) (st' := zUT_u0s_dB.2.2.2) ?_ hwA (fun h => h.to xs [(53, 0, 29), (54, -2147483648, 2147483647), (55, 0, 2147483647), (56, -2147483648, 2147483647), (57, -2147483648, 2147483647), (58, -2147483648, 2147483647)] [((.ofNat 1), 22, (.negSucc 0), 53, (.ofNat 1)), ((.ofNat 1), 45, (.negSucc 0), 54, (.ofNat 0)), ((.ofNat 1), 45, (.negSucc 0), 55, (.ofNat 0))] (by decide +kernel) (by rw [hlx]; rfl) (by decide +kernel) (fa_ex xj (by omega) (by omega) (fa_ex xa (by have := q_i32bd (fc 34 j); omega) (by have := q_i32bd (fc 34 j); omega) (fa_ex xu (by have := q_i32bd (fc 35 j); omega) (by have := q_i32bd (fc 35 j); omega) (fa_ex xm (by have := q_i32bd (fc 32 j); omega) (by have := q_i32bd (fc 32 j); omega) (fa_ex xi (by have := q_i32bd (fc 33 j); omega) (by have := q_i32bd (fc 33 j); omega) (fa_ex xh (by have := q_i32bd (fc 30 (5 * v + (fc 31 j).toInt).toNat); omega) (by have := q_i32bd (fc 30 (5 * v + (fc 31 j).toInt).toNat); omega) fa_nil)))))) (fa_cons ⟨_, _, xs_, xj, by show (1 : Int) ≤ 1 * se + (-1) * (j : Int); omega⟩ (fa_cons ⟨_, _, xk, xa, by show (0 : Int) ≤ 1 * k + (-1) * (fc 34 j).toInt; omega⟩ (fa_cons ⟨_, _, xk, xu, by show (0 : Int) ≤ 1 * k + (-1) * (fc 35 j).toInt; omega⟩ fa_nil)))) (fun _ _ h => h.mono he) (fun _ h => h.mono he)
          refine qs_lnkB (p := 53) (ρ := ρ ++ xs) fa_nil hT hA zUg_u0dB (fa_cons (fun ρ1 ht1 hL hg1 _ => ⟨fun rv hrv => ?r0, fun q hq => ?c0⟩) fa_nil)
          case r0 =>
            have hrv : (Sum.inr _ : Option qV ⊕ (Nat × qL × List qV)) = Sum.inl rv := hrv
            cases hrv
          case c0 =>
            have hq : (Sum.inr _ : Option qV ⊕ (Nat × qL × List qV)) = Sum.inr q := hq
            cases hq
            have lj := (hL.n (i := 53) (d := 1) List.mem_cons_self xj)
            exact ih ρ1 (j + 1) (by rw [ht1, List.take_append_of_le_length (by omega)]; exact ht) (by rw [lj]; exact congrArg some (by omega)) (by omega) (fun i hi => by
              rcases Nat.lt_or_ge i j with z | z
              · exact hok i z
              · have e : i = j := by omega
                rw [e]
                exact Or.inr (Or.inl ⟨c2, c6⟩))
theorem zUdf0 (hT : zk_t) (hA : zk_a) {fc : Nat → Nat → Int32} (hR : hs_R fc) {ρ0 : List Int} {k se v : Int} (hk : ρ0[45]? = some k) (hse : ρ0[22]? = some se) (hv : ρ0[52]? = some v) : qy_TP ex D as tys 10 201 fc ρ0 zUT_u0s_d0.1 zUT_u0s_d0.2.1 zUT_u0s_d0.2.2.1 zUT_u0s_d0.2.2.2 0 (zUDP0 fc ρ0 k se v) := by
  refine qy_TP.intro fun _ hg => ?_
  have hl : ρ0.length = 53 := hg.len rfl
  have s1 : (0 : Int) ≤ se ∧ se ≤ 30 := hg.rng (i := 22) (r := (0, 30)) rfl hse
  have v1 : (0 : Int) ≤ v ∧ v ≤ 30 := hg.rng (i := 52) (r := (0, 30)) rfl hv
  refine qs_lnkB (p := 53) (ρ := ρ0) fa_nil hT hA zUg_u0d0 (fa_cons (fun ρ1 ht1 hL hg1 _ => ⟨fun rv hrv => ?r0, fun q hq => ?c0⟩) fa_nil)
  case r0 =>
    have hrv : (Sum.inr _ : Option qV ⊕ (Nat × qL × List qV)) = Sum.inl rv := hrv
    cases hrv
  case c0 =>
    have hq : (Sum.inr _ : Option qV ⊕ (Nat × qL × List qV)) = Sum.inr q := hq
    cases hq
    have lj := (hL.l (i := 53) (z := 0) List.mem_cons_self)
    exact zUd0 hT hA hR hl hk hse hv s1.2 v1.1 v1.2 se.toNat ρ1 0 (by rw [ht1]; exact List.take_of_length_le (by omega)) lj (by omega) (fun i hi => absurd hi (Nat.not_lt_zero i))
def zUFP0 (fc : Nat → Nat → Int32) (ρ : List Int) (k se : Int) : qP := fun fc' ρ' o => qe ρ ρ' ∧ ((o = (zUT_u0R0.1, zUT_u0R0.2.1, .inl (some (.inl 0))) ∧ fc' = fc ∧ ρ' = ρ) ∨ (o = (zUT_u0FR.1, zUT_u0FR.2.1, .inl (some (qa 51))) ∧ (∀ κ, κ < 30 → fc' κ = fc κ) ∧ hs_R fc' ∧ ∃ n : Int, ρ'[51]? = some n ∧ (n ≠ 0 → ∃ v, 0 ≤ v ∧ v ≤ 30 ∧ hs_F fc' k se v)))
theorem zUfl0 (hT : zk_t) (hA : zk_a) {fc0 fc : Nat → Nat → Int32} (hfc : ∀ κ, κ < 30 → fc κ = fc0 κ) (hR : hs_R fc) {ρ0 ρb : List Int} (hb : ρb.take 46 = ρ0) {k se : Int} (hk : ρb[45]? = some k) (hse : ρb[22]? = some se) (hlb : ρb.length = 51) : ∀ (m : Nat) (ρ : List Int) (n v : Int), ρ.take 51 = ρb → ρ[51]? = some n → ρ[52]? = some v → 0 ≤ n → n ≤ v → v ≤ 31 → (n ≠ 0 → ∃ v', 0 ≤ v' ∧ v' ≤ 30 ∧ hs_F fc k se v') → 31 - v < (m : Int) → qy_TP ex D as tys 11 211 fc ρ zUT_u0s_f1.1 zUT_u0s_f1.2.1 zUT_u0s_f1.2.2.1 zUT_u0s_f1.2.2.2 17 (zUFP0 fc0 ρ0 k se) := by
  intro m
  induction m with
  | zero => intro ρ n v _ _ _ _ _ h1 _ h2; exfalso; omega
  | succ m ih =>
    intro ρ n v ht hn hv h0 h1 h2 h3 h4
    refine qs_lnkB (p := 53) (ρ := ρ) fa_nil hT hA zUg_u0f1 (fa_cons (fun ρ1 ht1 hL hg1 _ => ⟨fun rv hrv => ?r0, fun q hq => ?c0⟩) (fa_cons (fun ρ1 ht1 hL hg1 _ => ⟨fun rv hrv => ?r1, fun q hq => ?c1⟩) fa_nil))
    case r0 =>
      have hrv : (Sum.inr _ : Option qV ⊕ (Nat × qL × List qV)) = Sum.inl rv := hrv
      cases hrv
    case c0 =>
      have hq : (Sum.inr _ : Option qV ⊕ (Nat × qL × List qV)) = Sum.inr q := hq
      cases hq
      have hq1 : ρ1.take 51 = ρ.take 51 := by have := congrArg (List.take 51) ht1; rw [List.take_take, List.take_take] at this; exact this
      have hlr : ρ.length = 53 ∨ True := Or.inr trivial
      have hl1 : ρ1.length = 53 := hg1.len rfl
      have n1 : ρ1[51]? = some n := q_tk0 ht1 (by decide) hn
      have v1 : ρ1[52]? = some v := q_tk0 ht1 (by decide) hv
      have ht2 : ρ1.take 51 = ρb := by rw [hq1]; exact ht
      have v2 : (0 : Int) ≤ v ∧ v ≤ 30 := hg1.rng (i := 52) (r := (0, 30)) rfl v1
      obtain ⟨hM, hcls, hrun⟩ := qs_vc (ex := ex) hT hA (k := 211) (pc := 27) rfl
      refine qy_TP.call (d := 10) (cs := [qa 45, qa 52, (.inr (.inr (.inl (some 0))))]) (st := [qa 51]) (av := [(0, (.inr (.inr (.inl (some 0))))), (1, qa 52), (2, qa 45)]) hM hcls hrun rfl rfl (by decide) (by decide +kernel) (Or.inr (Or.inr ⟨by decide, 0, 0, _, _, rfl, rfl⟩)) (zUdf0 hT hA hR (q_tkb ht2 hk) (q_tkb ht2 hse) v1) (fun f r o ho => ⟨by rw [ho.2.1]; exact qe.rf, by rcases ho.2.2 with h | h; exact ⟨_, congrArg (fun x => x.2.2) h.1⟩; exact ⟨_, congrArg (fun x => x.2.2) h.1⟩⟩) ?_
      intro fc2 ρ2 o rv ho hrv _ hg2
      obtain ⟨e1, e2, ho⟩ := ho
      rw [e1, e2]
      rcases ho with ⟨ho, hF⟩ | ⟨ho, hF⟩
      · rw [ho] at hrv
        rw [ho]
        have hrv : (Sum.inl (some (.inl 1)) : Option qV ⊕ (Nat × qL × List qV)) = Sum.inl rv := hrv
        cases hrv
        refine qy_TP.pre (ρ' := ρ1) (g' := zUT_u0s_f2_1.1) (w' := zUT_u0s_f2_1.2.1) (lo' := zUT_u0s_f2_1.2.2.1) (st' := zUT_u0s_f2_1.2.2.2) ?_ (fun ws h => h) (fun h => h.to0 [(51, 0, 30)] [((.ofNat 1), 52, (.negSucc 0), 51, (.ofNat 0))] (by decide +kernel) rfl (by decide +kernel) (fa_ex n1 (by omega) (by omega) fa_nil) (fa_cons ⟨_, _, v1, n1, by show (0 : Int) ≤ 1 * v + (-1) * n; omega⟩ fa_nil)) (fun _ _ h => h) (fun _ h => h)
        refine qs_lnkB (p := 51) (ρ := ρ1) fa_nil hT hA zUg_u0f2_1 (fa_cons (fun ρ3 ht3 hL hg3 _ => ⟨fun rv hrv => ?r0, fun q hq => ?c0⟩) fa_nil)
        case r0 =>
          have hrv : (Sum.inr _ : Option qV ⊕ (Nat × qL × List qV)) = Sum.inl rv := hrv
          cases hrv
        case c0 =>
          have hq : (Sum.inr _ : Option qV ⊕ (Nat × qL × List qV)) = Sum.inr q := hq
          cases hq
          have ln := (hL.n (i := 51) (d := 1) List.mem_cons_self n1)
          have lv := (hL.n (i := 52) (d := 1) (List.mem_cons_of_mem _ List.mem_cons_self) v1)
          exact ih ρ3 (n + 1) (v + 1) (by rw [ht3]; exact ht2) (by rw [ln]) (by rw [lv]) (by omega) (by omega) (by omega) (fun _ => ⟨v, v2.1, v2.2, hF⟩) (by omega)
      · rw [ho] at hrv
        rw [ho]
        have hrv : (Sum.inl (some (.inl 0)) : Option qV ⊕ (Nat × qL × List qV)) = Sum.inl rv := hrv
        cases hrv
        refine qy_TP.pre (ρ' := ρ1) (g' := zUT_u0s_f2_0.1) (w' := zUT_u0s_f2_0.2.1) (lo' := zUT_u0s_f2_0.2.2.1) (st' := zUT_u0s_f2_0.2.2.2) ?_ (fun ws h => h) (fun h => h.to0 [(51, 0, 30)] [((.ofNat 1), 52, (.negSucc 0), 51, (.ofNat 0))] (by decide +kernel) rfl (by decide +kernel) (fa_ex n1 (by omega) (by omega) fa_nil) (fa_cons ⟨_, _, v1, n1, by show (0 : Int) ≤ 1 * v + (-1) * n; omega⟩ fa_nil)) (fun _ _ h => h) (fun _ h => h)
        refine qs_lnkB (p := 51) (ρ := ρ1) fa_nil hT hA zUg_u0f2_0 (fa_cons (fun ρ3 ht3 hL hg3 _ => ⟨fun rv hrv => ?r0, fun q hq => ?c0⟩) fa_nil)
        case r0 =>
          have hrv : (Sum.inr _ : Option qV ⊕ (Nat × qL × List qV)) = Sum.inl rv := hrv
          cases hrv
        case c0 =>
          have hq : (Sum.inr _ : Option qV ⊕ (Nat × qL × List qV)) = Sum.inr q := hq
          cases hq
          have ln := (hL.n (i := 51) (d := 0) List.mem_cons_self n1)
          have lv := (hL.n (i := 52) (d := 1) (List.mem_cons_of_mem _ List.mem_cons_self) v1)
          exact ih ρ3 (n + 0) (v + 1) (by rw [ht3]; exact ht2) (by rw [ln]) (by rw [lv]) (by omega) (by omega) (by omega) (fun hz => h3 (by omega)) (by omega)
    case r1 =>
      have n1 : ρ1[51]? = some n := q_tk0 ht1 (by decide) hn
      have hq1 : ρ1.take 51 = ρ.take 51 := by have := congrArg (List.take 51) ht1; rw [List.take_take, List.take_take] at this; exact this
      have ht2 : ρ1.take 46 = ρ0 := by rw [← hb, ← ht, ← hq1, List.take_take]; rfl
      exact ⟨⟨ρ1.drop 46, by rw [← ht2, List.take_append_drop]⟩, Or.inr ⟨rfl, hfc, hR, n, n1, h3⟩⟩
    case c1 =>
      have hq : (Sum.inl _ : Option qV ⊕ (Nat × qL × List qV)) = Sum.inr q := hq
      cases hq
theorem zUfits0 (hT : zk_t) (hA : zk_a) {fc : Nat → Nat → Int32} (hh : qy_V ex (qΓ1 fc) D as tys zUk2) {ρ : List Int} {k se : Int} (hk : ρ[45]? = some k) (hse : ρ[22]? = some se) : qy_TP ex D as tys 11 211 fc ρ zUT_u0s_f0.1 zUT_u0s_f0.2.1 zUT_u0s_f0.2.2.1 zUT_u0s_f0.2.2.2 0 (zUFP0 fc ρ k se) := by
  refine qy_TP.intro fun _ hg => ?_
  have hl : ρ.length = 46 := hg.len rfl
  refine qs_lnkB (p := 46) (ρ := ρ) (fa_cons (zUh5 ex (qΓ1 fc) D as tys hT hA hh) fa_nil) hT hA zUg_u0f0 (fa_cons (fun ρ1 ht1 hL hg1 _ => ⟨fun rv hrv => ?r0, fun q hq => ?c0⟩) (fa_cons (fun ρ1 ht1 hL hg1 _ => ⟨fun rv hrv => ?r1, fun q hq => ?c1⟩) fa_nil))
  case r0 =>
    have hrv : (Sum.inr _ : Option qV ⊕ (Nat × qL × List qV)) = Sum.inl rv := hrv
    cases hrv
  case c0 =>
    have hq : (Sum.inr _ : Option qV ⊕ (Nat × qL × List qV)) = Sum.inr q := hq
    cases hq
    have hq1 : qe ρ ρ1 := q_qe45 ht1 hl
    have hl1 : ρ1.length = 53 := hg1.len rfl
    have ln := (hL.l (i := 51) (z := 0) (List.mem_cons_of_mem _ List.mem_cons_self))
    have lv := (hL.l (i := 52) (z := 0) (List.mem_cons_of_mem _ (List.mem_cons_of_mem _ List.mem_cons_self)))
    refine qy_TP.some (w' := zUT_u0s_f1.2.1) fun ws h => ?_
    obtain ⟨f30, r30, h30⟩ := h.fz (c := 27) 30 rfl (by decide) (by decide +kernel)
    obtain ⟨f31, r31, h31⟩ := h30.fz (c := 28) 31 rfl (by decide) (by decide +kernel)
    obtain ⟨f32, r32, h32⟩ := h31.fz (c := 29) 32 rfl (by decide) (by decide +kernel)
    obtain ⟨f33, r33, h33⟩ := h32.fz (c := 30) 33 rfl (by decide) (by decide +kernel)
    obtain ⟨f34, r34, h34⟩ := h33.fz (c := 31) 34 rfl (by decide) (by decide +kernel)
    obtain ⟨f35, r35, h35⟩ := h34.fz (c := 32) 35 rfl (by decide) (by decide +kernel)
    refine ⟨_, h35, ?_⟩
    have hR6 : hs_R (q_fz (q_fz (q_fz (q_fz (q_fz (q_fz fc 30 f30) 31 f31) 32 f32) 33 f33) 34 f34) 35 f35) := ⟨r30, r31, r32, r33, r34, r35⟩
    have hz6 : ∀ κ, κ < 30 → (q_fz (q_fz (q_fz (q_fz (q_fz (q_fz fc 30 f30) 31 f31) 32 f32) 33 f33) 34 f34) 35 f35) κ = fc κ := fun κ hκ => by rw [q_fz_ne (by omega), q_fz_ne (by omega), q_fz_ne (by omega), q_fz_ne (by omega), q_fz_ne (by omega), q_fz_ne (by omega)]
    refine zUfl0 hT hA hz6 hR6 (ρ0 := ρ) (ρb := ρ1.take 51) (by rw [List.take_take]; rw [show min 46 51 = 46 from rfl, ht1]; exact List.take_of_length_le (by omega)) (k := k) (se := se) ?_ ?_ (by rw [List.length_take]; omega) 32 ρ1 0 0 rfl ln lv (by omega) (by omega) (by omega) (fun hz => absurd rfl hz) (by omega)
    · rw [List.getElem?_take, if_pos (by decide)]; exact hq1.at hk
    · rw [List.getElem?_take, if_pos (by decide)]; exact hq1.at hse
  case r1 =>
    have hl1 : ρ1.length = 46 := hg1.len rfl
    have e : ρ1 = ρ := by rw [List.take_of_length_le (by omega), List.take_of_length_le (by omega)] at ht1; exact ht1
    exact ⟨by rw [e]; exact qe.rf, Or.inl ⟨rfl, rfl, e⟩⟩
  case c1 =>
    have hq : (Sum.inl _ : Option qV ⊕ (Nat × qL × List qV)) = Sum.inr q := hq
    cases hq
theorem zUuf0 {fc fc0 : Nat → Nat → Int32} {ρ : List Int} (hfc : ∀ κ, κ < 30 → fc κ = fc0 κ) (hR : hs_R fc) {ws : va_W} (h : qy_w ρ ex fc tys as zUT_u0s_f1.2.1 ws) : qy_w ρ ex fc0 tys as zUT_u0FHt.2.1 ws := by
  have h30 := h.uf (c := 27) (κ := 30) (sg := [(1, .ofNat 0, .ofNat 99)]) rfl hR.1
  have h31 := h30.uf (c := 28) (κ := 31) (sg := [(1, .ofNat 0, .ofNat 4)]) rfl hR.2.1
  have h32 := h31.uf (c := 29) (κ := 32) (sg := [(1, .negSucc 2147483647, .ofNat 2147483647)]) rfl hR.2.2.1
  have h33 := h32.uf (c := 30) (κ := 33) (sg := [(1, .negSucc 2147483647, .ofNat 2147483647)]) rfl hR.2.2.2.1
  have h34 := h33.uf (c := 31) (κ := 34) (sg := [(1, .negSucc 2147483647, .ofNat 2147483647)]) rfl hR.2.2.2.2.1
  have h35 := h34.uf (c := 32) (κ := 35) (sg := [(1, .negSucc 2147483647, .ofNat 2147483647)]) rfl hR.2.2.2.2.2
  exact h35.ren (r := fun κ => κ) (fc' := fc0) (fun t N κ kn ov hm => (hfc κ (Nat.le_of_ble_eq_true (q_ghs_ok (f := fun κ => Nat.ble (κ + 1) 30) (by decide +kernel) hm))).symm)
def zUSP0 (fc : Nat → Nat → Int32) (ρ0 : List Int) : qP := fun fc' ρ' o => fc' = fc ∧ qe ρ0 ρ' ∧ o ∈ q_po zUk10
theorem zUsl0_0 (hT : zk_t) (hA : zk_a) {fc0 fc : Nat → Nat → Int32} (hfc : ∀ κ, κ < 30 → fc κ = fc0 κ) (hR : hs_R fc) {ρ0 : List Int} (hl0 : ρ0.length = 46) {k se : Int} (hk : ρ0[45]? = some k) (hse : ρ0[22]? = some se) (hwh : ρ0[44]? = some 0) {vs : Int} (hvs : hs_F fc k se vs) (hv0 : 0 ≤ vs) (hv1 : vs ≤ 30) : ∀ (m : Nat) (ρ : List Int) (v : Int), ρ.take 46 = ρ0 → ρ[52]? = some v → v ≤ vs → vs - v < (m : Int) → qy_TP ex D as tys 12 293 fc ρ zUT_u0SH.1 zUT_u0SH.2.1 zUT_u0SH.2.2.1 zUT_u0SH.2.2.2 30 (zUSP0 fc0 ρ0) := by
  intro m
  induction m with
  | zero => intro ρ v _ _ h1 h2; exfalso; omega
  | succ m ih =>
    intro ρ v ht0 hv h1 h2
    refine qs_lnkB (p := 53) (ρ := ρ) fa_nil hT hA zUg_u0s2 (fa_cons (fun ρ1 ht1 hL hg1 _ => ⟨fun rv hrv => ?r0, fun q hq => ?c0⟩) fa_nil)
    case r0 =>
      have hrv : (Sum.inr _ : Option qV ⊕ (Nat × qL × List qV)) = Sum.inl rv := hrv
      cases hrv
    case c0 =>
      have hq : (Sum.inr _ : Option qV ⊕ (Nat × qL × List qV)) = Sum.inr q := hq
      cases hq
      have hl1 : ρ1.length = 53 := hg1.len rfl
      have hp1 : ρ1.take 46 = ρ0 := by have := congrArg (List.take 46) ht1; rw [List.take_take, List.take_take] at this; rw [← ht0]; exact this
      have v1 : ρ1[52]? = some v := q_tk0 ht1 (by decide) hv
      have v2 : (0 : Int) ≤ v ∧ v ≤ 30 := hg1.rng (i := 52) (r := (0, 30)) rfl v1
      have w1 := q_tkb hp1 hwh
      obtain ⟨hM, hcls, hrun⟩ := qs_vc (ex := ex) hT hA (k := 293) (pc := 33) rfl
      refine qy_TP.pre (ρ' := ρ1) (g' := zUT_u0S33.1) (w' := zUT_u0S33.2.1) (lo' := zUT_u0S33.2.2.1) (st' := [qa 45, qa 52, (.inr (.inr (.inl (some 0))))] ++ []) ?_ (fun ws h => h) (fun h => h) (fun _ _ h => h) (fun _ h => h)
      refine qy_TP.call (d := 11) (cs := [qa 45, qa 52, (.inr (.inr (.inl (some 0))))]) (st := []) (av := [(0, (.inr (.inr (.inl (some 0))))), (1, qa 52), (2, qa 45)]) hM hcls hrun rfl rfl (by decide) (by decide +kernel) (Or.inr (Or.inr ⟨by decide, 0, 0, _, _, rfl, rfl⟩)) ((zUdf0 hT hA hR (q_tkb hp1 hk) (q_tkb hp1 hse) v1).dep (by decide)) (fun f r o ho => ⟨by rw [ho.2.1]; exact qe.rf, by rcases ho.2.2 with h | h; exact ⟨_, congrArg (fun x => x.2.2) h.1⟩; exact ⟨_, congrArg (fun x => x.2.2) h.1⟩⟩) ?_
      intro fc2 ρ2 o rv ho hrv _ hg2
      obtain ⟨e1, e2, ho⟩ := ho
      rw [e1, e2]
      rcases ho with ⟨ho, hF⟩ | ⟨ho, hF⟩
      · rw [ho] at hrv
        rw [ho]
        have hrv : (Sum.inl (some (.inl 1)) : Option qV ⊕ (Nat × qL × List qV)) = Sum.inl rv := hrv
        cases hrv
        refine qy_TP.pre (fc' := fc0) (ρ' := ρ1) (g' := zUT_u0s_s4.1) (w' := zUT_u0s_s4.2.1) (lo' := zUT_u0s_s4.2.2.1) (st' := zUT_u0s_s4.2.2.2) ?_ (fun ws h => zUuf0 hfc hR h) (fun h => h) (fun _ _ h => h) (fun _ h => h)
        refine qs_lnkB (p := 46) (ρ := ρ1) fa_nil hT hA zUg_u0s4 (fa_cons (fun ρ3 ht3 hL hg3 _ => ⟨fun rv hrv => ?r0, fun q hq => ?c0⟩) fa_nil)
        case r0 =>
          exact ⟨rfl, ⟨ρ3.drop 46, by rw [← hp1, ← ht3, List.take_append_drop]⟩, List.mem_cons_self⟩
        case c0 =>
          have hq : (Sum.inl _ : Option qV ⊕ (Nat × qL × List qV)) = Sum.inr q := hq
          cases hq
      · rw [ho] at hrv
        rw [ho]
        have hrv : (Sum.inl (some (.inl 0)) : Option qV ⊕ (Nat × qL × List qV)) = Sum.inl rv := hrv
        cases hrv
        have hne : v ≠ vs := fun z => hF (by rw [z]; exact hvs)
        refine qy_TP.pre (ρ' := ρ1) (g' := zUT_u0s_s3_0.1) (w' := zUT_u0s_s3_0.2.1) (lo' := zUT_u0s_s3_0.2.2.1) (st' := zUT_u0s_s3_0.2.2.2) ?_ (fun ws h => h) (fun h => h.to0 [(44, 0, 0), (52, 0, 29)] [] (by decide +kernel) rfl (by decide +kernel) (fa_ex w1 (by omega) (by omega) (fa_ex v1 (by omega) (by omega) fa_nil)) fa_nil) (fun _ _ h => h) (fun _ h => h)
        refine qs_lnkB (p := 52) (ρ := ρ1) fa_nil hT hA zUg_u0s3_0 (fa_cons (fun ρ3 ht3 hL hg3 _ => ⟨fun rv hrv => ?r0, fun q hq => ?c0⟩) fa_nil)
        case r0 =>
          have hrv : (Sum.inr _ : Option qV ⊕ (Nat × qL × List qV)) = Sum.inl rv := hrv
          cases hrv
        case c0 =>
          have hq : (Sum.inr _ : Option qV ⊕ (Nat × qL × List qV)) = Sum.inr q := hq
          cases hq
          have lv := (hL.n (i := 52) (d := 1) List.mem_cons_self v1)
          exact ih ρ3 (v + 1) (by have := congrArg (List.take 46) ht3; rw [List.take_take, List.take_take] at this; rw [← hp1]; exact this) lv (by omega) (by omega)
theorem zUsl0_1 (hT : zk_t) (hA : zk_a) {fc0 fc : Nat → Nat → Int32} (hfc : ∀ κ, κ < 30 → fc κ = fc0 κ) (hR : hs_R fc) {ρ0 : List Int} (hl0 : ρ0.length = 46) {k se : Int} (hk : ρ0[45]? = some k) (hse : ρ0[22]? = some se) (hwh : ρ0[44]? = some 1) {vs : Int} (hvs : hs_F fc k se vs) (hv0 : 0 ≤ vs) (hv1 : vs ≤ 30) : ∀ (m : Nat) (ρ : List Int) (v : Int), ρ.take 46 = ρ0 → ρ[52]? = some v → vs ≤ v → v - vs < (m : Int) → qy_TP ex D as tys 12 293 fc ρ zUT_u0SH.1 zUT_u0SH.2.1 zUT_u0SH.2.2.1 zUT_u0SH.2.2.2 30 (zUSP0 fc0 ρ0) := by
  intro m
  induction m with
  | zero => intro ρ v _ _ h1 h2; exfalso; omega
  | succ m ih =>
    intro ρ v ht0 hv h1 h2
    refine qs_lnkB (p := 53) (ρ := ρ) fa_nil hT hA zUg_u0s2 (fa_cons (fun ρ1 ht1 hL hg1 _ => ⟨fun rv hrv => ?r0, fun q hq => ?c0⟩) fa_nil)
    case r0 =>
      have hrv : (Sum.inr _ : Option qV ⊕ (Nat × qL × List qV)) = Sum.inl rv := hrv
      cases hrv
    case c0 =>
      have hq : (Sum.inr _ : Option qV ⊕ (Nat × qL × List qV)) = Sum.inr q := hq
      cases hq
      have hl1 : ρ1.length = 53 := hg1.len rfl
      have hp1 : ρ1.take 46 = ρ0 := by have := congrArg (List.take 46) ht1; rw [List.take_take, List.take_take] at this; rw [← ht0]; exact this
      have v1 : ρ1[52]? = some v := q_tk0 ht1 (by decide) hv
      have v2 : (0 : Int) ≤ v ∧ v ≤ 30 := hg1.rng (i := 52) (r := (0, 30)) rfl v1
      have w1 := q_tkb hp1 hwh
      obtain ⟨hM, hcls, hrun⟩ := qs_vc (ex := ex) hT hA (k := 293) (pc := 33) rfl
      refine qy_TP.pre (ρ' := ρ1) (g' := zUT_u0S33.1) (w' := zUT_u0S33.2.1) (lo' := zUT_u0S33.2.2.1) (st' := [qa 45, qa 52, (.inr (.inr (.inl (some 0))))] ++ []) ?_ (fun ws h => h) (fun h => h) (fun _ _ h => h) (fun _ h => h)
      refine qy_TP.call (d := 11) (cs := [qa 45, qa 52, (.inr (.inr (.inl (some 0))))]) (st := []) (av := [(0, (.inr (.inr (.inl (some 0))))), (1, qa 52), (2, qa 45)]) hM hcls hrun rfl rfl (by decide) (by decide +kernel) (Or.inr (Or.inr ⟨by decide, 0, 0, _, _, rfl, rfl⟩)) ((zUdf0 hT hA hR (q_tkb hp1 hk) (q_tkb hp1 hse) v1).dep (by decide)) (fun f r o ho => ⟨by rw [ho.2.1]; exact qe.rf, by rcases ho.2.2 with h | h; exact ⟨_, congrArg (fun x => x.2.2) h.1⟩; exact ⟨_, congrArg (fun x => x.2.2) h.1⟩⟩) ?_
      intro fc2 ρ2 o rv ho hrv _ hg2
      obtain ⟨e1, e2, ho⟩ := ho
      rw [e1, e2]
      rcases ho with ⟨ho, hF⟩ | ⟨ho, hF⟩
      · rw [ho] at hrv
        rw [ho]
        have hrv : (Sum.inl (some (.inl 1)) : Option qV ⊕ (Nat × qL × List qV)) = Sum.inl rv := hrv
        cases hrv
        refine qy_TP.pre (fc' := fc0) (ρ' := ρ1) (g' := zUT_u0s_s4.1) (w' := zUT_u0s_s4.2.1) (lo' := zUT_u0s_s4.2.2.1) (st' := zUT_u0s_s4.2.2.2) ?_ (fun ws h => zUuf0 hfc hR h) (fun h => h) (fun _ _ h => h) (fun _ h => h)
        refine qs_lnkB (p := 46) (ρ := ρ1) fa_nil hT hA zUg_u0s4 (fa_cons (fun ρ3 ht3 hL hg3 _ => ⟨fun rv hrv => ?r0, fun q hq => ?c0⟩) fa_nil)
        case r0 =>
          exact ⟨rfl, ⟨ρ3.drop 46, by rw [← hp1, ← ht3, List.take_append_drop]⟩, List.mem_cons_self⟩
        case c0 =>
          have hq : (Sum.inl _ : Option qV ⊕ (Nat × qL × List qV)) = Sum.inr q := hq
          cases hq
      · rw [ho] at hrv
        rw [ho]
        have hrv : (Sum.inl (some (.inl 0)) : Option qV ⊕ (Nat × qL × List qV)) = Sum.inl rv := hrv
        cases hrv
        have hne : v ≠ vs := fun z => hF (by rw [z]; exact hvs)
        refine qy_TP.pre (ρ' := ρ1) (g' := zUT_u0s_s3_1.1) (w' := zUT_u0s_s3_1.2.1) (lo' := zUT_u0s_s3_1.2.2.1) (st' := zUT_u0s_s3_1.2.2.2) ?_ (fun ws h => h) (fun h => h.to0 [(44, 1, 1), (52, 1, 30)] [] (by decide +kernel) rfl (by decide +kernel) (fa_ex w1 (by omega) (by omega) (fa_ex v1 (by omega) (by omega) fa_nil)) fa_nil) (fun _ _ h => h) (fun _ h => h)
        refine qs_lnkB (p := 52) (ρ := ρ1) fa_nil hT hA zUg_u0s3_1 (fa_cons (fun ρ3 ht3 hL hg3 _ => ⟨fun rv hrv => ?r0, fun q hq => ?c0⟩) fa_nil)
        case r0 =>
          have hrv : (Sum.inr _ : Option qV ⊕ (Nat × qL × List qV)) = Sum.inl rv := hrv
          cases hrv
        case c0 =>
          have hq : (Sum.inr _ : Option qV ⊕ (Nat × qL × List qV)) = Sum.inr q := hq
          cases hq
          have lv := (hL.n (i := 52) (d := -1) List.mem_cons_self v1)
          exact ih ρ3 (v + (-1)) (by have := congrArg (List.take 46) ht3; rw [List.take_take, List.take_take] at this; rw [← hp1]; exact this) lv (by omega) (by omega)
theorem zUsure0 (hT : zk_t) (hA : zk_a) (hh : ∀ fc, Γ.1 fc → qy_V ex (qΓ1 fc) D as tys zUk2) : qy_V ex Γ D as tys zUk10 := by
  refine qy_V.ofTP fun fc ρ hfc => qy_TP.intro fun _ hg => ?_
  have hl : ρ.length = 46 := hg.len rfl
  have hh := hh fc hfc
  refine qy_TP.post (P1 := zUSP0 fc ρ) ?_ (fun fc' ρ' o h => ⟨h.2.2, h.2.1, by rw [h.1]; exact ⟨hfc, fun _ _ => rfl⟩⟩)
  obtain ⟨k, hk, hk1, hk2⟩ := hg.2.1 45 _ rfl
  obtain ⟨se, hse, hse1, hse2⟩ := hg.2.1 22 _ rfl
  have ht0 : ρ.take 46 = ρ := List.take_of_length_le (by omega)
  refine qs_lnkB (p := 46) (ρ := ρ) fa_nil hT hA zUg_u0u0 (fa_cons (fun ρ1 ht1 hL hg1 _ => ⟨fun rv hrv => ?r0, fun q hq => ?c0⟩) (fa_cons (fun ρ1 ht1 hL hg1 _ => ⟨fun rv hrv => ?r1, fun q hq => ?c1⟩) fa_nil))
  case r0 =>
    have hrv : (Sum.inr _ : Option qV ⊕ (Nat × qL × List qV)) = Sum.inl rv := hrv
    cases hrv
  case c0 =>
    have hq : (Sum.inr _ : Option qV ⊕ (Nat × qL × List qV)) = Sum.inr q := hq
    cases hq
    have hl1 : ρ1.length = 46 := hg1.len rfl
    have e : ρ1 = ρ := by rw [List.take_of_length_le (by omega), List.take_of_length_le (by omega)] at ht1; exact ht1
    rw [e] at hg1 ⊢
    obtain ⟨wh, hwh, hwh1, hwh2⟩ := hg1.2.1 44 (0, 1) rfl
    have hwh1 : (0 : Int) ≤ wh := hwh1
    have hwh2 : wh ≤ (1 : Int) := hwh2
    obtain ⟨hM, hcls, hrun⟩ := qs_vc (ex := ex) hT hA (k := 293) (pc := 11) rfl
    refine qy_TP.call (d := 11) (cs := [qa 45, (.inr (.inr (.inl (some 0))))]) (st := []) (av := [(0, (.inr (.inr (.inl (some 0))))), (1, qa 45)]) hM hcls hrun rfl rfl (by decide) (by decide +kernel) (Or.inr (Or.inr ⟨by decide, 0, 0, _, _, rfl, rfl⟩)) (zUfits0 hT hA hh hk hse) (fun f r o ho => ⟨ho.1, by rcases ho.2 with h | h; exact ⟨_, congrArg (fun x => x.2.2) h.1⟩; exact ⟨_, congrArg (fun x => x.2.2) h.1⟩⟩) ?_
    intro fc2 ρ2 o rv ho hrv _ hg2
    obtain ⟨hq2, ho⟩ := ho
    have hp2 : ρ2.take 46 = ρ := by obtain ⟨x2, hx2⟩ := hq2; rw [hx2, List.take_append_of_le_length (by omega)]; exact ht0
    rcases ho with ⟨ho, e1, e2⟩ | ⟨ho, hz, hR, n, hn, hF⟩
    · rw [ho] at hrv hg2
      rw [ho, e1, e2]
      have hrv : (Sum.inl (some (.inl 0)) : Option qV ⊕ (Nat × qL × List qV)) = Sum.inl rv := hrv
      cases hrv
      refine qs_lnkB (p := 46) (ρ := ρ) fa_nil hT hA zUg_u0sz (fa_cons (fun ρ3 ht3 hL hg3 _ => ⟨fun rv hrv => ?r0, fun q hq => ?c0⟩) fa_nil)
      case r0 =>
        exact ⟨rfl, q_qe45 ht3 hl, List.mem_cons_self⟩
      case c0 =>
        have hq : (Sum.inl _ : Option qV ⊕ (Nat × qL × List qV)) = Sum.inr q := hq
        cases hq
    · rw [ho] at hrv hg2
      rw [ho]
      have hrv : (Sum.inl (some (qa 51)) : Option qV ⊕ (Nat × qL × List qV)) = Sum.inl rv := hrv
      cases hrv
      have n1 : (0 : Int) ≤ n ∧ n ≤ 31 := hg2.rng (i := 51) (r := (0, 31)) rfl hn
      by_cases hn0 : n = 0
      · refine qy_TP.pre (fc' := fc) (ρ' := ρ2) (g' := zUT_u0s_s0.1) (w' := zUT_u0s_s0.2.1) (lo' := zUT_u0s_s0.2.2.1) (st' := zUT_u0s_s0.2.2.2) ?_ (fun ws h => zUuf0 hz hR h) (fun h => h.to0 [(51, 0, 0)] [] (by decide +kernel) rfl (by decide +kernel) (fa_ex hn (by omega) (by omega) fa_nil) fa_nil) (fun _ _ h => h) (fun _ h => h)
        refine qs_lnkB (p := 46) (ρ := ρ2) fa_nil hT hA zUg_u0s0 (fa_cons (fun ρ3 ht3 hL hg3 _ => ⟨fun rv hrv => ?r0, fun q hq => ?c0⟩) fa_nil)
        case r0 =>
          exact ⟨rfl, ⟨ρ3.drop 46, by rw [← hp2, ← ht3, List.take_append_drop]⟩, List.mem_cons_self⟩
        case c0 =>
          have hq : (Sum.inl _ : Option qV ⊕ (Nat × qL × List qV)) = Sum.inr q := hq
          cases hq
      · obtain ⟨vs, v0, v1, hFs⟩ := hF hn0
        have w2 := hq2.at hwh
        have cw : wh = 0 ∨ wh = 1 := by omega
        rcases cw with cw | cw
        · rw [cw] at hwh w2
          refine qy_TP.pre (ρ' := ρ2) (g' := zUT_u0s_s1_0.1) (w' := zUT_u0s_s1_0.2.1) (lo' := zUT_u0s_s1_0.2.2.1) (st' := zUT_u0s_s1_0.2.2.2) ?_ (fun ws h => h) (fun h => h.to0 [(51, 1, 31), (44, 0, 0)] [] (by decide +kernel) rfl (by decide +kernel) (fa_ex hn (by omega) (by omega) (fa_ex w2 (by omega) (by omega) fa_nil)) fa_nil) (fun _ _ h => h) (fun _ h => h)
          refine qs_lnkB (p := 52) (ρ := ρ2) fa_nil hT hA zUg_u0s1_0 (fa_cons (fun ρ3 ht3 hL hg3 _ => ⟨fun rv hrv => ?r0, fun q hq => ?c0⟩) fa_nil)
          case r0 =>
            have hrv : (Sum.inr _ : Option qV ⊕ (Nat × qL × List qV)) = Sum.inl rv := hrv
            cases hrv
          case c0 =>
            have hq : (Sum.inr _ : Option qV ⊕ (Nat × qL × List qV)) = Sum.inr q := hq
            cases hq
            have lv := (hL.l (i := 52) (z := 0) List.mem_cons_self)
            exact zUsl0_0 hT hA hz hR hl hk hse hwh hFs v0 v1 100 ρ3 0 (by have := congrArg (List.take 46) ht3; rw [List.take_take, List.take_take] at this; rw [← hp2]; exact this) lv (by omega) (by omega)
        · rw [cw] at hwh w2
          refine qy_TP.pre (ρ' := ρ2) (g' := zUT_u0s_s1_1.1) (w' := zUT_u0s_s1_1.2.1) (lo' := zUT_u0s_s1_1.2.2.1) (st' := zUT_u0s_s1_1.2.2.2) ?_ (fun ws h => h) (fun h => h.to0 [(51, 1, 31), (44, 1, 1)] [] (by decide +kernel) rfl (by decide +kernel) (fa_ex hn (by omega) (by omega) (fa_ex w2 (by omega) (by omega) fa_nil)) fa_nil) (fun _ _ h => h) (fun _ h => h)
          refine qs_lnkB (p := 52) (ρ := ρ2) fa_nil hT hA zUg_u0s1_1 (fa_cons (fun ρ3 ht3 hL hg3 _ => ⟨fun rv hrv => ?r0, fun q hq => ?c0⟩) fa_nil)
          case r0 =>
            have hrv : (Sum.inr _ : Option qV ⊕ (Nat × qL × List qV)) = Sum.inl rv := hrv
            cases hrv
          case c0 =>
            have hq : (Sum.inr _ : Option qV ⊕ (Nat × qL × List qV)) = Sum.inr q := hq
            cases hq
            have lv := (hL.l (i := 52) (z := 30) List.mem_cons_self)
            exact zUsl0_1 hT hA hz hR hl hk hse hwh hFs v0 v1 100 ρ3 30 (by have := congrArg (List.take 46) ht3; rw [List.take_take, List.take_take] at this; rw [← hp2]; exact this) lv (by omega) (by omega)
  case r1 =>
    exact ⟨rfl, q_qe45 ht1 hl, List.mem_cons_self⟩
  case c1 =>
    have hq : (Sum.inl _ : Option qV ⊕ (Nat × qL × List qV)) = Sum.inr q := hq
    cases hq
end zUS0
section zUS1
variable {ex : Nat → Value} {Γ : qΓ} {D : va_G} {as : List Nat} {tys : List (ClassId × FieldType)}
def zUDP1 (fc : Nat → Nat → Int32) (ρ0 : List Int) (k se v : Int) : qP := fun fc' ρ' o => fc' = fc ∧ ρ' = ρ0 ∧ ((o = (zUT_u1D1.1, zUT_u1D1.2.1, .inl (some (.inl 1))) ∧ hs_F fc k se v) ∨ (o = (zUT_u1D1.1, zUT_u1D1.2.1, .inl (some (.inl 0))) ∧ ¬ hs_F fc k se v))
theorem zUd1 (hT : zk_t) (hA : zk_a) {fc : Nat → Nat → Int32} (hR : hs_R fc) {ρ0 : List Int} (hl0 : ρ0.length = 53) {k se v : Int} (hk : ρ0[45]? = some k) (hse : ρ0[22]? = some se) (hv : ρ0[52]? = some v) (hs30 : se ≤ 30) (hv0 : 0 ≤ v) (hv30 : v ≤ 30) : ∀ (r : Nat) (ρ : List Int) (j : Nat), ρ.take 53 = ρ0 → ρ[53]? = some (j : Int) → (j : Int) + (r : Int) = se → (∀ i : Nat, i < j → hs_ok fc k v i) → qy_TP ex D as tys 10 201 fc ρ zUT_u1DH.1 zUT_u1DH.2.1 zUT_u1DH.2.2.1 zUT_u1DH.2.2.2 2 (zUDP1 fc ρ0 k se v) := by
  intro r
  induction r with
  | zero =>
    intro ρ j ht hj hr hok
    have gs := q_tkb ht hse
    refine qy_TP.pre (ρ' := ρ) (g' := zUT_u1s_dx.1) (w' := zUT_u1s_dx.2.1) (lo' := zUT_u1s_dx.2.2.1) (st' := zUT_u1s_dx.2.2.2) ?_ (fun ws h => h) (fun h => h.to0 [] [((.ofNat 1), 53, (.negSucc 0), 22, (.ofNat 0))] (by decide +kernel) rfl (by decide +kernel) fa_nil (fa_cons ⟨_, _, hj, gs, by show (0 : Int) ≤ 1 * (j : Int) + (-1) * se; omega⟩ fa_nil)) (fun _ _ h => h) (fun _ h => h)
    refine qs_lnkB (p := 53) (ρ := ρ) fa_nil hT hA zUg_u1dx (fa_cons (fun ρ1 ht1 hL hg1 _ => ⟨fun rv hrv => ?r0, fun q hq => ?c0⟩) fa_nil)
    case r0 =>
      have hl1 : ρ1.length = 53 := hg1.len rfl
      exact ⟨rfl, by rw [← ht, ← ht1, List.take_of_length_le (by omega)], Or.inl ⟨rfl, fun i hi => hok i (by omega)⟩⟩
    case c0 =>
      have hq : (Sum.inl _ : Option qV ⊕ (Nat × qL × List qV)) = Sum.inr q := hq
      cases hq
  | succ r ih =>
    intro ρ j ht hj hr hok
    refine qy_TP.intro fun _ hgD => ?_
    have hl : ρ.length = 54 := hgD.len rfl
    have hj30 : j < 30 := by omega
    obtain ⟨hc0, hc4⟩ := hR.c hj30
    have hlst : ∃ xs : List Int, xs = [(fc 34 j).toInt, (fc 35 j).toInt, (fc 32 j).toInt, (fc 33 j).toInt, (fc 30 (5 * v + (fc 31 j).toInt).toNat).toInt] := ⟨_, rfl⟩
    obtain ⟨xs, hxs⟩ := hlst
    have he : qe ρ (ρ ++ xs) := ⟨xs, rfl⟩
    have xa : (ρ ++ xs)[54]? = some (fc 34 j).toInt := by rw [hxs, List.getElem?_append_right (by omega), hl]; rfl
    have xu : (ρ ++ xs)[55]? = some (fc 35 j).toInt := by rw [hxs, List.getElem?_append_right (by omega), hl]; rfl
    have xm : (ρ ++ xs)[56]? = some (fc 32 j).toInt := by rw [hxs, List.getElem?_append_right (by omega), hl]; rfl
    have xi : (ρ ++ xs)[57]? = some (fc 33 j).toInt := by rw [hxs, List.getElem?_append_right (by omega), hl]; rfl
    have xh : (ρ ++ xs)[58]? = some (fc 30 (5 * v + (fc 31 j).toInt).toNat).toInt := by rw [hxs, List.getElem?_append_right (by omega), hl]; rfl
    have xj := he.at hj
    have xk := he.at (q_tkb ht hk)
    have xs_ := he.at (q_tkb ht hse)
    have xv := he.at (q_tkb ht hv)
    have hij : (Int32.ofInt (j : Int)).toInt = (j : Int) := q_i32of (by omega) (by omega)
    have hlx : xs.length = 5 := by rw [hxs]; rfl
    have hwA : ∀ ws, qy_w ρ ex fc tys as zUT_u1DH.2.1 ws → qy_w (ρ ++ xs) ex fc tys as ((zUT_u1DH.2.1.set 31 (.inr (.inr (.inr (0, 30, 34, [(qa 53, qa 54)], []))))).set 32 (.inr (.inr (.inr (0, 30, 35, [(qa 53, qa 55)], []))))) ws := fun ws h => ((h.mono he).chg (i := 31) (e := (.inr (.inr (.inr (0, 30, 34, [], []))))) rfl (fun q hq => qy_knw (i := Int32.ofInt (j : Int)) (qy_kns (by rw [hij]; exact xj)) (by rw [hij]; omega) (by rw [hij]; show (j : Int) < 30; omega) (by rw [hij, Int.toNat_natCast]; exact qy_kns xa) hq)).chg (i := 32) (e := (.inr (.inr (.inr (0, 30, 35, [], []))))) rfl (fun q hq => qy_knw (i := Int32.ofInt (j : Int)) (qy_kns (by rw [hij]; exact xj)) (by rw [hij]; omega) (by rw [hij]; show (j : Int) < 30; omega) (by rw [hij, Int.toNat_natCast]; exact qy_kns xu) hq)
    have hwC0 : (fc 31 j).toInt = 0 → ∀ ws, qy_w ρ ex fc tys as zUT_u1DH.2.1 ws → qy_w (ρ ++ xs) ex fc tys as ((((((zUT_u1DH.2.1.set 31 (.inr (.inr (.inr (0, 30, 34, [(qa 53, qa 54)], []))))).set 32 (.inr (.inr (.inr (0, 30, 35, [(qa 53, qa 55)], []))))).set 28 (.inr (.inr (.inr (0, 30, 31, [(qa 53, .inl 0)], []))))).set 29 (.inr (.inr (.inr (0, 30, 32, [(qa 53, qa 56)], []))))).set 30 (.inr (.inr (.inr (0, 30, 33, [(qa 53, qa 57)], []))))).set 27 (.inr (.inr (.inr (0, 155, 30, [(.inr (.inl (52, 5, 0)), qa 58)], []))))) ws := by
      intro hc ws h
      have hi2 : (Int32.ofInt (5 * v + 0)).toInt = 5 * v + 0 := q_i32of (by omega) (by omega)
      have h1 := (hwA ws h).chg (i := 28) (e := (.inr (.inr (.inr (0, 30, 31, [], []))))) rfl (fun q hq => qy_knw (x := .inl 0) (i := Int32.ofInt (j : Int)) (qy_kns (by rw [hij]; exact xj)) (by rw [hij]; omega) (by rw [hij]; show (j : Int) < 30; omega) (by rw [hij, Int.toNat_natCast]; exact ⟨fc 31 j, rfl, hc⟩) hq)
      have h2 := h1.chg (i := 29) (e := (.inr (.inr (.inr (0, 30, 32, [], []))))) rfl (fun q hq => qy_knw (i := Int32.ofInt (j : Int)) (qy_kns (by rw [hij]; exact xj)) (by rw [hij]; omega) (by rw [hij]; show (j : Int) < 30; omega) (by rw [hij, Int.toNat_natCast]; exact qy_kns xm) hq)
      have h3 := h2.chg (i := 30) (e := (.inr (.inr (.inr (0, 30, 33, [], []))))) rfl (fun q hq => qy_knw (i := Int32.ofInt (j : Int)) (qy_kns (by rw [hij]; exact xj)) (by rw [hij]; omega) (by rw [hij]; show (j : Int) < 30; omega) (by rw [hij, Int.toNat_natCast]; exact qy_kns xi) hq)
      exact h3.chg (i := 27) (e := (.inr (.inr (.inr (0, 155, 30, [], []))))) rfl (fun q hq => qy_knw (i := Int32.ofInt (5 * v + 0)) (a := .inr (.inl (52, 5, 0))) ⟨_, v, rfl, xv, hi2⟩ (by rw [hi2]; omega) (by rw [hi2]; show 5 * v + 0 < 155; omega) (by rw [hi2]; exact qy_kns (by rw [← hc]; exact xh)) hq)
    have hwC1 : (fc 31 j).toInt = 1 → ∀ ws, qy_w ρ ex fc tys as zUT_u1DH.2.1 ws → qy_w (ρ ++ xs) ex fc tys as ((((((zUT_u1DH.2.1.set 31 (.inr (.inr (.inr (0, 30, 34, [(qa 53, qa 54)], []))))).set 32 (.inr (.inr (.inr (0, 30, 35, [(qa 53, qa 55)], []))))).set 28 (.inr (.inr (.inr (0, 30, 31, [(qa 53, .inl 1)], []))))).set 29 (.inr (.inr (.inr (0, 30, 32, [(qa 53, qa 56)], []))))).set 30 (.inr (.inr (.inr (0, 30, 33, [(qa 53, qa 57)], []))))).set 27 (.inr (.inr (.inr (0, 155, 30, [(.inr (.inl (52, 5, 1)), qa 58)], []))))) ws := by
      intro hc ws h
      have hi2 : (Int32.ofInt (5 * v + 1)).toInt = 5 * v + 1 := q_i32of (by omega) (by omega)
      have h1 := (hwA ws h).chg (i := 28) (e := (.inr (.inr (.inr (0, 30, 31, [], []))))) rfl (fun q hq => qy_knw (x := .inl 1) (i := Int32.ofInt (j : Int)) (qy_kns (by rw [hij]; exact xj)) (by rw [hij]; omega) (by rw [hij]; show (j : Int) < 30; omega) (by rw [hij, Int.toNat_natCast]; exact ⟨fc 31 j, rfl, hc⟩) hq)
      have h2 := h1.chg (i := 29) (e := (.inr (.inr (.inr (0, 30, 32, [], []))))) rfl (fun q hq => qy_knw (i := Int32.ofInt (j : Int)) (qy_kns (by rw [hij]; exact xj)) (by rw [hij]; omega) (by rw [hij]; show (j : Int) < 30; omega) (by rw [hij, Int.toNat_natCast]; exact qy_kns xm) hq)
      have h3 := h2.chg (i := 30) (e := (.inr (.inr (.inr (0, 30, 33, [], []))))) rfl (fun q hq => qy_knw (i := Int32.ofInt (j : Int)) (qy_kns (by rw [hij]; exact xj)) (by rw [hij]; omega) (by rw [hij]; show (j : Int) < 30; omega) (by rw [hij, Int.toNat_natCast]; exact qy_kns xi) hq)
      exact h3.chg (i := 27) (e := (.inr (.inr (.inr (0, 155, 30, [], []))))) rfl (fun q hq => qy_knw (i := Int32.ofInt (5 * v + 1)) (a := .inr (.inl (52, 5, 1))) ⟨_, v, rfl, xv, hi2⟩ (by rw [hi2]; omega) (by rw [hi2]; show 5 * v + 1 < 155; omega) (by rw [hi2]; exact qy_kns (by rw [← hc]; exact xh)) hq)
    have hwC2 : (fc 31 j).toInt = 2 → ∀ ws, qy_w ρ ex fc tys as zUT_u1DH.2.1 ws → qy_w (ρ ++ xs) ex fc tys as ((((((zUT_u1DH.2.1.set 31 (.inr (.inr (.inr (0, 30, 34, [(qa 53, qa 54)], []))))).set 32 (.inr (.inr (.inr (0, 30, 35, [(qa 53, qa 55)], []))))).set 28 (.inr (.inr (.inr (0, 30, 31, [(qa 53, .inl 2)], []))))).set 29 (.inr (.inr (.inr (0, 30, 32, [(qa 53, qa 56)], []))))).set 30 (.inr (.inr (.inr (0, 30, 33, [(qa 53, qa 57)], []))))).set 27 (.inr (.inr (.inr (0, 155, 30, [(.inr (.inl (52, 5, 2)), qa 58)], []))))) ws := by
      intro hc ws h
      have hi2 : (Int32.ofInt (5 * v + 2)).toInt = 5 * v + 2 := q_i32of (by omega) (by omega)
      have h1 := (hwA ws h).chg (i := 28) (e := (.inr (.inr (.inr (0, 30, 31, [], []))))) rfl (fun q hq => qy_knw (x := .inl 2) (i := Int32.ofInt (j : Int)) (qy_kns (by rw [hij]; exact xj)) (by rw [hij]; omega) (by rw [hij]; show (j : Int) < 30; omega) (by rw [hij, Int.toNat_natCast]; exact ⟨fc 31 j, rfl, hc⟩) hq)
      have h2 := h1.chg (i := 29) (e := (.inr (.inr (.inr (0, 30, 32, [], []))))) rfl (fun q hq => qy_knw (i := Int32.ofInt (j : Int)) (qy_kns (by rw [hij]; exact xj)) (by rw [hij]; omega) (by rw [hij]; show (j : Int) < 30; omega) (by rw [hij, Int.toNat_natCast]; exact qy_kns xm) hq)
      have h3 := h2.chg (i := 30) (e := (.inr (.inr (.inr (0, 30, 33, [], []))))) rfl (fun q hq => qy_knw (i := Int32.ofInt (j : Int)) (qy_kns (by rw [hij]; exact xj)) (by rw [hij]; omega) (by rw [hij]; show (j : Int) < 30; omega) (by rw [hij, Int.toNat_natCast]; exact qy_kns xi) hq)
      exact h3.chg (i := 27) (e := (.inr (.inr (.inr (0, 155, 30, [], []))))) rfl (fun q hq => qy_knw (i := Int32.ofInt (5 * v + 2)) (a := .inr (.inl (52, 5, 2))) ⟨_, v, rfl, xv, hi2⟩ (by rw [hi2]; omega) (by rw [hi2]; show 5 * v + 2 < 155; omega) (by rw [hi2]; exact qy_kns (by rw [← hc]; exact xh)) hq)
    have hwC3 : (fc 31 j).toInt = 3 → ∀ ws, qy_w ρ ex fc tys as zUT_u1DH.2.1 ws → qy_w (ρ ++ xs) ex fc tys as ((((((zUT_u1DH.2.1.set 31 (.inr (.inr (.inr (0, 30, 34, [(qa 53, qa 54)], []))))).set 32 (.inr (.inr (.inr (0, 30, 35, [(qa 53, qa 55)], []))))).set 28 (.inr (.inr (.inr (0, 30, 31, [(qa 53, .inl 3)], []))))).set 29 (.inr (.inr (.inr (0, 30, 32, [(qa 53, qa 56)], []))))).set 30 (.inr (.inr (.inr (0, 30, 33, [(qa 53, qa 57)], []))))).set 27 (.inr (.inr (.inr (0, 155, 30, [(.inr (.inl (52, 5, 3)), qa 58)], []))))) ws := by
      intro hc ws h
      have hi2 : (Int32.ofInt (5 * v + 3)).toInt = 5 * v + 3 := q_i32of (by omega) (by omega)
      have h1 := (hwA ws h).chg (i := 28) (e := (.inr (.inr (.inr (0, 30, 31, [], []))))) rfl (fun q hq => qy_knw (x := .inl 3) (i := Int32.ofInt (j : Int)) (qy_kns (by rw [hij]; exact xj)) (by rw [hij]; omega) (by rw [hij]; show (j : Int) < 30; omega) (by rw [hij, Int.toNat_natCast]; exact ⟨fc 31 j, rfl, hc⟩) hq)
      have h2 := h1.chg (i := 29) (e := (.inr (.inr (.inr (0, 30, 32, [], []))))) rfl (fun q hq => qy_knw (i := Int32.ofInt (j : Int)) (qy_kns (by rw [hij]; exact xj)) (by rw [hij]; omega) (by rw [hij]; show (j : Int) < 30; omega) (by rw [hij, Int.toNat_natCast]; exact qy_kns xm) hq)
      have h3 := h2.chg (i := 30) (e := (.inr (.inr (.inr (0, 30, 33, [], []))))) rfl (fun q hq => qy_knw (i := Int32.ofInt (j : Int)) (qy_kns (by rw [hij]; exact xj)) (by rw [hij]; omega) (by rw [hij]; show (j : Int) < 30; omega) (by rw [hij, Int.toNat_natCast]; exact qy_kns xi) hq)
      exact h3.chg (i := 27) (e := (.inr (.inr (.inr (0, 155, 30, [], []))))) rfl (fun q hq => qy_knw (i := Int32.ofInt (5 * v + 3)) (a := .inr (.inl (52, 5, 3))) ⟨_, v, rfl, xv, hi2⟩ (by rw [hi2]; omega) (by rw [hi2]; show 5 * v + 3 < 155; omega) (by rw [hi2]; exact qy_kns (by rw [← hc]; exact xh)) hq)
    have hwC4 : (fc 31 j).toInt = 4 → ∀ ws, qy_w ρ ex fc tys as zUT_u1DH.2.1 ws → qy_w (ρ ++ xs) ex fc tys as ((((((zUT_u1DH.2.1.set 31 (.inr (.inr (.inr (0, 30, 34, [(qa 53, qa 54)], []))))).set 32 (.inr (.inr (.inr (0, 30, 35, [(qa 53, qa 55)], []))))).set 28 (.inr (.inr (.inr (0, 30, 31, [(qa 53, .inl 4)], []))))).set 29 (.inr (.inr (.inr (0, 30, 32, [(qa 53, qa 56)], []))))).set 30 (.inr (.inr (.inr (0, 30, 33, [(qa 53, qa 57)], []))))).set 27 (.inr (.inr (.inr (0, 155, 30, [(.inr (.inl (52, 5, 4)), qa 58)], []))))) ws := by
      intro hc ws h
      have hi2 : (Int32.ofInt (5 * v + 4)).toInt = 5 * v + 4 := q_i32of (by omega) (by omega)
      have h1 := (hwA ws h).chg (i := 28) (e := (.inr (.inr (.inr (0, 30, 31, [], []))))) rfl (fun q hq => qy_knw (x := .inl 4) (i := Int32.ofInt (j : Int)) (qy_kns (by rw [hij]; exact xj)) (by rw [hij]; omega) (by rw [hij]; show (j : Int) < 30; omega) (by rw [hij, Int.toNat_natCast]; exact ⟨fc 31 j, rfl, hc⟩) hq)
      have h2 := h1.chg (i := 29) (e := (.inr (.inr (.inr (0, 30, 32, [], []))))) rfl (fun q hq => qy_knw (i := Int32.ofInt (j : Int)) (qy_kns (by rw [hij]; exact xj)) (by rw [hij]; omega) (by rw [hij]; show (j : Int) < 30; omega) (by rw [hij, Int.toNat_natCast]; exact qy_kns xm) hq)
      have h3 := h2.chg (i := 30) (e := (.inr (.inr (.inr (0, 30, 33, [], []))))) rfl (fun q hq => qy_knw (i := Int32.ofInt (j : Int)) (qy_kns (by rw [hij]; exact xj)) (by rw [hij]; omega) (by rw [hij]; show (j : Int) < 30; omega) (by rw [hij, Int.toNat_natCast]; exact qy_kns xi) hq)
      exact h3.chg (i := 27) (e := (.inr (.inr (.inr (0, 155, 30, [], []))))) rfl (fun q hq => qy_knw (i := Int32.ofInt (5 * v + 4)) (a := .inr (.inl (52, 5, 4))) ⟨_, v, rfl, xv, hi2⟩ (by rw [hi2]; omega) (by rw [hi2]; show 5 * v + 4 < 155; omega) (by rw [hi2]; exact qy_kns (by rw [← hc]; exact xh)) hq)
    rcases Int.lt_or_le k (fc 34 j).toInt with c1 | c1
    · skip
      refine qy_TP.pre (ρ' := ρ ++ xs) (g' := zUT_u1s_dA.1) (w' := zUT_u1s_dA.2.1) (lo' := zUT_u1s_dA.2.2.1) (st' := zUT_u1s_dA.2.2.2) ?_ hwA (fun h => h.to xs [(53, 0, 29), (54, -2147483648, 2147483647), (55, -2147483648, 2147483647), (56, -2147483648, 2147483647), (57, -2147483648, 2147483647), (58, -2147483648, 2147483647)] [((.ofNat 1), 22, (.negSucc 0), 53, (.ofNat 1)), ((.ofNat 1), 54, (.negSucc 0), 45, (.ofNat 1))] (by decide +kernel) (by rw [hlx]; rfl) (by decide +kernel) (fa_ex xj (by omega) (by omega) (fa_ex xa (by have := q_i32bd (fc 34 j); omega) (by have := q_i32bd (fc 34 j); omega) (fa_ex xu (by have := q_i32bd (fc 35 j); omega) (by have := q_i32bd (fc 35 j); omega) (fa_ex xm (by have := q_i32bd (fc 32 j); omega) (by have := q_i32bd (fc 32 j); omega) (fa_ex xi (by have := q_i32bd (fc 33 j); omega) (by have := q_i32bd (fc 33 j); omega) (fa_ex xh (by have := q_i32bd (fc 30 (5 * v + (fc 31 j).toInt).toNat); omega) (by have := q_i32bd (fc 30 (5 * v + (fc 31 j).toInt).toNat); omega) fa_nil)))))) (fa_cons ⟨_, _, xs_, xj, by show (1 : Int) ≤ 1 * se + (-1) * (j : Int); omega⟩ (fa_cons ⟨_, _, xa, xk, by show (1 : Int) ≤ 1 * (fc 34 j).toInt + (-1) * k; omega⟩ fa_nil))) (fun _ _ h => h.mono he) (fun _ h => h.mono he)
      refine qs_lnkB (p := 53) (ρ := ρ ++ xs) fa_nil hT hA zUg_u1dA (fa_cons (fun ρ1 ht1 hL hg1 _ => ⟨fun rv hrv => ?r0, fun q hq => ?c0⟩) fa_nil)
      case r0 =>
        have hrv : (Sum.inr _ : Option qV ⊕ (Nat × qL × List qV)) = Sum.inl rv := hrv
        cases hrv
      case c0 =>
        have hq : (Sum.inr _ : Option qV ⊕ (Nat × qL × List qV)) = Sum.inr q := hq
        cases hq
        have lj := (hL.n (i := 53) (d := 1) List.mem_cons_self xj)
        exact ih ρ1 (j + 1) (by rw [ht1, List.take_append_of_le_length (by omega)]; exact ht) (by rw [lj]; exact congrArg some (by omega)) (by omega) (fun i hi => by
          rcases Nat.lt_or_ge i j with z | z
          · exact hok i z
          · have e : i = j := by omega
            rw [e]
            exact Or.inl c1)
    · rcases Int.lt_or_le (fc 35 j).toInt 0 with c2 | c2
      · skip
        have cc : (fc 31 j).toInt = 0 ∨ (fc 31 j).toInt = 1 ∨ (fc 31 j).toInt = 2 ∨ (fc 31 j).toInt = 3 ∨ (fc 31 j).toInt = 4 := by omega
        rcases cc with hc | hc | hc | hc | hc
        · rcases Int.lt_or_le (fc 30 (5 * v + (fc 31 j).toInt).toNat).toInt (fc 32 j).toInt with c3 | c3
          · have c5 : (fc 33 j).toInt = 0 ∨ (fc 33 j).toInt ≤ -1 ∨ 1 ≤ (fc 33 j).toInt := by omega
            rcases c5 with c4 | c4 | c4
            · skip
              refine qy_TP.pre (ρ' := ρ ++ xs) (g' := zUT_u1s_dn0le.1) (w' := zUT_u1s_dn0le.2.1) (lo' := zUT_u1s_dn0le.2.2.1) (st' := zUT_u1s_dn0le.2.2.2) ?_ (hwC0 hc) (fun h => h.to xs [(53, 0, 29), (54, -2147483648, 2147483647), (55, -2147483648, -1), (56, -2147483648, 2147483647), (57, 0, 0), (58, -2147483648, 2147483647)] [((.ofNat 1), 22, (.negSucc 0), 53, (.ofNat 1)), ((.ofNat 1), 45, (.negSucc 0), 54, (.ofNat 0)), ((.ofNat 1), 56, (.negSucc 0), 58, (.ofNat 1))] (by decide +kernel) (by rw [hlx]; rfl) (by decide +kernel) (fa_ex xj (by omega) (by omega) (fa_ex xa (by have := q_i32bd (fc 34 j); omega) (by have := q_i32bd (fc 34 j); omega) (fa_ex xu (by have := q_i32bd (fc 35 j); omega) (by have := q_i32bd (fc 35 j); omega) (fa_ex xm (by have := q_i32bd (fc 32 j); omega) (by have := q_i32bd (fc 32 j); omega) (fa_ex xi (by have := q_i32bd (fc 33 j); omega) (by have := q_i32bd (fc 33 j); omega) (fa_ex xh (by have := q_i32bd (fc 30 (5 * v + (fc 31 j).toInt).toNat); omega) (by have := q_i32bd (fc 30 (5 * v + (fc 31 j).toInt).toNat); omega) fa_nil)))))) (fa_cons ⟨_, _, xs_, xj, by show (1 : Int) ≤ 1 * se + (-1) * (j : Int); omega⟩ (fa_cons ⟨_, _, xk, xa, by show (0 : Int) ≤ 1 * k + (-1) * (fc 34 j).toInt; omega⟩ (fa_cons ⟨_, _, xm, xh, by show (1 : Int) ≤ 1 * (fc 32 j).toInt + (-1) * (fc 30 (5 * v + (fc 31 j).toInt).toNat).toInt; omega⟩ fa_nil)))) (fun _ _ h => h.mono he) (fun _ h => h.mono he)
              refine qs_lnkB (p := 53) (ρ := ρ ++ xs) fa_nil hT hA zUg_u1dn0le (fa_cons (fun ρ1 ht1 hL hg1 _ => ⟨fun rv hrv => ?r0, fun q hq => ?c0⟩) fa_nil)
              case r0 =>
                have hrv : (Sum.inr _ : Option qV ⊕ (Nat × qL × List qV)) = Sum.inl rv := hrv
                cases hrv
              case c0 =>
                have hq : (Sum.inr _ : Option qV ⊕ (Nat × qL × List qV)) = Sum.inr q := hq
                cases hq
                have lj := (hL.n (i := 53) (d := 1) List.mem_cons_self xj)
                exact ih ρ1 (j + 1) (by rw [ht1, List.take_append_of_le_length (by omega)]; exact ht) (by rw [lj]; exact congrArg some (by omega)) (by omega) (fun i hi => by
                  rcases Nat.lt_or_ge i j with z | z
                  · exact hok i z
                  · have e : i = j := by omega
                    rw [e]
                    exact Or.inr (Or.inr (Or.inr ⟨c3, c4⟩)))
            · skip
              refine qy_TP.pre (ρ' := ρ ++ xs) (g' := zUT_u1s_dn0la.1) (w' := zUT_u1s_dn0la.2.1) (lo' := zUT_u1s_dn0la.2.2.1) (st' := zUT_u1s_dn0la.2.2.2) ?_ (hwC0 hc) (fun h => h.to xs [(53, 0, 29), (54, -2147483648, 2147483647), (55, -2147483648, -1), (56, -2147483648, 2147483647), (57, -2147483648, -1), (58, -2147483648, 2147483647)] [((.ofNat 1), 22, (.negSucc 0), 53, (.ofNat 1)), ((.ofNat 1), 45, (.negSucc 0), 54, (.ofNat 0)), ((.ofNat 1), 56, (.negSucc 0), 58, (.ofNat 1))] (by decide +kernel) (by rw [hlx]; rfl) (by decide +kernel) (fa_ex xj (by omega) (by omega) (fa_ex xa (by have := q_i32bd (fc 34 j); omega) (by have := q_i32bd (fc 34 j); omega) (fa_ex xu (by have := q_i32bd (fc 35 j); omega) (by have := q_i32bd (fc 35 j); omega) (fa_ex xm (by have := q_i32bd (fc 32 j); omega) (by have := q_i32bd (fc 32 j); omega) (fa_ex xi (by have := q_i32bd (fc 33 j); omega) (by have := q_i32bd (fc 33 j); omega) (fa_ex xh (by have := q_i32bd (fc 30 (5 * v + (fc 31 j).toInt).toNat); omega) (by have := q_i32bd (fc 30 (5 * v + (fc 31 j).toInt).toNat); omega) fa_nil)))))) (fa_cons ⟨_, _, xs_, xj, by show (1 : Int) ≤ 1 * se + (-1) * (j : Int); omega⟩ (fa_cons ⟨_, _, xk, xa, by show (0 : Int) ≤ 1 * k + (-1) * (fc 34 j).toInt; omega⟩ (fa_cons ⟨_, _, xm, xh, by show (1 : Int) ≤ 1 * (fc 32 j).toInt + (-1) * (fc 30 (5 * v + (fc 31 j).toInt).toNat).toInt; omega⟩ fa_nil)))) (fun _ _ h => h.mono he) (fun _ h => h.mono he)
              refine qs_lnkB (p := 53) (ρ := ρ ++ xs) fa_nil hT hA zUg_u1dn0la (fa_cons (fun ρ1 ht1 hL hg1 _ => ⟨fun rv hrv => ?r0, fun q hq => ?c0⟩) fa_nil)
              case r0 =>
                have hl1 : ρ1.length = 53 := hg1.len rfl
                refine ⟨rfl, ?_, Or.inr ⟨rfl, fun hF => ?_⟩⟩
                · rw [List.take_append_of_le_length (by omega), ht] at ht1
                  rw [← ht1, List.take_of_length_le (by omega)]
                · have hj2 := hF j (by omega)
                  unfold hs_ok at hj2
                  omega
              case c0 =>
                have hq : (Sum.inl _ : Option qV ⊕ (Nat × qL × List qV)) = Sum.inr q := hq
                cases hq
            · skip
              refine qy_TP.pre (ρ' := ρ ++ xs) (g' := zUT_u1s_dn0lb.1) (w' := zUT_u1s_dn0lb.2.1) (lo' := zUT_u1s_dn0lb.2.2.1) (st' := zUT_u1s_dn0lb.2.2.2) ?_ (hwC0 hc) (fun h => h.to xs [(53, 0, 29), (54, -2147483648, 2147483647), (55, -2147483648, -1), (56, -2147483648, 2147483647), (57, 1, 2147483647), (58, -2147483648, 2147483647)] [((.ofNat 1), 22, (.negSucc 0), 53, (.ofNat 1)), ((.ofNat 1), 45, (.negSucc 0), 54, (.ofNat 0)), ((.ofNat 1), 56, (.negSucc 0), 58, (.ofNat 1))] (by decide +kernel) (by rw [hlx]; rfl) (by decide +kernel) (fa_ex xj (by omega) (by omega) (fa_ex xa (by have := q_i32bd (fc 34 j); omega) (by have := q_i32bd (fc 34 j); omega) (fa_ex xu (by have := q_i32bd (fc 35 j); omega) (by have := q_i32bd (fc 35 j); omega) (fa_ex xm (by have := q_i32bd (fc 32 j); omega) (by have := q_i32bd (fc 32 j); omega) (fa_ex xi (by have := q_i32bd (fc 33 j); omega) (by have := q_i32bd (fc 33 j); omega) (fa_ex xh (by have := q_i32bd (fc 30 (5 * v + (fc 31 j).toInt).toNat); omega) (by have := q_i32bd (fc 30 (5 * v + (fc 31 j).toInt).toNat); omega) fa_nil)))))) (fa_cons ⟨_, _, xs_, xj, by show (1 : Int) ≤ 1 * se + (-1) * (j : Int); omega⟩ (fa_cons ⟨_, _, xk, xa, by show (0 : Int) ≤ 1 * k + (-1) * (fc 34 j).toInt; omega⟩ (fa_cons ⟨_, _, xm, xh, by show (1 : Int) ≤ 1 * (fc 32 j).toInt + (-1) * (fc 30 (5 * v + (fc 31 j).toInt).toNat).toInt; omega⟩ fa_nil)))) (fun _ _ h => h.mono he) (fun _ h => h.mono he)
              refine qs_lnkB (p := 53) (ρ := ρ ++ xs) fa_nil hT hA zUg_u1dn0lb (fa_cons (fun ρ1 ht1 hL hg1 _ => ⟨fun rv hrv => ?r0, fun q hq => ?c0⟩) fa_nil)
              case r0 =>
                have hl1 : ρ1.length = 53 := hg1.len rfl
                refine ⟨rfl, ?_, Or.inr ⟨rfl, fun hF => ?_⟩⟩
                · rw [List.take_append_of_le_length (by omega), ht] at ht1
                  rw [← ht1, List.take_of_length_le (by omega)]
                · have hj2 := hF j (by omega)
                  unfold hs_ok at hj2
                  omega
              case c0 =>
                have hq : (Sum.inl _ : Option qV ⊕ (Nat × qL × List qV)) = Sum.inr q := hq
                cases hq
          · have c5 : (fc 33 j).toInt = 1 ∨ (fc 33 j).toInt ≤ 0 ∨ 2 ≤ (fc 33 j).toInt := by omega
            rcases c5 with c4 | c4 | c4
            · skip
              refine qy_TP.pre (ρ' := ρ ++ xs) (g' := zUT_u1s_dn0ge.1) (w' := zUT_u1s_dn0ge.2.1) (lo' := zUT_u1s_dn0ge.2.2.1) (st' := zUT_u1s_dn0ge.2.2.2) ?_ (hwC0 hc) (fun h => h.to xs [(53, 0, 29), (54, -2147483648, 2147483647), (55, -2147483648, -1), (56, -2147483648, 2147483647), (57, 1, 1), (58, -2147483648, 2147483647)] [((.ofNat 1), 22, (.negSucc 0), 53, (.ofNat 1)), ((.ofNat 1), 45, (.negSucc 0), 54, (.ofNat 0)), ((.ofNat 1), 58, (.negSucc 0), 56, (.ofNat 0))] (by decide +kernel) (by rw [hlx]; rfl) (by decide +kernel) (fa_ex xj (by omega) (by omega) (fa_ex xa (by have := q_i32bd (fc 34 j); omega) (by have := q_i32bd (fc 34 j); omega) (fa_ex xu (by have := q_i32bd (fc 35 j); omega) (by have := q_i32bd (fc 35 j); omega) (fa_ex xm (by have := q_i32bd (fc 32 j); omega) (by have := q_i32bd (fc 32 j); omega) (fa_ex xi (by have := q_i32bd (fc 33 j); omega) (by have := q_i32bd (fc 33 j); omega) (fa_ex xh (by have := q_i32bd (fc 30 (5 * v + (fc 31 j).toInt).toNat); omega) (by have := q_i32bd (fc 30 (5 * v + (fc 31 j).toInt).toNat); omega) fa_nil)))))) (fa_cons ⟨_, _, xs_, xj, by show (1 : Int) ≤ 1 * se + (-1) * (j : Int); omega⟩ (fa_cons ⟨_, _, xk, xa, by show (0 : Int) ≤ 1 * k + (-1) * (fc 34 j).toInt; omega⟩ (fa_cons ⟨_, _, xh, xm, by show (0 : Int) ≤ 1 * (fc 30 (5 * v + (fc 31 j).toInt).toNat).toInt + (-1) * (fc 32 j).toInt; omega⟩ fa_nil)))) (fun _ _ h => h.mono he) (fun _ h => h.mono he)
              refine qs_lnkB (p := 53) (ρ := ρ ++ xs) fa_nil hT hA zUg_u1dn0ge (fa_cons (fun ρ1 ht1 hL hg1 _ => ⟨fun rv hrv => ?r0, fun q hq => ?c0⟩) fa_nil)
              case r0 =>
                have hrv : (Sum.inr _ : Option qV ⊕ (Nat × qL × List qV)) = Sum.inl rv := hrv
                cases hrv
              case c0 =>
                have hq : (Sum.inr _ : Option qV ⊕ (Nat × qL × List qV)) = Sum.inr q := hq
                cases hq
                have lj := (hL.n (i := 53) (d := 1) List.mem_cons_self xj)
                exact ih ρ1 (j + 1) (by rw [ht1, List.take_append_of_le_length (by omega)]; exact ht) (by rw [lj]; exact congrArg some (by omega)) (by omega) (fun i hi => by
                  rcases Nat.lt_or_ge i j with z | z
                  · exact hok i z
                  · have e : i = j := by omega
                    rw [e]
                    exact Or.inr (Or.inr (Or.inl ⟨c3, c4⟩)))
            · skip
              refine qy_TP.pre (ρ' := ρ ++ xs) (g' := zUT_u1s_dn0ga.1) (w' := zUT_u1s_dn0ga.2.1) (lo' := zUT_u1s_dn0ga.2.2.1) (st' := zUT_u1s_dn0ga.2.2.2) ?_ (hwC0 hc) (fun h => h.to xs [(53, 0, 29), (54, -2147483648, 2147483647), (55, -2147483648, -1), (56, -2147483648, 2147483647), (57, -2147483648, 0), (58, -2147483648, 2147483647)] [((.ofNat 1), 22, (.negSucc 0), 53, (.ofNat 1)), ((.ofNat 1), 45, (.negSucc 0), 54, (.ofNat 0)), ((.ofNat 1), 58, (.negSucc 0), 56, (.ofNat 0))] (by decide +kernel) (by rw [hlx]; rfl) (by decide +kernel) (fa_ex xj (by omega) (by omega) (fa_ex xa (by have := q_i32bd (fc 34 j); omega) (by have := q_i32bd (fc 34 j); omega) (fa_ex xu (by have := q_i32bd (fc 35 j); omega) (by have := q_i32bd (fc 35 j); omega) (fa_ex xm (by have := q_i32bd (fc 32 j); omega) (by have := q_i32bd (fc 32 j); omega) (fa_ex xi (by have := q_i32bd (fc 33 j); omega) (by have := q_i32bd (fc 33 j); omega) (fa_ex xh (by have := q_i32bd (fc 30 (5 * v + (fc 31 j).toInt).toNat); omega) (by have := q_i32bd (fc 30 (5 * v + (fc 31 j).toInt).toNat); omega) fa_nil)))))) (fa_cons ⟨_, _, xs_, xj, by show (1 : Int) ≤ 1 * se + (-1) * (j : Int); omega⟩ (fa_cons ⟨_, _, xk, xa, by show (0 : Int) ≤ 1 * k + (-1) * (fc 34 j).toInt; omega⟩ (fa_cons ⟨_, _, xh, xm, by show (0 : Int) ≤ 1 * (fc 30 (5 * v + (fc 31 j).toInt).toNat).toInt + (-1) * (fc 32 j).toInt; omega⟩ fa_nil)))) (fun _ _ h => h.mono he) (fun _ h => h.mono he)
              refine qs_lnkB (p := 53) (ρ := ρ ++ xs) fa_nil hT hA zUg_u1dn0ga (fa_cons (fun ρ1 ht1 hL hg1 _ => ⟨fun rv hrv => ?r0, fun q hq => ?c0⟩) fa_nil)
              case r0 =>
                have hl1 : ρ1.length = 53 := hg1.len rfl
                refine ⟨rfl, ?_, Or.inr ⟨rfl, fun hF => ?_⟩⟩
                · rw [List.take_append_of_le_length (by omega), ht] at ht1
                  rw [← ht1, List.take_of_length_le (by omega)]
                · have hj2 := hF j (by omega)
                  unfold hs_ok at hj2
                  omega
              case c0 =>
                have hq : (Sum.inl _ : Option qV ⊕ (Nat × qL × List qV)) = Sum.inr q := hq
                cases hq
            · skip
              refine qy_TP.pre (ρ' := ρ ++ xs) (g' := zUT_u1s_dn0gb.1) (w' := zUT_u1s_dn0gb.2.1) (lo' := zUT_u1s_dn0gb.2.2.1) (st' := zUT_u1s_dn0gb.2.2.2) ?_ (hwC0 hc) (fun h => h.to xs [(53, 0, 29), (54, -2147483648, 2147483647), (55, -2147483648, -1), (56, -2147483648, 2147483647), (57, 2, 2147483647), (58, -2147483648, 2147483647)] [((.ofNat 1), 22, (.negSucc 0), 53, (.ofNat 1)), ((.ofNat 1), 45, (.negSucc 0), 54, (.ofNat 0)), ((.ofNat 1), 58, (.negSucc 0), 56, (.ofNat 0))] (by decide +kernel) (by rw [hlx]; rfl) (by decide +kernel) (fa_ex xj (by omega) (by omega) (fa_ex xa (by have := q_i32bd (fc 34 j); omega) (by have := q_i32bd (fc 34 j); omega) (fa_ex xu (by have := q_i32bd (fc 35 j); omega) (by have := q_i32bd (fc 35 j); omega) (fa_ex xm (by have := q_i32bd (fc 32 j); omega) (by have := q_i32bd (fc 32 j); omega) (fa_ex xi (by have := q_i32bd (fc 33 j); omega) (by have := q_i32bd (fc 33 j); omega) (fa_ex xh (by have := q_i32bd (fc 30 (5 * v + (fc 31 j).toInt).toNat); omega) (by have := q_i32bd (fc 30 (5 * v + (fc 31 j).toInt).toNat); omega) fa_nil)))))) (fa_cons ⟨_, _, xs_, xj, by show (1 : Int) ≤ 1 * se + (-1) * (j : Int); omega⟩ (fa_cons ⟨_, _, xk, xa, by show (0 : Int) ≤ 1 * k + (-1) * (fc 34 j).toInt; omega⟩ (fa_cons ⟨_, _, xh, xm, by show (0 : Int) ≤ 1 * (fc 30 (5 * v + (fc 31 j).toInt).toNat).toInt + (-1) * (fc 32 j).toInt; omega⟩ fa_nil)))) (fun _ _ h => h.mono he) (fun _ h => h.mono he)
              refine qs_lnkB (p := 53) (ρ := ρ ++ xs) fa_nil hT hA zUg_u1dn0gb (fa_cons (fun ρ1 ht1 hL hg1 _ => ⟨fun rv hrv => ?r0, fun q hq => ?c0⟩) fa_nil)
              case r0 =>
                have hl1 : ρ1.length = 53 := hg1.len rfl
                refine ⟨rfl, ?_, Or.inr ⟨rfl, fun hF => ?_⟩⟩
                · rw [List.take_append_of_le_length (by omega), ht] at ht1
                  rw [← ht1, List.take_of_length_le (by omega)]
                · have hj2 := hF j (by omega)
                  unfold hs_ok at hj2
                  omega
              case c0 =>
                have hq : (Sum.inl _ : Option qV ⊕ (Nat × qL × List qV)) = Sum.inr q := hq
                cases hq
        · rcases Int.lt_or_le (fc 30 (5 * v + (fc 31 j).toInt).toNat).toInt (fc 32 j).toInt with c3 | c3
          · have c5 : (fc 33 j).toInt = 0 ∨ (fc 33 j).toInt ≤ -1 ∨ 1 ≤ (fc 33 j).toInt := by omega
            rcases c5 with c4 | c4 | c4
            · skip
              refine qy_TP.pre (ρ' := ρ ++ xs) (g' := zUT_u1s_dn1le.1) (w' := zUT_u1s_dn1le.2.1) (lo' := zUT_u1s_dn1le.2.2.1) (st' := zUT_u1s_dn1le.2.2.2) ?_ (hwC1 hc) (fun h => h.to xs [(53, 0, 29), (54, -2147483648, 2147483647), (55, -2147483648, -1), (56, -2147483648, 2147483647), (57, 0, 0), (58, -2147483648, 2147483647)] [((.ofNat 1), 22, (.negSucc 0), 53, (.ofNat 1)), ((.ofNat 1), 45, (.negSucc 0), 54, (.ofNat 0)), ((.ofNat 1), 56, (.negSucc 0), 58, (.ofNat 1))] (by decide +kernel) (by rw [hlx]; rfl) (by decide +kernel) (fa_ex xj (by omega) (by omega) (fa_ex xa (by have := q_i32bd (fc 34 j); omega) (by have := q_i32bd (fc 34 j); omega) (fa_ex xu (by have := q_i32bd (fc 35 j); omega) (by have := q_i32bd (fc 35 j); omega) (fa_ex xm (by have := q_i32bd (fc 32 j); omega) (by have := q_i32bd (fc 32 j); omega) (fa_ex xi (by have := q_i32bd (fc 33 j); omega) (by have := q_i32bd (fc 33 j); omega) (fa_ex xh (by have := q_i32bd (fc 30 (5 * v + (fc 31 j).toInt).toNat); omega) (by have := q_i32bd (fc 30 (5 * v + (fc 31 j).toInt).toNat); omega) fa_nil)))))) (fa_cons ⟨_, _, xs_, xj, by show (1 : Int) ≤ 1 * se + (-1) * (j : Int); omega⟩ (fa_cons ⟨_, _, xk, xa, by show (0 : Int) ≤ 1 * k + (-1) * (fc 34 j).toInt; omega⟩ (fa_cons ⟨_, _, xm, xh, by show (1 : Int) ≤ 1 * (fc 32 j).toInt + (-1) * (fc 30 (5 * v + (fc 31 j).toInt).toNat).toInt; omega⟩ fa_nil)))) (fun _ _ h => h.mono he) (fun _ h => h.mono he)
              refine qs_lnkB (p := 53) (ρ := ρ ++ xs) fa_nil hT hA zUg_u1dn1le (fa_cons (fun ρ1 ht1 hL hg1 _ => ⟨fun rv hrv => ?r0, fun q hq => ?c0⟩) fa_nil)
              case r0 =>
                have hrv : (Sum.inr _ : Option qV ⊕ (Nat × qL × List qV)) = Sum.inl rv := hrv
                cases hrv
              case c0 =>
                have hq : (Sum.inr _ : Option qV ⊕ (Nat × qL × List qV)) = Sum.inr q := hq
                cases hq
                have lj := (hL.n (i := 53) (d := 1) List.mem_cons_self xj)
                exact ih ρ1 (j + 1) (by rw [ht1, List.take_append_of_le_length (by omega)]; exact ht) (by rw [lj]; exact congrArg some (by omega)) (by omega) (fun i hi => by
                  rcases Nat.lt_or_ge i j with z | z
                  · exact hok i z
                  · have e : i = j := by omega
                    rw [e]
                    exact Or.inr (Or.inr (Or.inr ⟨c3, c4⟩)))
            · skip
              refine qy_TP.pre (ρ' := ρ ++ xs) (g' := zUT_u1s_dn1la.1) (w' := zUT_u1s_dn1la.2.1) (lo' := zUT_u1s_dn1la.2.2.1) (st' := zUT_u1s_dn1la.2.2.2) ?_ (hwC1 hc) (fun h => h.to xs [(53, 0, 29), (54, -2147483648, 2147483647), (55, -2147483648, -1), (56, -2147483648, 2147483647), (57, -2147483648, -1), (58, -2147483648, 2147483647)] [((.ofNat 1), 22, (.negSucc 0), 53, (.ofNat 1)), ((.ofNat 1), 45, (.negSucc 0), 54, (.ofNat 0)), ((.ofNat 1), 56, (.negSucc 0), 58, (.ofNat 1))] (by decide +kernel) (by rw [hlx]; rfl) (by decide +kernel) (fa_ex xj (by omega) (by omega) (fa_ex xa (by have := q_i32bd (fc 34 j); omega) (by have := q_i32bd (fc 34 j); omega) (fa_ex xu (by have := q_i32bd (fc 35 j); omega) (by have := q_i32bd (fc 35 j); omega) (fa_ex xm (by have := q_i32bd (fc 32 j); omega) (by have := q_i32bd (fc 32 j); omega) (fa_ex xi (by have := q_i32bd (fc 33 j); omega) (by have := q_i32bd (fc 33 j); omega) (fa_ex xh (by have := q_i32bd (fc 30 (5 * v + (fc 31 j).toInt).toNat); omega) (by have := q_i32bd (fc 30 (5 * v + (fc 31 j).toInt).toNat); omega) fa_nil)))))) (fa_cons ⟨_, _, xs_, xj, by show (1 : Int) ≤ 1 * se + (-1) * (j : Int); omega⟩ (fa_cons ⟨_, _, xk, xa, by show (0 : Int) ≤ 1 * k + (-1) * (fc 34 j).toInt; omega⟩ (fa_cons ⟨_, _, xm, xh, by show (1 : Int) ≤ 1 * (fc 32 j).toInt + (-1) * (fc 30 (5 * v + (fc 31 j).toInt).toNat).toInt; omega⟩ fa_nil)))) (fun _ _ h => h.mono he) (fun _ h => h.mono he)
              refine qs_lnkB (p := 53) (ρ := ρ ++ xs) fa_nil hT hA zUg_u1dn1la (fa_cons (fun ρ1 ht1 hL hg1 _ => ⟨fun rv hrv => ?r0, fun q hq => ?c0⟩) fa_nil)
              case r0 =>
                have hl1 : ρ1.length = 53 := hg1.len rfl
                refine ⟨rfl, ?_, Or.inr ⟨rfl, fun hF => ?_⟩⟩
                · rw [List.take_append_of_le_length (by omega), ht] at ht1
                  rw [← ht1, List.take_of_length_le (by omega)]
                · have hj2 := hF j (by omega)
                  unfold hs_ok at hj2
                  omega
              case c0 =>
                have hq : (Sum.inl _ : Option qV ⊕ (Nat × qL × List qV)) = Sum.inr q := hq
                cases hq
            · skip
              refine qy_TP.pre (ρ' := ρ ++ xs) (g' := zUT_u1s_dn1lb.1) (w' := zUT_u1s_dn1lb.2.1) (lo' := zUT_u1s_dn1lb.2.2.1) (st' := zUT_u1s_dn1lb.2.2.2) ?_ (hwC1 hc) (fun h => h.to xs [(53, 0, 29), (54, -2147483648, 2147483647), (55, -2147483648, -1), (56, -2147483648, 2147483647), (57, 1, 2147483647), (58, -2147483648, 2147483647)] [((.ofNat 1), 22, (.negSucc 0), 53, (.ofNat 1)), ((.ofNat 1), 45, (.negSucc 0), 54, (.ofNat 0)), ((.ofNat 1), 56, (.negSucc 0), 58, (.ofNat 1))] (by decide +kernel) (by rw [hlx]; rfl) (by decide +kernel) (fa_ex xj (by omega) (by omega) (fa_ex xa (by have := q_i32bd (fc 34 j); omega) (by have := q_i32bd (fc 34 j); omega) (fa_ex xu (by have := q_i32bd (fc 35 j); omega) (by have := q_i32bd (fc 35 j); omega) (fa_ex xm (by have := q_i32bd (fc 32 j); omega) (by have := q_i32bd (fc 32 j); omega) (fa_ex xi (by have := q_i32bd (fc 33 j); omega) (by have := q_i32bd (fc 33 j); omega) (fa_ex xh (by have := q_i32bd (fc 30 (5 * v + (fc 31 j).toInt).toNat); omega) (by have := q_i32bd (fc 30 (5 * v + (fc 31 j).toInt).toNat); omega) fa_nil)))))) (fa_cons ⟨_, _, xs_, xj, by show (1 : Int) ≤ 1 * se + (-1) * (j : Int); omega⟩ (fa_cons ⟨_, _, xk, xa, by show (0 : Int) ≤ 1 * k + (-1) * (fc 34 j).toInt; omega⟩ (fa_cons ⟨_, _, xm, xh, by show (1 : Int) ≤ 1 * (fc 32 j).toInt + (-1) * (fc 30 (5 * v + (fc 31 j).toInt).toNat).toInt; omega⟩ fa_nil)))) (fun _ _ h => h.mono he) (fun _ h => h.mono he)
              refine qs_lnkB (p := 53) (ρ := ρ ++ xs) fa_nil hT hA zUg_u1dn1lb (fa_cons (fun ρ1 ht1 hL hg1 _ => ⟨fun rv hrv => ?r0, fun q hq => ?c0⟩) fa_nil)
              case r0 =>
                have hl1 : ρ1.length = 53 := hg1.len rfl
                refine ⟨rfl, ?_, Or.inr ⟨rfl, fun hF => ?_⟩⟩
                · rw [List.take_append_of_le_length (by omega), ht] at ht1
                  rw [← ht1, List.take_of_length_le (by omega)]
                · have hj2 := hF j (by omega)
                  unfold hs_ok at hj2
                  omega
              case c0 =>
                have hq : (Sum.inl _ : Option qV ⊕ (Nat × qL × List qV)) = Sum.inr q := hq
                cases hq
          · have c5 : (fc 33 j).toInt = 1 ∨ (fc 33 j).toInt ≤ 0 ∨ 2 ≤ (fc 33 j).toInt := by omega
            rcases c5 with c4 | c4 | c4
            · skip
              refine qy_TP.pre (ρ' := ρ ++ xs) (g' := zUT_u1s_dn1ge.1) (w' := zUT_u1s_dn1ge.2.1) (lo' := zUT_u1s_dn1ge.2.2.1) (st' := zUT_u1s_dn1ge.2.2.2) ?_ (hwC1 hc) (fun h => h.to xs [(53, 0, 29), (54, -2147483648, 2147483647), (55, -2147483648, -1), (56, -2147483648, 2147483647), (57, 1, 1), (58, -2147483648, 2147483647)] [((.ofNat 1), 22, (.negSucc 0), 53, (.ofNat 1)), ((.ofNat 1), 45, (.negSucc 0), 54, (.ofNat 0)), ((.ofNat 1), 58, (.negSucc 0), 56, (.ofNat 0))] (by decide +kernel) (by rw [hlx]; rfl) (by decide +kernel) (fa_ex xj (by omega) (by omega) (fa_ex xa (by have := q_i32bd (fc 34 j); omega) (by have := q_i32bd (fc 34 j); omega) (fa_ex xu (by have := q_i32bd (fc 35 j); omega) (by have := q_i32bd (fc 35 j); omega) (fa_ex xm (by have := q_i32bd (fc 32 j); omega) (by have := q_i32bd (fc 32 j); omega) (fa_ex xi (by have := q_i32bd (fc 33 j); omega) (by have := q_i32bd (fc 33 j); omega) (fa_ex xh (by have := q_i32bd (fc 30 (5 * v + (fc 31 j).toInt).toNat); omega) (by have := q_i32bd (fc 30 (5 * v + (fc 31 j).toInt).toNat); omega) fa_nil)))))) (fa_cons ⟨_, _, xs_, xj, by show (1 : Int) ≤ 1 * se + (-1) * (j : Int); omega⟩ (fa_cons ⟨_, _, xk, xa, by show (0 : Int) ≤ 1 * k + (-1) * (fc 34 j).toInt; omega⟩ (fa_cons ⟨_, _, xh, xm, by show (0 : Int) ≤ 1 * (fc 30 (5 * v + (fc 31 j).toInt).toNat).toInt + (-1) * (fc 32 j).toInt; omega⟩ fa_nil)))) (fun _ _ h => h.mono he) (fun _ h => h.mono he)
              refine qs_lnkB (p := 53) (ρ := ρ ++ xs) fa_nil hT hA zUg_u1dn1ge (fa_cons (fun ρ1 ht1 hL hg1 _ => ⟨fun rv hrv => ?r0, fun q hq => ?c0⟩) fa_nil)
              case r0 =>
                have hrv : (Sum.inr _ : Option qV ⊕ (Nat × qL × List qV)) = Sum.inl rv := hrv
                cases hrv
              case c0 =>
                have hq : (Sum.inr _ : Option qV ⊕ (Nat × qL × List qV)) = Sum.inr q := hq
                cases hq
                have lj := (hL.n (i := 53) (d := 1) List.mem_cons_self xj)
                exact ih ρ1 (j + 1) (by rw [ht1, List.take_append_of_le_length (by omega)]; exact ht) (by rw [lj]; exact congrArg some (by omega)) (by omega) (fun i hi => by
                  rcases Nat.lt_or_ge i j with z | z
                  · exact hok i z
                  · have e : i = j := by omega
                    rw [e]
                    exact Or.inr (Or.inr (Or.inl ⟨c3, c4⟩)))
            · skip
              refine qy_TP.pre (ρ' := ρ ++ xs) (g' := zUT_u1s_dn1ga.1) (w' := zUT_u1s_dn1ga.2.1) (lo' := zUT_u1s_dn1ga.2.2.1) (st' := zUT_u1s_dn1ga.2.2.2) ?_ (hwC1 hc) (fun h => h.to xs [(53, 0, 29), (54, -2147483648, 2147483647), (55, -2147483648, -1), (56, -2147483648, 2147483647), (57, -2147483648, 0), (58, -2147483648, 2147483647)] [((.ofNat 1), 22, (.negSucc 0), 53, (.ofNat 1)), ((.ofNat 1), 45, (.negSucc 0), 54, (.ofNat 0)), ((.ofNat 1), 58, (.negSucc 0), 56, (.ofNat 0))] (by decide +kernel) (by rw [hlx]; rfl) (by decide +kernel) (fa_ex xj (by omega) (by omega) (fa_ex xa (by have := q_i32bd (fc 34 j); omega) (by have := q_i32bd (fc 34 j); omega) (fa_ex xu (by have := q_i32bd (fc 35 j); omega) (by have := q_i32bd (fc 35 j); omega) (fa_ex xm (by have := q_i32bd (fc 32 j); omega) (by have := q_i32bd (fc 32 j); omega) (fa_ex xi (by have := q_i32bd (fc 33 j); omega) (by have := q_i32bd (fc 33 j); omega) (fa_ex xh (by have := q_i32bd (fc 30 (5 * v + (fc 31 j).toInt).toNat); omega) (by have := q_i32bd (fc 30 (5 * v + (fc 31 j).toInt).toNat); omega) fa_nil)))))) (fa_cons ⟨_, _, xs_, xj, by show (1 : Int) ≤ 1 * se + (-1) * (j : Int); omega⟩ (fa_cons ⟨_, _, xk, xa, by show (0 : Int) ≤ 1 * k + (-1) * (fc 34 j).toInt; omega⟩ (fa_cons ⟨_, _, xh, xm, by show (0 : Int) ≤ 1 * (fc 30 (5 * v + (fc 31 j).toInt).toNat).toInt + (-1) * (fc 32 j).toInt; omega⟩ fa_nil)))) (fun _ _ h => h.mono he) (fun _ h => h.mono he)
              refine qs_lnkB (p := 53) (ρ := ρ ++ xs) fa_nil hT hA zUg_u1dn1ga (fa_cons (fun ρ1 ht1 hL hg1 _ => ⟨fun rv hrv => ?r0, fun q hq => ?c0⟩) fa_nil)
              case r0 =>
                have hl1 : ρ1.length = 53 := hg1.len rfl
                refine ⟨rfl, ?_, Or.inr ⟨rfl, fun hF => ?_⟩⟩
                · rw [List.take_append_of_le_length (by omega), ht] at ht1
                  rw [← ht1, List.take_of_length_le (by omega)]
                · have hj2 := hF j (by omega)
                  unfold hs_ok at hj2
                  omega
              case c0 =>
                have hq : (Sum.inl _ : Option qV ⊕ (Nat × qL × List qV)) = Sum.inr q := hq
                cases hq
            · skip
              refine qy_TP.pre (ρ' := ρ ++ xs) (g' := zUT_u1s_dn1gb.1) (w' := zUT_u1s_dn1gb.2.1) (lo' := zUT_u1s_dn1gb.2.2.1) (st' := zUT_u1s_dn1gb.2.2.2) ?_ (hwC1 hc) (fun h => h.to xs [(53, 0, 29), (54, -2147483648, 2147483647), (55, -2147483648, -1), (56, -2147483648, 2147483647), (57, 2, 2147483647), (58, -2147483648, 2147483647)] [((.ofNat 1), 22, (.negSucc 0), 53, (.ofNat 1)), ((.ofNat 1), 45, (.negSucc 0), 54, (.ofNat 0)), ((.ofNat 1), 58, (.negSucc 0), 56, (.ofNat 0))] (by decide +kernel) (by rw [hlx]; rfl) (by decide +kernel) (fa_ex xj (by omega) (by omega) (fa_ex xa (by have := q_i32bd (fc 34 j); omega) (by have := q_i32bd (fc 34 j); omega) (fa_ex xu (by have := q_i32bd (fc 35 j); omega) (by have := q_i32bd (fc 35 j); omega) (fa_ex xm (by have := q_i32bd (fc 32 j); omega) (by have := q_i32bd (fc 32 j); omega) (fa_ex xi (by have := q_i32bd (fc 33 j); omega) (by have := q_i32bd (fc 33 j); omega) (fa_ex xh (by have := q_i32bd (fc 30 (5 * v + (fc 31 j).toInt).toNat); omega) (by have := q_i32bd (fc 30 (5 * v + (fc 31 j).toInt).toNat); omega) fa_nil)))))) (fa_cons ⟨_, _, xs_, xj, by show (1 : Int) ≤ 1 * se + (-1) * (j : Int); omega⟩ (fa_cons ⟨_, _, xk, xa, by show (0 : Int) ≤ 1 * k + (-1) * (fc 34 j).toInt; omega⟩ (fa_cons ⟨_, _, xh, xm, by show (0 : Int) ≤ 1 * (fc 30 (5 * v + (fc 31 j).toInt).toNat).toInt + (-1) * (fc 32 j).toInt; omega⟩ fa_nil)))) (fun _ _ h => h.mono he) (fun _ h => h.mono he)
              refine qs_lnkB (p := 53) (ρ := ρ ++ xs) fa_nil hT hA zUg_u1dn1gb (fa_cons (fun ρ1 ht1 hL hg1 _ => ⟨fun rv hrv => ?r0, fun q hq => ?c0⟩) fa_nil)
              case r0 =>
                have hl1 : ρ1.length = 53 := hg1.len rfl
                refine ⟨rfl, ?_, Or.inr ⟨rfl, fun hF => ?_⟩⟩
                · rw [List.take_append_of_le_length (by omega), ht] at ht1
                  rw [← ht1, List.take_of_length_le (by omega)]
                · have hj2 := hF j (by omega)
                  unfold hs_ok at hj2
                  omega
              case c0 =>
                have hq : (Sum.inl _ : Option qV ⊕ (Nat × qL × List qV)) = Sum.inr q := hq
                cases hq
        · rcases Int.lt_or_le (fc 30 (5 * v + (fc 31 j).toInt).toNat).toInt (fc 32 j).toInt with c3 | c3
          · have c5 : (fc 33 j).toInt = 0 ∨ (fc 33 j).toInt ≤ -1 ∨ 1 ≤ (fc 33 j).toInt := by omega
            rcases c5 with c4 | c4 | c4
            · skip
              refine qy_TP.pre (ρ' := ρ ++ xs) (g' := zUT_u1s_dn2le.1) (w' := zUT_u1s_dn2le.2.1) (lo' := zUT_u1s_dn2le.2.2.1) (st' := zUT_u1s_dn2le.2.2.2) ?_ (hwC2 hc) (fun h => h.to xs [(53, 0, 29), (54, -2147483648, 2147483647), (55, -2147483648, -1), (56, -2147483648, 2147483647), (57, 0, 0), (58, -2147483648, 2147483647)] [((.ofNat 1), 22, (.negSucc 0), 53, (.ofNat 1)), ((.ofNat 1), 45, (.negSucc 0), 54, (.ofNat 0)), ((.ofNat 1), 56, (.negSucc 0), 58, (.ofNat 1))] (by decide +kernel) (by rw [hlx]; rfl) (by decide +kernel) (fa_ex xj (by omega) (by omega) (fa_ex xa (by have := q_i32bd (fc 34 j); omega) (by have := q_i32bd (fc 34 j); omega) (fa_ex xu (by have := q_i32bd (fc 35 j); omega) (by have := q_i32bd (fc 35 j); omega) (fa_ex xm (by have := q_i32bd (fc 32 j); omega) (by have := q_i32bd (fc 32 j); omega) (fa_ex xi (by have := q_i32bd (fc 33 j); omega) (by have := q_i32bd (fc 33 j); omega) (fa_ex xh (by have := q_i32bd (fc 30 (5 * v + (fc 31 j).toInt).toNat); omega) (by have := q_i32bd (fc 30 (5 * v + (fc 31 j).toInt).toNat); omega) fa_nil)))))) (fa_cons ⟨_, _, xs_, xj, by show (1 : Int) ≤ 1 * se + (-1) * (j : Int); omega⟩ (fa_cons ⟨_, _, xk, xa, by show (0 : Int) ≤ 1 * k + (-1) * (fc 34 j).toInt; omega⟩ (fa_cons ⟨_, _, xm, xh, by show (1 : Int) ≤ 1 * (fc 32 j).toInt + (-1) * (fc 30 (5 * v + (fc 31 j).toInt).toNat).toInt; omega⟩ fa_nil)))) (fun _ _ h => h.mono he) (fun _ h => h.mono he)
              refine qs_lnkB (p := 53) (ρ := ρ ++ xs) fa_nil hT hA zUg_u1dn2le (fa_cons (fun ρ1 ht1 hL hg1 _ => ⟨fun rv hrv => ?r0, fun q hq => ?c0⟩) fa_nil)
              case r0 =>
                have hrv : (Sum.inr _ : Option qV ⊕ (Nat × qL × List qV)) = Sum.inl rv := hrv
                cases hrv
              case c0 =>
                have hq : (Sum.inr _ : Option qV ⊕ (Nat × qL × List qV)) = Sum.inr q := hq
                cases hq
                have lj := (hL.n (i := 53) (d := 1) List.mem_cons_self xj)
                exact ih ρ1 (j + 1) (by rw [ht1, List.take_append_of_le_length (by omega)]; exact ht) (by rw [lj]; exact congrArg some (by omega)) (by omega) (fun i hi => by
                  rcases Nat.lt_or_ge i j with z | z
                  · exact hok i z
                  · have e : i = j := by omega
                    rw [e]
                    exact Or.inr (Or.inr (Or.inr ⟨c3, c4⟩)))
            · skip
              refine qy_TP.pre (ρ' := ρ ++ xs) (g' := zUT_u1s_dn2la.1) (w' := zUT_u1s_dn2la.2.1) (lo' := zUT_u1s_dn2la.2.2.1) (st' := zUT_u1s_dn2la.2.2.2) ?_ (hwC2 hc) (fun h => h.to xs [(53, 0, 29), (54, -2147483648, 2147483647), (55, -2147483648, -1), (56, -2147483648, 2147483647), (57, -2147483648, -1), (58, -2147483648, 2147483647)] [((.ofNat 1), 22, (.negSucc 0), 53, (.ofNat 1)), ((.ofNat 1), 45, (.negSucc 0), 54, (.ofNat 0)), ((.ofNat 1), 56, (.negSucc 0), 58, (.ofNat 1))] (by decide +kernel) (by rw [hlx]; rfl) (by decide +kernel) (fa_ex xj (by omega) (by omega) (fa_ex xa (by have := q_i32bd (fc 34 j); omega) (by have := q_i32bd (fc 34 j); omega) (fa_ex xu (by have := q_i32bd (fc 35 j); omega) (by have := q_i32bd (fc 35 j); omega) (fa_ex xm (by have := q_i32bd (fc 32 j); omega) (by have := q_i32bd (fc 32 j); omega) (fa_ex xi (by have := q_i32bd (fc 33 j); omega) (by have := q_i32bd (fc 33 j); omega) (fa_ex xh (by have := q_i32bd (fc 30 (5 * v + (fc 31 j).toInt).toNat); omega) (by have := q_i32bd (fc 30 (5 * v + (fc 31 j).toInt).toNat); omega) fa_nil)))))) (fa_cons ⟨_, _, xs_, xj, by show (1 : Int) ≤ 1 * se + (-1) * (j : Int); omega⟩ (fa_cons ⟨_, _, xk, xa, by show (0 : Int) ≤ 1 * k + (-1) * (fc 34 j).toInt; omega⟩ (fa_cons ⟨_, _, xm, xh, by show (1 : Int) ≤ 1 * (fc 32 j).toInt + (-1) * (fc 30 (5 * v + (fc 31 j).toInt).toNat).toInt; omega⟩ fa_nil)))) (fun _ _ h => h.mono he) (fun _ h => h.mono he)
              refine qs_lnkB (p := 53) (ρ := ρ ++ xs) fa_nil hT hA zUg_u1dn2la (fa_cons (fun ρ1 ht1 hL hg1 _ => ⟨fun rv hrv => ?r0, fun q hq => ?c0⟩) fa_nil)
              case r0 =>
                have hl1 : ρ1.length = 53 := hg1.len rfl
                refine ⟨rfl, ?_, Or.inr ⟨rfl, fun hF => ?_⟩⟩
                · rw [List.take_append_of_le_length (by omega), ht] at ht1
                  rw [← ht1, List.take_of_length_le (by omega)]
                · have hj2 := hF j (by omega)
                  unfold hs_ok at hj2
                  omega
              case c0 =>
                have hq : (Sum.inl _ : Option qV ⊕ (Nat × qL × List qV)) = Sum.inr q := hq
                cases hq
            · skip
              refine qy_TP.pre (ρ' := ρ ++ xs) (g' := zUT_u1s_dn2lb.1) (w' := zUT_u1s_dn2lb.2.1) (lo' := zUT_u1s_dn2lb.2.2.1) (st' := zUT_u1s_dn2lb.2.2.2) ?_ (hwC2 hc) (fun h => h.to xs [(53, 0, 29), (54, -2147483648, 2147483647), (55, -2147483648, -1), (56, -2147483648, 2147483647), (57, 1, 2147483647), (58, -2147483648, 2147483647)] [((.ofNat 1), 22, (.negSucc 0), 53, (.ofNat 1)), ((.ofNat 1), 45, (.negSucc 0), 54, (.ofNat 0)), ((.ofNat 1), 56, (.negSucc 0), 58, (.ofNat 1))] (by decide +kernel) (by rw [hlx]; rfl) (by decide +kernel) (fa_ex xj (by omega) (by omega) (fa_ex xa (by have := q_i32bd (fc 34 j); omega) (by have := q_i32bd (fc 34 j); omega) (fa_ex xu (by have := q_i32bd (fc 35 j); omega) (by have := q_i32bd (fc 35 j); omega) (fa_ex xm (by have := q_i32bd (fc 32 j); omega) (by have := q_i32bd (fc 32 j); omega) (fa_ex xi (by have := q_i32bd (fc 33 j); omega) (by have := q_i32bd (fc 33 j); omega) (fa_ex xh (by have := q_i32bd (fc 30 (5 * v + (fc 31 j).toInt).toNat); omega) (by have := q_i32bd (fc 30 (5 * v + (fc 31 j).toInt).toNat); omega) fa_nil)))))) (fa_cons ⟨_, _, xs_, xj, by show (1 : Int) ≤ 1 * se + (-1) * (j : Int); omega⟩ (fa_cons ⟨_, _, xk, xa, by show (0 : Int) ≤ 1 * k + (-1) * (fc 34 j).toInt; omega⟩ (fa_cons ⟨_, _, xm, xh, by show (1 : Int) ≤ 1 * (fc 32 j).toInt + (-1) * (fc 30 (5 * v + (fc 31 j).toInt).toNat).toInt; omega⟩ fa_nil)))) (fun _ _ h => h.mono he) (fun _ h => h.mono he)
              refine qs_lnkB (p := 53) (ρ := ρ ++ xs) fa_nil hT hA zUg_u1dn2lb (fa_cons (fun ρ1 ht1 hL hg1 _ => ⟨fun rv hrv => ?r0, fun q hq => ?c0⟩) fa_nil)
              case r0 =>
                have hl1 : ρ1.length = 53 := hg1.len rfl
                refine ⟨rfl, ?_, Or.inr ⟨rfl, fun hF => ?_⟩⟩
                · rw [List.take_append_of_le_length (by omega), ht] at ht1
                  rw [← ht1, List.take_of_length_le (by omega)]
                · have hj2 := hF j (by omega)
                  unfold hs_ok at hj2
                  omega
              case c0 =>
                have hq : (Sum.inl _ : Option qV ⊕ (Nat × qL × List qV)) = Sum.inr q := hq
                cases hq
          · have c5 : (fc 33 j).toInt = 1 ∨ (fc 33 j).toInt ≤ 0 ∨ 2 ≤ (fc 33 j).toInt := by omega
            rcases c5 with c4 | c4 | c4
            · skip
              refine qy_TP.pre (ρ' := ρ ++ xs) (g' := zUT_u1s_dn2ge.1) (w' := zUT_u1s_dn2ge.2.1) (lo' := zUT_u1s_dn2ge.2.2.1) (st' := zUT_u1s_dn2ge.2.2.2) ?_ (hwC2 hc) (fun h => h.to xs [(53, 0, 29), (54, -2147483648, 2147483647), (55, -2147483648, -1), (56, -2147483648, 2147483647), (57, 1, 1), (58, -2147483648, 2147483647)] [((.ofNat 1), 22, (.negSucc 0), 53, (.ofNat 1)), ((.ofNat 1), 45, (.negSucc 0), 54, (.ofNat 0)), ((.ofNat 1), 58, (.negSucc 0), 56, (.ofNat 0))] (by decide +kernel) (by rw [hlx]; rfl) (by decide +kernel) (fa_ex xj (by omega) (by omega) (fa_ex xa (by have := q_i32bd (fc 34 j); omega) (by have := q_i32bd (fc 34 j); omega) (fa_ex xu (by have := q_i32bd (fc 35 j); omega) (by have := q_i32bd (fc 35 j); omega) (fa_ex xm (by have := q_i32bd (fc 32 j); omega) (by have := q_i32bd (fc 32 j); omega) (fa_ex xi (by have := q_i32bd (fc 33 j); omega) (by have := q_i32bd (fc 33 j); omega) (fa_ex xh (by have := q_i32bd (fc 30 (5 * v + (fc 31 j).toInt).toNat); omega) (by have := q_i32bd (fc 30 (5 * v + (fc 31 j).toInt).toNat); omega) fa_nil)))))) (fa_cons ⟨_, _, xs_, xj, by show (1 : Int) ≤ 1 * se + (-1) * (j : Int); omega⟩ (fa_cons ⟨_, _, xk, xa, by show (0 : Int) ≤ 1 * k + (-1) * (fc 34 j).toInt; omega⟩ (fa_cons ⟨_, _, xh, xm, by show (0 : Int) ≤ 1 * (fc 30 (5 * v + (fc 31 j).toInt).toNat).toInt + (-1) * (fc 32 j).toInt; omega⟩ fa_nil)))) (fun _ _ h => h.mono he) (fun _ h => h.mono he)
              refine qs_lnkB (p := 53) (ρ := ρ ++ xs) fa_nil hT hA zUg_u1dn2ge (fa_cons (fun ρ1 ht1 hL hg1 _ => ⟨fun rv hrv => ?r0, fun q hq => ?c0⟩) fa_nil)
              case r0 =>
                have hrv : (Sum.inr _ : Option qV ⊕ (Nat × qL × List qV)) = Sum.inl rv := hrv
                cases hrv
              case c0 =>
                have hq : (Sum.inr _ : Option qV ⊕ (Nat × qL × List qV)) = Sum.inr q := hq
                cases hq
                have lj := (hL.n (i := 53) (d := 1) List.mem_cons_self xj)
                exact ih ρ1 (j + 1) (by rw [ht1, List.take_append_of_le_length (by omega)]; exact ht) (by rw [lj]; exact congrArg some (by omega)) (by omega) (fun i hi => by
                  rcases Nat.lt_or_ge i j with z | z
                  · exact hok i z
                  · have e : i = j := by omega
                    rw [e]
                    exact Or.inr (Or.inr (Or.inl ⟨c3, c4⟩)))
            · skip
              refine qy_TP.pre (ρ' := ρ ++ xs) (g' := zUT_u1s_dn2ga.1) (w' := zUT_u1s_dn2ga.2.1) (lo' := zUT_u1s_dn2ga.2.2.1) (st' := zUT_u1s_dn2ga.2.2.2) ?_ (hwC2 hc) (fun h => h.to xs [(53, 0, 29), (54, -2147483648, 2147483647), (55, -2147483648, -1), (56, -2147483648, 2147483647), (57, -2147483648, 0), (58, -2147483648, 2147483647)] [((.ofNat 1), 22, (.negSucc 0), 53, (.ofNat 1)), ((.ofNat 1), 45, (.negSucc 0), 54, (.ofNat 0)), ((.ofNat 1), 58, (.negSucc 0), 56, (.ofNat 0))] (by decide +kernel) (by rw [hlx]; rfl) (by decide +kernel) (fa_ex xj (by omega) (by omega) (fa_ex xa (by have := q_i32bd (fc 34 j); omega) (by have := q_i32bd (fc 34 j); omega) (fa_ex xu (by have := q_i32bd (fc 35 j); omega) (by have := q_i32bd (fc 35 j); omega) (fa_ex xm (by have := q_i32bd (fc 32 j); omega) (by have := q_i32bd (fc 32 j); omega) (fa_ex xi (by have := q_i32bd (fc 33 j); omega) (by have := q_i32bd (fc 33 j); omega) (fa_ex xh (by have := q_i32bd (fc 30 (5 * v + (fc 31 j).toInt).toNat); omega) (by have := q_i32bd (fc 30 (5 * v + (fc 31 j).toInt).toNat); omega) fa_nil)))))) (fa_cons ⟨_, _, xs_, xj, by show (1 : Int) ≤ 1 * se + (-1) * (j : Int); omega⟩ (fa_cons ⟨_, _, xk, xa, by show (0 : Int) ≤ 1 * k + (-1) * (fc 34 j).toInt; omega⟩ (fa_cons ⟨_, _, xh, xm, by show (0 : Int) ≤ 1 * (fc 30 (5 * v + (fc 31 j).toInt).toNat).toInt + (-1) * (fc 32 j).toInt; omega⟩ fa_nil)))) (fun _ _ h => h.mono he) (fun _ h => h.mono he)
              refine qs_lnkB (p := 53) (ρ := ρ ++ xs) fa_nil hT hA zUg_u1dn2ga (fa_cons (fun ρ1 ht1 hL hg1 _ => ⟨fun rv hrv => ?r0, fun q hq => ?c0⟩) fa_nil)
              case r0 =>
                have hl1 : ρ1.length = 53 := hg1.len rfl
                refine ⟨rfl, ?_, Or.inr ⟨rfl, fun hF => ?_⟩⟩
                · rw [List.take_append_of_le_length (by omega), ht] at ht1
                  rw [← ht1, List.take_of_length_le (by omega)]
                · have hj2 := hF j (by omega)
                  unfold hs_ok at hj2
                  omega
              case c0 =>
                have hq : (Sum.inl _ : Option qV ⊕ (Nat × qL × List qV)) = Sum.inr q := hq
                cases hq
            · skip
              refine qy_TP.pre (ρ' := ρ ++ xs) (g' := zUT_u1s_dn2gb.1) (w' := zUT_u1s_dn2gb.2.1) (lo' := zUT_u1s_dn2gb.2.2.1) (st' := zUT_u1s_dn2gb.2.2.2) ?_ (hwC2 hc) (fun h => h.to xs [(53, 0, 29), (54, -2147483648, 2147483647), (55, -2147483648, -1), (56, -2147483648, 2147483647), (57, 2, 2147483647), (58, -2147483648, 2147483647)] [((.ofNat 1), 22, (.negSucc 0), 53, (.ofNat 1)), ((.ofNat 1), 45, (.negSucc 0), 54, (.ofNat 0)), ((.ofNat 1), 58, (.negSucc 0), 56, (.ofNat 0))] (by decide +kernel) (by rw [hlx]; rfl) (by decide +kernel) (fa_ex xj (by omega) (by omega) (fa_ex xa (by have := q_i32bd (fc 34 j); omega) (by have := q_i32bd (fc 34 j); omega) (fa_ex xu (by have := q_i32bd (fc 35 j); omega) (by have := q_i32bd (fc 35 j); omega) (fa_ex xm (by have := q_i32bd (fc 32 j); omega) (by have := q_i32bd (fc 32 j); omega) (fa_ex xi (by have := q_i32bd (fc 33 j); omega) (by have := q_i32bd (fc 33 j); omega) (fa_ex xh (by have := q_i32bd (fc 30 (5 * v + (fc 31 j).toInt).toNat); omega) (by have := q_i32bd (fc 30 (5 * v + (fc 31 j).toInt).toNat); omega) fa_nil)))))) (fa_cons ⟨_, _, xs_, xj, by show (1 : Int) ≤ 1 * se + (-1) * (j : Int); omega⟩ (fa_cons ⟨_, _, xk, xa, by show (0 : Int) ≤ 1 * k + (-1) * (fc 34 j).toInt; omega⟩ (fa_cons ⟨_, _, xh, xm, by show (0 : Int) ≤ 1 * (fc 30 (5 * v + (fc 31 j).toInt).toNat).toInt + (-1) * (fc 32 j).toInt; omega⟩ fa_nil)))) (fun _ _ h => h.mono he) (fun _ h => h.mono he)
              refine qs_lnkB (p := 53) (ρ := ρ ++ xs) fa_nil hT hA zUg_u1dn2gb (fa_cons (fun ρ1 ht1 hL hg1 _ => ⟨fun rv hrv => ?r0, fun q hq => ?c0⟩) fa_nil)
              case r0 =>
                have hl1 : ρ1.length = 53 := hg1.len rfl
                refine ⟨rfl, ?_, Or.inr ⟨rfl, fun hF => ?_⟩⟩
                · rw [List.take_append_of_le_length (by omega), ht] at ht1
                  rw [← ht1, List.take_of_length_le (by omega)]
                · have hj2 := hF j (by omega)
                  unfold hs_ok at hj2
                  omega
              case c0 =>
                have hq : (Sum.inl _ : Option qV ⊕ (Nat × qL × List qV)) = Sum.inr q := hq
                cases hq
        · rcases Int.lt_or_le (fc 30 (5 * v + (fc 31 j).toInt).toNat).toInt (fc 32 j).toInt with c3 | c3
          · have c5 : (fc 33 j).toInt = 0 ∨ (fc 33 j).toInt ≤ -1 ∨ 1 ≤ (fc 33 j).toInt := by omega
            rcases c5 with c4 | c4 | c4
            · skip
              refine qy_TP.pre (ρ' := ρ ++ xs) (g' := zUT_u1s_dn3le.1) (w' := zUT_u1s_dn3le.2.1) (lo' := zUT_u1s_dn3le.2.2.1) (st' := zUT_u1s_dn3le.2.2.2) ?_ (hwC3 hc) (fun h => h.to xs [(53, 0, 29), (54, -2147483648, 2147483647), (55, -2147483648, -1), (56, -2147483648, 2147483647), (57, 0, 0), (58, -2147483648, 2147483647)] [((.ofNat 1), 22, (.negSucc 0), 53, (.ofNat 1)), ((.ofNat 1), 45, (.negSucc 0), 54, (.ofNat 0)), ((.ofNat 1), 56, (.negSucc 0), 58, (.ofNat 1))] (by decide +kernel) (by rw [hlx]; rfl) (by decide +kernel) (fa_ex xj (by omega) (by omega) (fa_ex xa (by have := q_i32bd (fc 34 j); omega) (by have := q_i32bd (fc 34 j); omega) (fa_ex xu (by have := q_i32bd (fc 35 j); omega) (by have := q_i32bd (fc 35 j); omega) (fa_ex xm (by have := q_i32bd (fc 32 j); omega) (by have := q_i32bd (fc 32 j); omega) (fa_ex xi (by have := q_i32bd (fc 33 j); omega) (by have := q_i32bd (fc 33 j); omega) (fa_ex xh (by have := q_i32bd (fc 30 (5 * v + (fc 31 j).toInt).toNat); omega) (by have := q_i32bd (fc 30 (5 * v + (fc 31 j).toInt).toNat); omega) fa_nil)))))) (fa_cons ⟨_, _, xs_, xj, by show (1 : Int) ≤ 1 * se + (-1) * (j : Int); omega⟩ (fa_cons ⟨_, _, xk, xa, by show (0 : Int) ≤ 1 * k + (-1) * (fc 34 j).toInt; omega⟩ (fa_cons ⟨_, _, xm, xh, by show (1 : Int) ≤ 1 * (fc 32 j).toInt + (-1) * (fc 30 (5 * v + (fc 31 j).toInt).toNat).toInt; omega⟩ fa_nil)))) (fun _ _ h => h.mono he) (fun _ h => h.mono he)
              refine qs_lnkB (p := 53) (ρ := ρ ++ xs) fa_nil hT hA zUg_u1dn3le (fa_cons (fun ρ1 ht1 hL hg1 _ => ⟨fun rv hrv => ?r0, fun q hq => ?c0⟩) fa_nil)
              case r0 =>
                have hrv : (Sum.inr _ : Option qV ⊕ (Nat × qL × List qV)) = Sum.inl rv := hrv
                cases hrv
              case c0 =>
                have hq : (Sum.inr _ : Option qV ⊕ (Nat × qL × List qV)) = Sum.inr q := hq
                cases hq
                have lj := (hL.n (i := 53) (d := 1) List.mem_cons_self xj)
                exact ih ρ1 (j + 1) (by rw [ht1, List.take_append_of_le_length (by omega)]; exact ht) (by rw [lj]; exact congrArg some (by omega)) (by omega) (fun i hi => by
                  rcases Nat.lt_or_ge i j with z | z
                  · exact hok i z
                  · have e : i = j := by omega
                    rw [e]
                    exact Or.inr (Or.inr (Or.inr ⟨c3, c4⟩)))
            · skip
              refine qy_TP.pre (ρ' := ρ ++ xs) (g' := zUT_u1s_dn3la.1) (w' := zUT_u1s_dn3la.2.1) (lo' := zUT_u1s_dn3la.2.2.1) (st' := zUT_u1s_dn3la.2.2.2) ?_ (hwC3 hc) (fun h => h.to xs [(53, 0, 29), (54, -2147483648, 2147483647), (55, -2147483648, -1), (56, -2147483648, 2147483647), (57, -2147483648, -1), (58, -2147483648, 2147483647)] [((.ofNat 1), 22, (.negSucc 0), 53, (.ofNat 1)), ((.ofNat 1), 45, (.negSucc 0), 54, (.ofNat 0)), ((.ofNat 1), 56, (.negSucc 0), 58, (.ofNat 1))] (by decide +kernel) (by rw [hlx]; rfl) (by decide +kernel) (fa_ex xj (by omega) (by omega) (fa_ex xa (by have := q_i32bd (fc 34 j); omega) (by have := q_i32bd (fc 34 j); omega) (fa_ex xu (by have := q_i32bd (fc 35 j); omega) (by have := q_i32bd (fc 35 j); omega) (fa_ex xm (by have := q_i32bd (fc 32 j); omega) (by have := q_i32bd (fc 32 j); omega) (fa_ex xi (by have := q_i32bd (fc 33 j); omega) (by have := q_i32bd (fc 33 j); omega) (fa_ex xh (by have := q_i32bd (fc 30 (5 * v + (fc 31 j).toInt).toNat); omega) (by have := q_i32bd (fc 30 (5 * v + (fc 31 j).toInt).toNat); omega) fa_nil)))))) (fa_cons ⟨_, _, xs_, xj, by show (1 : Int) ≤ 1 * se + (-1) * (j : Int); omega⟩ (fa_cons ⟨_, _, xk, xa, by show (0 : Int) ≤ 1 * k + (-1) * (fc 34 j).toInt; omega⟩ (fa_cons ⟨_, _, xm, xh, by show (1 : Int) ≤ 1 * (fc 32 j).toInt + (-1) * (fc 30 (5 * v + (fc 31 j).toInt).toNat).toInt; omega⟩ fa_nil)))) (fun _ _ h => h.mono he) (fun _ h => h.mono he)
              refine qs_lnkB (p := 53) (ρ := ρ ++ xs) fa_nil hT hA zUg_u1dn3la (fa_cons (fun ρ1 ht1 hL hg1 _ => ⟨fun rv hrv => ?r0, fun q hq => ?c0⟩) fa_nil)
              case r0 =>
                have hl1 : ρ1.length = 53 := hg1.len rfl
                refine ⟨rfl, ?_, Or.inr ⟨rfl, fun hF => ?_⟩⟩
                · rw [List.take_append_of_le_length (by omega), ht] at ht1
                  rw [← ht1, List.take_of_length_le (by omega)]
                · have hj2 := hF j (by omega)
                  unfold hs_ok at hj2
                  omega
              case c0 =>
                have hq : (Sum.inl _ : Option qV ⊕ (Nat × qL × List qV)) = Sum.inr q := hq
                cases hq
            · skip
              refine qy_TP.pre (ρ' := ρ ++ xs) (g' := zUT_u1s_dn3lb.1) (w' := zUT_u1s_dn3lb.2.1) (lo' := zUT_u1s_dn3lb.2.2.1) (st' := zUT_u1s_dn3lb.2.2.2) ?_ (hwC3 hc) (fun h => h.to xs [(53, 0, 29), (54, -2147483648, 2147483647), (55, -2147483648, -1), (56, -2147483648, 2147483647), (57, 1, 2147483647), (58, -2147483648, 2147483647)] [((.ofNat 1), 22, (.negSucc 0), 53, (.ofNat 1)), ((.ofNat 1), 45, (.negSucc 0), 54, (.ofNat 0)), ((.ofNat 1), 56, (.negSucc 0), 58, (.ofNat 1))] (by decide +kernel) (by rw [hlx]; rfl) (by decide +kernel) (fa_ex xj (by omega) (by omega) (fa_ex xa (by have := q_i32bd (fc 34 j); omega) (by have := q_i32bd (fc 34 j); omega) (fa_ex xu (by have := q_i32bd (fc 35 j); omega) (by have := q_i32bd (fc 35 j); omega) (fa_ex xm (by have := q_i32bd (fc 32 j); omega) (by have := q_i32bd (fc 32 j); omega) (fa_ex xi (by have := q_i32bd (fc 33 j); omega) (by have := q_i32bd (fc 33 j); omega) (fa_ex xh (by have := q_i32bd (fc 30 (5 * v + (fc 31 j).toInt).toNat); omega) (by have := q_i32bd (fc 30 (5 * v + (fc 31 j).toInt).toNat); omega) fa_nil)))))) (fa_cons ⟨_, _, xs_, xj, by show (1 : Int) ≤ 1 * se + (-1) * (j : Int); omega⟩ (fa_cons ⟨_, _, xk, xa, by show (0 : Int) ≤ 1 * k + (-1) * (fc 34 j).toInt; omega⟩ (fa_cons ⟨_, _, xm, xh, by show (1 : Int) ≤ 1 * (fc 32 j).toInt + (-1) * (fc 30 (5 * v + (fc 31 j).toInt).toNat).toInt; omega⟩ fa_nil)))) (fun _ _ h => h.mono he) (fun _ h => h.mono he)
              refine qs_lnkB (p := 53) (ρ := ρ ++ xs) fa_nil hT hA zUg_u1dn3lb (fa_cons (fun ρ1 ht1 hL hg1 _ => ⟨fun rv hrv => ?r0, fun q hq => ?c0⟩) fa_nil)
              case r0 =>
                have hl1 : ρ1.length = 53 := hg1.len rfl
                refine ⟨rfl, ?_, Or.inr ⟨rfl, fun hF => ?_⟩⟩
                · rw [List.take_append_of_le_length (by omega), ht] at ht1
                  rw [← ht1, List.take_of_length_le (by omega)]
                · have hj2 := hF j (by omega)
                  unfold hs_ok at hj2
                  omega
              case c0 =>
                have hq : (Sum.inl _ : Option qV ⊕ (Nat × qL × List qV)) = Sum.inr q := hq
                cases hq
          · have c5 : (fc 33 j).toInt = 1 ∨ (fc 33 j).toInt ≤ 0 ∨ 2 ≤ (fc 33 j).toInt := by omega
            rcases c5 with c4 | c4 | c4
            · skip
              refine qy_TP.pre (ρ' := ρ ++ xs) (g' := zUT_u1s_dn3ge.1) (w' := zUT_u1s_dn3ge.2.1) (lo' := zUT_u1s_dn3ge.2.2.1) (st' := zUT_u1s_dn3ge.2.2.2) ?_ (hwC3 hc) (fun h => h.to xs [(53, 0, 29), (54, -2147483648, 2147483647), (55, -2147483648, -1), (56, -2147483648, 2147483647), (57, 1, 1), (58, -2147483648, 2147483647)] [((.ofNat 1), 22, (.negSucc 0), 53, (.ofNat 1)), ((.ofNat 1), 45, (.negSucc 0), 54, (.ofNat 0)), ((.ofNat 1), 58, (.negSucc 0), 56, (.ofNat 0))] (by decide +kernel) (by rw [hlx]; rfl) (by decide +kernel) (fa_ex xj (by omega) (by omega) (fa_ex xa (by have := q_i32bd (fc 34 j); omega) (by have := q_i32bd (fc 34 j); omega) (fa_ex xu (by have := q_i32bd (fc 35 j); omega) (by have := q_i32bd (fc 35 j); omega) (fa_ex xm (by have := q_i32bd (fc 32 j); omega) (by have := q_i32bd (fc 32 j); omega) (fa_ex xi (by have := q_i32bd (fc 33 j); omega) (by have := q_i32bd (fc 33 j); omega) (fa_ex xh (by have := q_i32bd (fc 30 (5 * v + (fc 31 j).toInt).toNat); omega) (by have := q_i32bd (fc 30 (5 * v + (fc 31 j).toInt).toNat); omega) fa_nil)))))) (fa_cons ⟨_, _, xs_, xj, by show (1 : Int) ≤ 1 * se + (-1) * (j : Int); omega⟩ (fa_cons ⟨_, _, xk, xa, by show (0 : Int) ≤ 1 * k + (-1) * (fc 34 j).toInt; omega⟩ (fa_cons ⟨_, _, xh, xm, by show (0 : Int) ≤ 1 * (fc 30 (5 * v + (fc 31 j).toInt).toNat).toInt + (-1) * (fc 32 j).toInt; omega⟩ fa_nil)))) (fun _ _ h => h.mono he) (fun _ h => h.mono he)
              refine qs_lnkB (p := 53) (ρ := ρ ++ xs) fa_nil hT hA zUg_u1dn3ge (fa_cons (fun ρ1 ht1 hL hg1 _ => ⟨fun rv hrv => ?r0, fun q hq => ?c0⟩) fa_nil)
              case r0 =>
                have hrv : (Sum.inr _ : Option qV ⊕ (Nat × qL × List qV)) = Sum.inl rv := hrv
                cases hrv
              case c0 =>
                have hq : (Sum.inr _ : Option qV ⊕ (Nat × qL × List qV)) = Sum.inr q := hq
                cases hq
                have lj := (hL.n (i := 53) (d := 1) List.mem_cons_self xj)
                exact ih ρ1 (j + 1) (by rw [ht1, List.take_append_of_le_length (by omega)]; exact ht) (by rw [lj]; exact congrArg some (by omega)) (by omega) (fun i hi => by
                  rcases Nat.lt_or_ge i j with z | z
                  · exact hok i z
                  · have e : i = j := by omega
                    rw [e]
                    exact Or.inr (Or.inr (Or.inl ⟨c3, c4⟩)))
            · skip
              refine qy_TP.pre (ρ' := ρ ++ xs) (g' := zUT_u1s_dn3ga.1) (w' := zUT_u1s_dn3ga.2.1) (lo' := zUT_u1s_dn3ga.2.2.1) (st' := zUT_u1s_dn3ga.2.2.2) ?_ (hwC3 hc) (fun h => h.to xs [(53, 0, 29), (54, -2147483648, 2147483647), (55, -2147483648, -1), (56, -2147483648, 2147483647), (57, -2147483648, 0), (58, -2147483648, 2147483647)] [((.ofNat 1), 22, (.negSucc 0), 53, (.ofNat 1)), ((.ofNat 1), 45, (.negSucc 0), 54, (.ofNat 0)), ((.ofNat 1), 58, (.negSucc 0), 56, (.ofNat 0))] (by decide +kernel) (by rw [hlx]; rfl) (by decide +kernel) (fa_ex xj (by omega) (by omega) (fa_ex xa (by have := q_i32bd (fc 34 j); omega) (by have := q_i32bd (fc 34 j); omega) (fa_ex xu (by have := q_i32bd (fc 35 j); omega) (by have := q_i32bd (fc 35 j); omega) (fa_ex xm (by have := q_i32bd (fc 32 j); omega) (by have := q_i32bd (fc 32 j); omega) (fa_ex xi (by have := q_i32bd (fc 33 j); omega) (by have := q_i32bd (fc 33 j); omega) (fa_ex xh (by have := q_i32bd (fc 30 (5 * v + (fc 31 j).toInt).toNat); omega) (by have := q_i32bd (fc 30 (5 * v + (fc 31 j).toInt).toNat); omega) fa_nil)))))) (fa_cons ⟨_, _, xs_, xj, by show (1 : Int) ≤ 1 * se + (-1) * (j : Int); omega⟩ (fa_cons ⟨_, _, xk, xa, by show (0 : Int) ≤ 1 * k + (-1) * (fc 34 j).toInt; omega⟩ (fa_cons ⟨_, _, xh, xm, by show (0 : Int) ≤ 1 * (fc 30 (5 * v + (fc 31 j).toInt).toNat).toInt + (-1) * (fc 32 j).toInt; omega⟩ fa_nil)))) (fun _ _ h => h.mono he) (fun _ h => h.mono he)
              refine qs_lnkB (p := 53) (ρ := ρ ++ xs) fa_nil hT hA zUg_u1dn3ga (fa_cons (fun ρ1 ht1 hL hg1 _ => ⟨fun rv hrv => ?r0, fun q hq => ?c0⟩) fa_nil)
              case r0 =>
                have hl1 : ρ1.length = 53 := hg1.len rfl
                refine ⟨rfl, ?_, Or.inr ⟨rfl, fun hF => ?_⟩⟩
                · rw [List.take_append_of_le_length (by omega), ht] at ht1
                  rw [← ht1, List.take_of_length_le (by omega)]
                · have hj2 := hF j (by omega)
                  unfold hs_ok at hj2
                  omega
              case c0 =>
                have hq : (Sum.inl _ : Option qV ⊕ (Nat × qL × List qV)) = Sum.inr q := hq
                cases hq
            · skip
              refine qy_TP.pre (ρ' := ρ ++ xs) (g' := zUT_u1s_dn3gb.1) (w' := zUT_u1s_dn3gb.2.1) (lo' := zUT_u1s_dn3gb.2.2.1) (st' := zUT_u1s_dn3gb.2.2.2) ?_ (hwC3 hc) (fun h => h.to xs [(53, 0, 29), (54, -2147483648, 2147483647), (55, -2147483648, -1), (56, -2147483648, 2147483647), (57, 2, 2147483647), (58, -2147483648, 2147483647)] [((.ofNat 1), 22, (.negSucc 0), 53, (.ofNat 1)), ((.ofNat 1), 45, (.negSucc 0), 54, (.ofNat 0)), ((.ofNat 1), 58, (.negSucc 0), 56, (.ofNat 0))] (by decide +kernel) (by rw [hlx]; rfl) (by decide +kernel) (fa_ex xj (by omega) (by omega) (fa_ex xa (by have := q_i32bd (fc 34 j); omega) (by have := q_i32bd (fc 34 j); omega) (fa_ex xu (by have := q_i32bd (fc 35 j); omega) (by have := q_i32bd (fc 35 j); omega) (fa_ex xm (by have := q_i32bd (fc 32 j); omega) (by have := q_i32bd (fc 32 j); omega) (fa_ex xi (by have := q_i32bd (fc 33 j); omega) (by have := q_i32bd (fc 33 j); omega) (fa_ex xh (by have := q_i32bd (fc 30 (5 * v + (fc 31 j).toInt).toNat); omega) (by have := q_i32bd (fc 30 (5 * v + (fc 31 j).toInt).toNat); omega) fa_nil)))))) (fa_cons ⟨_, _, xs_, xj, by show (1 : Int) ≤ 1 * se + (-1) * (j : Int); omega⟩ (fa_cons ⟨_, _, xk, xa, by show (0 : Int) ≤ 1 * k + (-1) * (fc 34 j).toInt; omega⟩ (fa_cons ⟨_, _, xh, xm, by show (0 : Int) ≤ 1 * (fc 30 (5 * v + (fc 31 j).toInt).toNat).toInt + (-1) * (fc 32 j).toInt; omega⟩ fa_nil)))) (fun _ _ h => h.mono he) (fun _ h => h.mono he)
              refine qs_lnkB (p := 53) (ρ := ρ ++ xs) fa_nil hT hA zUg_u1dn3gb (fa_cons (fun ρ1 ht1 hL hg1 _ => ⟨fun rv hrv => ?r0, fun q hq => ?c0⟩) fa_nil)
              case r0 =>
                have hl1 : ρ1.length = 53 := hg1.len rfl
                refine ⟨rfl, ?_, Or.inr ⟨rfl, fun hF => ?_⟩⟩
                · rw [List.take_append_of_le_length (by omega), ht] at ht1
                  rw [← ht1, List.take_of_length_le (by omega)]
                · have hj2 := hF j (by omega)
                  unfold hs_ok at hj2
                  omega
              case c0 =>
                have hq : (Sum.inl _ : Option qV ⊕ (Nat × qL × List qV)) = Sum.inr q := hq
                cases hq
        · rcases Int.lt_or_le (fc 30 (5 * v + (fc 31 j).toInt).toNat).toInt (fc 32 j).toInt with c3 | c3
          · have c5 : (fc 33 j).toInt = 0 ∨ (fc 33 j).toInt ≤ -1 ∨ 1 ≤ (fc 33 j).toInt := by omega
            rcases c5 with c4 | c4 | c4
            · skip
              refine qy_TP.pre (ρ' := ρ ++ xs) (g' := zUT_u1s_dn4le.1) (w' := zUT_u1s_dn4le.2.1) (lo' := zUT_u1s_dn4le.2.2.1) (st' := zUT_u1s_dn4le.2.2.2) ?_ (hwC4 hc) (fun h => h.to xs [(53, 0, 29), (54, -2147483648, 2147483647), (55, -2147483648, -1), (56, -2147483648, 2147483647), (57, 0, 0), (58, -2147483648, 2147483647)] [((.ofNat 1), 22, (.negSucc 0), 53, (.ofNat 1)), ((.ofNat 1), 45, (.negSucc 0), 54, (.ofNat 0)), ((.ofNat 1), 56, (.negSucc 0), 58, (.ofNat 1))] (by decide +kernel) (by rw [hlx]; rfl) (by decide +kernel) (fa_ex xj (by omega) (by omega) (fa_ex xa (by have := q_i32bd (fc 34 j); omega) (by have := q_i32bd (fc 34 j); omega) (fa_ex xu (by have := q_i32bd (fc 35 j); omega) (by have := q_i32bd (fc 35 j); omega) (fa_ex xm (by have := q_i32bd (fc 32 j); omega) (by have := q_i32bd (fc 32 j); omega) (fa_ex xi (by have := q_i32bd (fc 33 j); omega) (by have := q_i32bd (fc 33 j); omega) (fa_ex xh (by have := q_i32bd (fc 30 (5 * v + (fc 31 j).toInt).toNat); omega) (by have := q_i32bd (fc 30 (5 * v + (fc 31 j).toInt).toNat); omega) fa_nil)))))) (fa_cons ⟨_, _, xs_, xj, by show (1 : Int) ≤ 1 * se + (-1) * (j : Int); omega⟩ (fa_cons ⟨_, _, xk, xa, by show (0 : Int) ≤ 1 * k + (-1) * (fc 34 j).toInt; omega⟩ (fa_cons ⟨_, _, xm, xh, by show (1 : Int) ≤ 1 * (fc 32 j).toInt + (-1) * (fc 30 (5 * v + (fc 31 j).toInt).toNat).toInt; omega⟩ fa_nil)))) (fun _ _ h => h.mono he) (fun _ h => h.mono he)
              refine qs_lnkB (p := 53) (ρ := ρ ++ xs) fa_nil hT hA zUg_u1dn4le (fa_cons (fun ρ1 ht1 hL hg1 _ => ⟨fun rv hrv => ?r0, fun q hq => ?c0⟩) fa_nil)
              case r0 =>
                have hrv : (Sum.inr _ : Option qV ⊕ (Nat × qL × List qV)) = Sum.inl rv := hrv
                cases hrv
              case c0 =>
                have hq : (Sum.inr _ : Option qV ⊕ (Nat × qL × List qV)) = Sum.inr q := hq
                cases hq
                have lj := (hL.n (i := 53) (d := 1) List.mem_cons_self xj)
                exact ih ρ1 (j + 1) (by rw [ht1, List.take_append_of_le_length (by omega)]; exact ht) (by rw [lj]; exact congrArg some (by omega)) (by omega) (fun i hi => by
                  rcases Nat.lt_or_ge i j with z | z
                  · exact hok i z
                  · have e : i = j := by omega
                    rw [e]
                    exact Or.inr (Or.inr (Or.inr ⟨c3, c4⟩)))
            · skip
              refine qy_TP.pre (ρ' := ρ ++ xs) (g' := zUT_u1s_dn4la.1) (w' := zUT_u1s_dn4la.2.1) (lo' := zUT_u1s_dn4la.2.2.1) (st' := zUT_u1s_dn4la.2.2.2) ?_ (hwC4 hc) (fun h => h.to xs [(53, 0, 29), (54, -2147483648, 2147483647), (55, -2147483648, -1), (56, -2147483648, 2147483647), (57, -2147483648, -1), (58, -2147483648, 2147483647)] [((.ofNat 1), 22, (.negSucc 0), 53, (.ofNat 1)), ((.ofNat 1), 45, (.negSucc 0), 54, (.ofNat 0)), ((.ofNat 1), 56, (.negSucc 0), 58, (.ofNat 1))] (by decide +kernel) (by rw [hlx]; rfl) (by decide +kernel) (fa_ex xj (by omega) (by omega) (fa_ex xa (by have := q_i32bd (fc 34 j); omega) (by have := q_i32bd (fc 34 j); omega) (fa_ex xu (by have := q_i32bd (fc 35 j); omega) (by have := q_i32bd (fc 35 j); omega) (fa_ex xm (by have := q_i32bd (fc 32 j); omega) (by have := q_i32bd (fc 32 j); omega) (fa_ex xi (by have := q_i32bd (fc 33 j); omega) (by have := q_i32bd (fc 33 j); omega) (fa_ex xh (by have := q_i32bd (fc 30 (5 * v + (fc 31 j).toInt).toNat); omega) (by have := q_i32bd (fc 30 (5 * v + (fc 31 j).toInt).toNat); omega) fa_nil)))))) (fa_cons ⟨_, _, xs_, xj, by show (1 : Int) ≤ 1 * se + (-1) * (j : Int); omega⟩ (fa_cons ⟨_, _, xk, xa, by show (0 : Int) ≤ 1 * k + (-1) * (fc 34 j).toInt; omega⟩ (fa_cons ⟨_, _, xm, xh, by show (1 : Int) ≤ 1 * (fc 32 j).toInt + (-1) * (fc 30 (5 * v + (fc 31 j).toInt).toNat).toInt; omega⟩ fa_nil)))) (fun _ _ h => h.mono he) (fun _ h => h.mono he)
              refine qs_lnkB (p := 53) (ρ := ρ ++ xs) fa_nil hT hA zUg_u1dn4la (fa_cons (fun ρ1 ht1 hL hg1 _ => ⟨fun rv hrv => ?r0, fun q hq => ?c0⟩) fa_nil)
              case r0 =>
                have hl1 : ρ1.length = 53 := hg1.len rfl
                refine ⟨rfl, ?_, Or.inr ⟨rfl, fun hF => ?_⟩⟩
                · rw [List.take_append_of_le_length (by omega), ht] at ht1
                  rw [← ht1, List.take_of_length_le (by omega)]
                · have hj2 := hF j (by omega)
                  unfold hs_ok at hj2
                  omega
              case c0 =>
                have hq : (Sum.inl _ : Option qV ⊕ (Nat × qL × List qV)) = Sum.inr q := hq
                cases hq
            · skip
              refine qy_TP.pre (ρ' := ρ ++ xs) (g' := zUT_u1s_dn4lb.1) (w' := zUT_u1s_dn4lb.2.1) (lo' := zUT_u1s_dn4lb.2.2.1) (st' := zUT_u1s_dn4lb.2.2.2) ?_ (hwC4 hc) (fun h => h.to xs [(53, 0, 29), (54, -2147483648, 2147483647), (55, -2147483648, -1), (56, -2147483648, 2147483647), (57, 1, 2147483647), (58, -2147483648, 2147483647)] [((.ofNat 1), 22, (.negSucc 0), 53, (.ofNat 1)), ((.ofNat 1), 45, (.negSucc 0), 54, (.ofNat 0)), ((.ofNat 1), 56, (.negSucc 0), 58, (.ofNat 1))] (by decide +kernel) (by rw [hlx]; rfl) (by decide +kernel) (fa_ex xj (by omega) (by omega) (fa_ex xa (by have := q_i32bd (fc 34 j); omega) (by have := q_i32bd (fc 34 j); omega) (fa_ex xu (by have := q_i32bd (fc 35 j); omega) (by have := q_i32bd (fc 35 j); omega) (fa_ex xm (by have := q_i32bd (fc 32 j); omega) (by have := q_i32bd (fc 32 j); omega) (fa_ex xi (by have := q_i32bd (fc 33 j); omega) (by have := q_i32bd (fc 33 j); omega) (fa_ex xh (by have := q_i32bd (fc 30 (5 * v + (fc 31 j).toInt).toNat); omega) (by have := q_i32bd (fc 30 (5 * v + (fc 31 j).toInt).toNat); omega) fa_nil)))))) (fa_cons ⟨_, _, xs_, xj, by show (1 : Int) ≤ 1 * se + (-1) * (j : Int); omega⟩ (fa_cons ⟨_, _, xk, xa, by show (0 : Int) ≤ 1 * k + (-1) * (fc 34 j).toInt; omega⟩ (fa_cons ⟨_, _, xm, xh, by show (1 : Int) ≤ 1 * (fc 32 j).toInt + (-1) * (fc 30 (5 * v + (fc 31 j).toInt).toNat).toInt; omega⟩ fa_nil)))) (fun _ _ h => h.mono he) (fun _ h => h.mono he)
              refine qs_lnkB (p := 53) (ρ := ρ ++ xs) fa_nil hT hA zUg_u1dn4lb (fa_cons (fun ρ1 ht1 hL hg1 _ => ⟨fun rv hrv => ?r0, fun q hq => ?c0⟩) fa_nil)
              case r0 =>
                have hl1 : ρ1.length = 53 := hg1.len rfl
                refine ⟨rfl, ?_, Or.inr ⟨rfl, fun hF => ?_⟩⟩
                · rw [List.take_append_of_le_length (by omega), ht] at ht1
                  rw [← ht1, List.take_of_length_le (by omega)]
                · have hj2 := hF j (by omega)
                  unfold hs_ok at hj2
                  omega
              case c0 =>
                have hq : (Sum.inl _ : Option qV ⊕ (Nat × qL × List qV)) = Sum.inr q := hq
                cases hq
          · have c5 : (fc 33 j).toInt = 1 ∨ (fc 33 j).toInt ≤ 0 ∨ 2 ≤ (fc 33 j).toInt := by omega
            rcases c5 with c4 | c4 | c4
            · skip
              refine qy_TP.pre (ρ' := ρ ++ xs) (g' := zUT_u1s_dn4ge.1) (w' := zUT_u1s_dn4ge.2.1) (lo' := zUT_u1s_dn4ge.2.2.1) (st' := zUT_u1s_dn4ge.2.2.2) ?_ (hwC4 hc) (fun h => h.to xs [(53, 0, 29), (54, -2147483648, 2147483647), (55, -2147483648, -1), (56, -2147483648, 2147483647), (57, 1, 1), (58, -2147483648, 2147483647)] [((.ofNat 1), 22, (.negSucc 0), 53, (.ofNat 1)), ((.ofNat 1), 45, (.negSucc 0), 54, (.ofNat 0)), ((.ofNat 1), 58, (.negSucc 0), 56, (.ofNat 0))] (by decide +kernel) (by rw [hlx]; rfl) (by decide +kernel) (fa_ex xj (by omega) (by omega) (fa_ex xa (by have := q_i32bd (fc 34 j); omega) (by have := q_i32bd (fc 34 j); omega) (fa_ex xu (by have := q_i32bd (fc 35 j); omega) (by have := q_i32bd (fc 35 j); omega) (fa_ex xm (by have := q_i32bd (fc 32 j); omega) (by have := q_i32bd (fc 32 j); omega) (fa_ex xi (by have := q_i32bd (fc 33 j); omega) (by have := q_i32bd (fc 33 j); omega) (fa_ex xh (by have := q_i32bd (fc 30 (5 * v + (fc 31 j).toInt).toNat); omega) (by have := q_i32bd (fc 30 (5 * v + (fc 31 j).toInt).toNat); omega) fa_nil)))))) (fa_cons ⟨_, _, xs_, xj, by show (1 : Int) ≤ 1 * se + (-1) * (j : Int); omega⟩ (fa_cons ⟨_, _, xk, xa, by show (0 : Int) ≤ 1 * k + (-1) * (fc 34 j).toInt; omega⟩ (fa_cons ⟨_, _, xh, xm, by show (0 : Int) ≤ 1 * (fc 30 (5 * v + (fc 31 j).toInt).toNat).toInt + (-1) * (fc 32 j).toInt; omega⟩ fa_nil)))) (fun _ _ h => h.mono he) (fun _ h => h.mono he)
              refine qs_lnkB (p := 53) (ρ := ρ ++ xs) fa_nil hT hA zUg_u1dn4ge (fa_cons (fun ρ1 ht1 hL hg1 _ => ⟨fun rv hrv => ?r0, fun q hq => ?c0⟩) fa_nil)
              case r0 =>
                have hrv : (Sum.inr _ : Option qV ⊕ (Nat × qL × List qV)) = Sum.inl rv := hrv
                cases hrv
              case c0 =>
                have hq : (Sum.inr _ : Option qV ⊕ (Nat × qL × List qV)) = Sum.inr q := hq
                cases hq
                have lj := (hL.n (i := 53) (d := 1) List.mem_cons_self xj)
                exact ih ρ1 (j + 1) (by rw [ht1, List.take_append_of_le_length (by omega)]; exact ht) (by rw [lj]; exact congrArg some (by omega)) (by omega) (fun i hi => by
                  rcases Nat.lt_or_ge i j with z | z
                  · exact hok i z
                  · have e : i = j := by omega
                    rw [e]
                    exact Or.inr (Or.inr (Or.inl ⟨c3, c4⟩)))
            · skip
              refine qy_TP.pre (ρ' := ρ ++ xs) (g' := zUT_u1s_dn4ga.1) (w' := zUT_u1s_dn4ga.2.1) (lo' := zUT_u1s_dn4ga.2.2.1) (st' := zUT_u1s_dn4ga.2.2.2) ?_ (hwC4 hc) (fun h => h.to xs [(53, 0, 29), (54, -2147483648, 2147483647), (55, -2147483648, -1), (56, -2147483648, 2147483647), (57, -2147483648, 0), (58, -2147483648, 2147483647)] [((.ofNat 1), 22, (.negSucc 0), 53, (.ofNat 1)), ((.ofNat 1), 45, (.negSucc 0), 54, (.ofNat 0)), ((.ofNat 1), 58, (.negSucc 0), 56, (.ofNat 0))] (by decide +kernel) (by rw [hlx]; rfl) (by decide +kernel) (fa_ex xj (by omega) (by omega) (fa_ex xa (by have := q_i32bd (fc 34 j); omega) (by have := q_i32bd (fc 34 j); omega) (fa_ex xu (by have := q_i32bd (fc 35 j); omega) (by have := q_i32bd (fc 35 j); omega) (fa_ex xm (by have := q_i32bd (fc 32 j); omega) (by have := q_i32bd (fc 32 j); omega) (fa_ex xi (by have := q_i32bd (fc 33 j); omega) (by have := q_i32bd (fc 33 j); omega) (fa_ex xh (by have := q_i32bd (fc 30 (5 * v + (fc 31 j).toInt).toNat); omega) (by have := q_i32bd (fc 30 (5 * v + (fc 31 j).toInt).toNat); omega) fa_nil)))))) (fa_cons ⟨_, _, xs_, xj, by show (1 : Int) ≤ 1 * se + (-1) * (j : Int); omega⟩ (fa_cons ⟨_, _, xk, xa, by show (0 : Int) ≤ 1 * k + (-1) * (fc 34 j).toInt; omega⟩ (fa_cons ⟨_, _, xh, xm, by show (0 : Int) ≤ 1 * (fc 30 (5 * v + (fc 31 j).toInt).toNat).toInt + (-1) * (fc 32 j).toInt; omega⟩ fa_nil)))) (fun _ _ h => h.mono he) (fun _ h => h.mono he)
              refine qs_lnkB (p := 53) (ρ := ρ ++ xs) fa_nil hT hA zUg_u1dn4ga (fa_cons (fun ρ1 ht1 hL hg1 _ => ⟨fun rv hrv => ?r0, fun q hq => ?c0⟩) fa_nil)
              case r0 =>
                have hl1 : ρ1.length = 53 := hg1.len rfl
                refine ⟨rfl, ?_, Or.inr ⟨rfl, fun hF => ?_⟩⟩
                · rw [List.take_append_of_le_length (by omega), ht] at ht1
                  rw [← ht1, List.take_of_length_le (by omega)]
                · have hj2 := hF j (by omega)
                  unfold hs_ok at hj2
                  omega
              case c0 =>
                have hq : (Sum.inl _ : Option qV ⊕ (Nat × qL × List qV)) = Sum.inr q := hq
                cases hq
            · skip
              refine qy_TP.pre (ρ' := ρ ++ xs) (g' := zUT_u1s_dn4gb.1) (w' := zUT_u1s_dn4gb.2.1) (lo' := zUT_u1s_dn4gb.2.2.1) (st' := zUT_u1s_dn4gb.2.2.2) ?_ (hwC4 hc) (fun h => h.to xs [(53, 0, 29), (54, -2147483648, 2147483647), (55, -2147483648, -1), (56, -2147483648, 2147483647), (57, 2, 2147483647), (58, -2147483648, 2147483647)] [((.ofNat 1), 22, (.negSucc 0), 53, (.ofNat 1)), ((.ofNat 1), 45, (.negSucc 0), 54, (.ofNat 0)), ((.ofNat 1), 58, (.negSucc 0), 56, (.ofNat 0))] (by decide +kernel) (by rw [hlx]; rfl) (by decide +kernel) (fa_ex xj (by omega) (by omega) (fa_ex xa (by have := q_i32bd (fc 34 j); omega) (by have := q_i32bd (fc 34 j); omega) (fa_ex xu (by have := q_i32bd (fc 35 j); omega) (by have := q_i32bd (fc 35 j); omega) (fa_ex xm (by have := q_i32bd (fc 32 j); omega) (by have := q_i32bd (fc 32 j); omega) (fa_ex xi (by have := q_i32bd (fc 33 j); omega) (by have := q_i32bd (fc 33 j); omega) (fa_ex xh (by have := q_i32bd (fc 30 (5 * v + (fc 31 j).toInt).toNat); omega) (by have := q_i32bd (fc 30 (5 * v + (fc 31 j).toInt).toNat); omega) fa_nil)))))) (fa_cons ⟨_, _, xs_, xj, by show (1 : Int) ≤ 1 * se + (-1) * (j : Int); omega⟩ (fa_cons ⟨_, _, xk, xa, by show (0 : Int) ≤ 1 * k + (-1) * (fc 34 j).toInt; omega⟩ (fa_cons ⟨_, _, xh, xm, by show (0 : Int) ≤ 1 * (fc 30 (5 * v + (fc 31 j).toInt).toNat).toInt + (-1) * (fc 32 j).toInt; omega⟩ fa_nil)))) (fun _ _ h => h.mono he) (fun _ h => h.mono he)
              refine qs_lnkB (p := 53) (ρ := ρ ++ xs) fa_nil hT hA zUg_u1dn4gb (fa_cons (fun ρ1 ht1 hL hg1 _ => ⟨fun rv hrv => ?r0, fun q hq => ?c0⟩) fa_nil)
              case r0 =>
                have hl1 : ρ1.length = 53 := hg1.len rfl
                refine ⟨rfl, ?_, Or.inr ⟨rfl, fun hF => ?_⟩⟩
                · rw [List.take_append_of_le_length (by omega), ht] at ht1
                  rw [← ht1, List.take_of_length_le (by omega)]
                · have hj2 := hF j (by omega)
                  unfold hs_ok at hj2
                  omega
              case c0 =>
                have hq : (Sum.inl _ : Option qV ⊕ (Nat × qL × List qV)) = Sum.inr q := hq
                cases hq
      · rcases Int.lt_or_le k (fc 35 j).toInt with c6 | c6
        · skip
          have cc : (fc 31 j).toInt = 0 ∨ (fc 31 j).toInt = 1 ∨ (fc 31 j).toInt = 2 ∨ (fc 31 j).toInt = 3 ∨ (fc 31 j).toInt = 4 := by omega
          rcases cc with hc | hc | hc | hc | hc
          · rcases Int.lt_or_le (fc 30 (5 * v + (fc 31 j).toInt).toNat).toInt (fc 32 j).toInt with c3 | c3
            · have c5 : (fc 33 j).toInt = 0 ∨ (fc 33 j).toInt ≤ -1 ∨ 1 ≤ (fc 33 j).toInt := by omega
              rcases c5 with c4 | c4 | c4
              · skip
                refine qy_TP.pre (ρ' := ρ ++ xs) (g' := zUT_u1s_dp0le.1) (w' := zUT_u1s_dp0le.2.1) (lo' := zUT_u1s_dp0le.2.2.1) (st' := zUT_u1s_dp0le.2.2.2) ?_ (hwC0 hc) (fun h => h.to xs [(53, 0, 29), (54, -2147483648, 2147483647), (55, 0, 2147483647), (56, -2147483648, 2147483647), (57, 0, 0), (58, -2147483648, 2147483647)] [((.ofNat 1), 22, (.negSucc 0), 53, (.ofNat 1)), ((.ofNat 1), 45, (.negSucc 0), 54, (.ofNat 0)), ((.ofNat 1), 55, (.negSucc 0), 45, (.ofNat 1)), ((.ofNat 1), 56, (.negSucc 0), 58, (.ofNat 1))] (by decide +kernel) (by rw [hlx]; rfl) (by decide +kernel) (fa_ex xj (by omega) (by omega) (fa_ex xa (by have := q_i32bd (fc 34 j); omega) (by have := q_i32bd (fc 34 j); omega) (fa_ex xu (by have := q_i32bd (fc 35 j); omega) (by have := q_i32bd (fc 35 j); omega) (fa_ex xm (by have := q_i32bd (fc 32 j); omega) (by have := q_i32bd (fc 32 j); omega) (fa_ex xi (by have := q_i32bd (fc 33 j); omega) (by have := q_i32bd (fc 33 j); omega) (fa_ex xh (by have := q_i32bd (fc 30 (5 * v + (fc 31 j).toInt).toNat); omega) (by have := q_i32bd (fc 30 (5 * v + (fc 31 j).toInt).toNat); omega) fa_nil)))))) (fa_cons ⟨_, _, xs_, xj, by show (1 : Int) ≤ 1 * se + (-1) * (j : Int); omega⟩ (fa_cons ⟨_, _, xk, xa, by show (0 : Int) ≤ 1 * k + (-1) * (fc 34 j).toInt; omega⟩ (fa_cons ⟨_, _, xu, xk, by show (1 : Int) ≤ 1 * (fc 35 j).toInt + (-1) * k; omega⟩ (fa_cons ⟨_, _, xm, xh, by show (1 : Int) ≤ 1 * (fc 32 j).toInt + (-1) * (fc 30 (5 * v + (fc 31 j).toInt).toNat).toInt; omega⟩ fa_nil))))) (fun _ _ h => h.mono he) (fun _ h => h.mono he)
                refine qs_lnkB (p := 53) (ρ := ρ ++ xs) fa_nil hT hA zUg_u1dp0le (fa_cons (fun ρ1 ht1 hL hg1 _ => ⟨fun rv hrv => ?r0, fun q hq => ?c0⟩) fa_nil)
                case r0 =>
                  have hrv : (Sum.inr _ : Option qV ⊕ (Nat × qL × List qV)) = Sum.inl rv := hrv
                  cases hrv
                case c0 =>
                  have hq : (Sum.inr _ : Option qV ⊕ (Nat × qL × List qV)) = Sum.inr q := hq
                  cases hq
                  have lj := (hL.n (i := 53) (d := 1) List.mem_cons_self xj)
                  exact ih ρ1 (j + 1) (by rw [ht1, List.take_append_of_le_length (by omega)]; exact ht) (by rw [lj]; exact congrArg some (by omega)) (by omega) (fun i hi => by
                    rcases Nat.lt_or_ge i j with z | z
                    · exact hok i z
                    · have e : i = j := by omega
                      rw [e]
                      exact Or.inr (Or.inr (Or.inr ⟨c3, c4⟩)))
              · skip
                refine qy_TP.pre (ρ' := ρ ++ xs) (g' := zUT_u1s_dp0la.1) (w' := zUT_u1s_dp0la.2.1) (lo' := zUT_u1s_dp0la.2.2.1) (st' := zUT_u1s_dp0la.2.2.2) ?_ (hwC0 hc) (fun h => h.to xs [(53, 0, 29), (54, -2147483648, 2147483647), (55, 0, 2147483647), (56, -2147483648, 2147483647), (57, -2147483648, -1), (58, -2147483648, 2147483647)] [((.ofNat 1), 22, (.negSucc 0), 53, (.ofNat 1)), ((.ofNat 1), 45, (.negSucc 0), 54, (.ofNat 0)), ((.ofNat 1), 55, (.negSucc 0), 45, (.ofNat 1)), ((.ofNat 1), 56, (.negSucc 0), 58, (.ofNat 1))] (by decide +kernel) (by rw [hlx]; rfl) (by decide +kernel) (fa_ex xj (by omega) (by omega) (fa_ex xa (by have := q_i32bd (fc 34 j); omega) (by have := q_i32bd (fc 34 j); omega) (fa_ex xu (by have := q_i32bd (fc 35 j); omega) (by have := q_i32bd (fc 35 j); omega) (fa_ex xm (by have := q_i32bd (fc 32 j); omega) (by have := q_i32bd (fc 32 j); omega) (fa_ex xi (by have := q_i32bd (fc 33 j); omega) (by have := q_i32bd (fc 33 j); omega) (fa_ex xh (by have := q_i32bd (fc 30 (5 * v + (fc 31 j).toInt).toNat); omega) (by have := q_i32bd (fc 30 (5 * v + (fc 31 j).toInt).toNat); omega) fa_nil)))))) (fa_cons ⟨_, _, xs_, xj, by show (1 : Int) ≤ 1 * se + (-1) * (j : Int); omega⟩ (fa_cons ⟨_, _, xk, xa, by show (0 : Int) ≤ 1 * k + (-1) * (fc 34 j).toInt; omega⟩ (fa_cons ⟨_, _, xu, xk, by show (1 : Int) ≤ 1 * (fc 35 j).toInt + (-1) * k; omega⟩ (fa_cons ⟨_, _, xm, xh, by show (1 : Int) ≤ 1 * (fc 32 j).toInt + (-1) * (fc 30 (5 * v + (fc 31 j).toInt).toNat).toInt; omega⟩ fa_nil))))) (fun _ _ h => h.mono he) (fun _ h => h.mono he)
                refine qs_lnkB (p := 53) (ρ := ρ ++ xs) fa_nil hT hA zUg_u1dp0la (fa_cons (fun ρ1 ht1 hL hg1 _ => ⟨fun rv hrv => ?r0, fun q hq => ?c0⟩) fa_nil)
                case r0 =>
                  have hl1 : ρ1.length = 53 := hg1.len rfl
                  refine ⟨rfl, ?_, Or.inr ⟨rfl, fun hF => ?_⟩⟩
                  · rw [List.take_append_of_le_length (by omega), ht] at ht1
                    rw [← ht1, List.take_of_length_le (by omega)]
                  · have hj2 := hF j (by omega)
                    unfold hs_ok at hj2
                    omega
                case c0 =>
                  have hq : (Sum.inl _ : Option qV ⊕ (Nat × qL × List qV)) = Sum.inr q := hq
                  cases hq
              · skip
                refine qy_TP.pre (ρ' := ρ ++ xs) (g' := zUT_u1s_dp0lb.1) (w' := zUT_u1s_dp0lb.2.1) (lo' := zUT_u1s_dp0lb.2.2.1) (st' := zUT_u1s_dp0lb.2.2.2) ?_ (hwC0 hc) (fun h => h.to xs [(53, 0, 29), (54, -2147483648, 2147483647), (55, 0, 2147483647), (56, -2147483648, 2147483647), (57, 1, 2147483647), (58, -2147483648, 2147483647)] [((.ofNat 1), 22, (.negSucc 0), 53, (.ofNat 1)), ((.ofNat 1), 45, (.negSucc 0), 54, (.ofNat 0)), ((.ofNat 1), 55, (.negSucc 0), 45, (.ofNat 1)), ((.ofNat 1), 56, (.negSucc 0), 58, (.ofNat 1))] (by decide +kernel) (by rw [hlx]; rfl) (by decide +kernel) (fa_ex xj (by omega) (by omega) (fa_ex xa (by have := q_i32bd (fc 34 j); omega) (by have := q_i32bd (fc 34 j); omega) (fa_ex xu (by have := q_i32bd (fc 35 j); omega) (by have := q_i32bd (fc 35 j); omega) (fa_ex xm (by have := q_i32bd (fc 32 j); omega) (by have := q_i32bd (fc 32 j); omega) (fa_ex xi (by have := q_i32bd (fc 33 j); omega) (by have := q_i32bd (fc 33 j); omega) (fa_ex xh (by have := q_i32bd (fc 30 (5 * v + (fc 31 j).toInt).toNat); omega) (by have := q_i32bd (fc 30 (5 * v + (fc 31 j).toInt).toNat); omega) fa_nil)))))) (fa_cons ⟨_, _, xs_, xj, by show (1 : Int) ≤ 1 * se + (-1) * (j : Int); omega⟩ (fa_cons ⟨_, _, xk, xa, by show (0 : Int) ≤ 1 * k + (-1) * (fc 34 j).toInt; omega⟩ (fa_cons ⟨_, _, xu, xk, by show (1 : Int) ≤ 1 * (fc 35 j).toInt + (-1) * k; omega⟩ (fa_cons ⟨_, _, xm, xh, by show (1 : Int) ≤ 1 * (fc 32 j).toInt + (-1) * (fc 30 (5 * v + (fc 31 j).toInt).toNat).toInt; omega⟩ fa_nil))))) (fun _ _ h => h.mono he) (fun _ h => h.mono he)
                refine qs_lnkB (p := 53) (ρ := ρ ++ xs) fa_nil hT hA zUg_u1dp0lb (fa_cons (fun ρ1 ht1 hL hg1 _ => ⟨fun rv hrv => ?r0, fun q hq => ?c0⟩) fa_nil)
                case r0 =>
                  have hl1 : ρ1.length = 53 := hg1.len rfl
                  refine ⟨rfl, ?_, Or.inr ⟨rfl, fun hF => ?_⟩⟩
                  · rw [List.take_append_of_le_length (by omega), ht] at ht1
                    rw [← ht1, List.take_of_length_le (by omega)]
                  · have hj2 := hF j (by omega)
                    unfold hs_ok at hj2
                    omega
                case c0 =>
                  have hq : (Sum.inl _ : Option qV ⊕ (Nat × qL × List qV)) = Sum.inr q := hq
                  cases hq
            · have c5 : (fc 33 j).toInt = 1 ∨ (fc 33 j).toInt ≤ 0 ∨ 2 ≤ (fc 33 j).toInt := by omega
              rcases c5 with c4 | c4 | c4
              · skip
                refine qy_TP.pre (ρ' := ρ ++ xs) (g' := zUT_u1s_dp0ge.1) (w' := zUT_u1s_dp0ge.2.1) (lo' := zUT_u1s_dp0ge.2.2.1) (st' := zUT_u1s_dp0ge.2.2.2) ?_ (hwC0 hc) (fun h => h.to xs [(53, 0, 29), (54, -2147483648, 2147483647), (55, 0, 2147483647), (56, -2147483648, 2147483647), (57, 1, 1), (58, -2147483648, 2147483647)] [((.ofNat 1), 22, (.negSucc 0), 53, (.ofNat 1)), ((.ofNat 1), 45, (.negSucc 0), 54, (.ofNat 0)), ((.ofNat 1), 55, (.negSucc 0), 45, (.ofNat 1)), ((.ofNat 1), 58, (.negSucc 0), 56, (.ofNat 0))] (by decide +kernel) (by rw [hlx]; rfl) (by decide +kernel) (fa_ex xj (by omega) (by omega) (fa_ex xa (by have := q_i32bd (fc 34 j); omega) (by have := q_i32bd (fc 34 j); omega) (fa_ex xu (by have := q_i32bd (fc 35 j); omega) (by have := q_i32bd (fc 35 j); omega) (fa_ex xm (by have := q_i32bd (fc 32 j); omega) (by have := q_i32bd (fc 32 j); omega) (fa_ex xi (by have := q_i32bd (fc 33 j); omega) (by have := q_i32bd (fc 33 j); omega) (fa_ex xh (by have := q_i32bd (fc 30 (5 * v + (fc 31 j).toInt).toNat); omega) (by have := q_i32bd (fc 30 (5 * v + (fc 31 j).toInt).toNat); omega) fa_nil)))))) (fa_cons ⟨_, _, xs_, xj, by show (1 : Int) ≤ 1 * se + (-1) * (j : Int); omega⟩ (fa_cons ⟨_, _, xk, xa, by show (0 : Int) ≤ 1 * k + (-1) * (fc 34 j).toInt; omega⟩ (fa_cons ⟨_, _, xu, xk, by show (1 : Int) ≤ 1 * (fc 35 j).toInt + (-1) * k; omega⟩ (fa_cons ⟨_, _, xh, xm, by show (0 : Int) ≤ 1 * (fc 30 (5 * v + (fc 31 j).toInt).toNat).toInt + (-1) * (fc 32 j).toInt; omega⟩ fa_nil))))) (fun _ _ h => h.mono he) (fun _ h => h.mono he)
                refine qs_lnkB (p := 53) (ρ := ρ ++ xs) fa_nil hT hA zUg_u1dp0ge (fa_cons (fun ρ1 ht1 hL hg1 _ => ⟨fun rv hrv => ?r0, fun q hq => ?c0⟩) fa_nil)
                case r0 =>
                  have hrv : (Sum.inr _ : Option qV ⊕ (Nat × qL × List qV)) = Sum.inl rv := hrv
                  cases hrv
                case c0 =>
                  have hq : (Sum.inr _ : Option qV ⊕ (Nat × qL × List qV)) = Sum.inr q := hq
                  cases hq
                  have lj := (hL.n (i := 53) (d := 1) List.mem_cons_self xj)
                  exact ih ρ1 (j + 1) (by rw [ht1, List.take_append_of_le_length (by omega)]; exact ht) (by rw [lj]; exact congrArg some (by omega)) (by omega) (fun i hi => by
                    rcases Nat.lt_or_ge i j with z | z
                    · exact hok i z
                    · have e : i = j := by omega
                      rw [e]
                      exact Or.inr (Or.inr (Or.inl ⟨c3, c4⟩)))
              · skip
                refine qy_TP.pre (ρ' := ρ ++ xs) (g' := zUT_u1s_dp0ga.1) (w' := zUT_u1s_dp0ga.2.1) (lo' := zUT_u1s_dp0ga.2.2.1) (st' := zUT_u1s_dp0ga.2.2.2) ?_ (hwC0 hc) (fun h => h.to xs [(53, 0, 29), (54, -2147483648, 2147483647), (55, 0, 2147483647), (56, -2147483648, 2147483647), (57, -2147483648, 0), (58, -2147483648, 2147483647)] [((.ofNat 1), 22, (.negSucc 0), 53, (.ofNat 1)), ((.ofNat 1), 45, (.negSucc 0), 54, (.ofNat 0)), ((.ofNat 1), 55, (.negSucc 0), 45, (.ofNat 1)), ((.ofNat 1), 58, (.negSucc 0), 56, (.ofNat 0))] (by decide +kernel) (by rw [hlx]; rfl) (by decide +kernel) (fa_ex xj (by omega) (by omega) (fa_ex xa (by have := q_i32bd (fc 34 j); omega) (by have := q_i32bd (fc 34 j); omega) (fa_ex xu (by have := q_i32bd (fc 35 j); omega) (by have := q_i32bd (fc 35 j); omega) (fa_ex xm (by have := q_i32bd (fc 32 j); omega) (by have := q_i32bd (fc 32 j); omega) (fa_ex xi (by have := q_i32bd (fc 33 j); omega) (by have := q_i32bd (fc 33 j); omega) (fa_ex xh (by have := q_i32bd (fc 30 (5 * v + (fc 31 j).toInt).toNat); omega) (by have := q_i32bd (fc 30 (5 * v + (fc 31 j).toInt).toNat); omega) fa_nil)))))) (fa_cons ⟨_, _, xs_, xj, by show (1 : Int) ≤ 1 * se + (-1) * (j : Int); omega⟩ (fa_cons ⟨_, _, xk, xa, by show (0 : Int) ≤ 1 * k + (-1) * (fc 34 j).toInt; omega⟩ (fa_cons ⟨_, _, xu, xk, by show (1 : Int) ≤ 1 * (fc 35 j).toInt + (-1) * k; omega⟩ (fa_cons ⟨_, _, xh, xm, by show (0 : Int) ≤ 1 * (fc 30 (5 * v + (fc 31 j).toInt).toNat).toInt + (-1) * (fc 32 j).toInt; omega⟩ fa_nil))))) (fun _ _ h => h.mono he) (fun _ h => h.mono he)
                refine qs_lnkB (p := 53) (ρ := ρ ++ xs) fa_nil hT hA zUg_u1dp0ga (fa_cons (fun ρ1 ht1 hL hg1 _ => ⟨fun rv hrv => ?r0, fun q hq => ?c0⟩) fa_nil)
                case r0 =>
                  have hl1 : ρ1.length = 53 := hg1.len rfl
                  refine ⟨rfl, ?_, Or.inr ⟨rfl, fun hF => ?_⟩⟩
                  · rw [List.take_append_of_le_length (by omega), ht] at ht1
                    rw [← ht1, List.take_of_length_le (by omega)]
                  · have hj2 := hF j (by omega)
                    unfold hs_ok at hj2
                    omega
                case c0 =>
                  have hq : (Sum.inl _ : Option qV ⊕ (Nat × qL × List qV)) = Sum.inr q := hq
                  cases hq
              · skip
                refine qy_TP.pre (ρ' := ρ ++ xs) (g' := zUT_u1s_dp0gb.1) (w' := zUT_u1s_dp0gb.2.1) (lo' := zUT_u1s_dp0gb.2.2.1) (st' := zUT_u1s_dp0gb.2.2.2) ?_ (hwC0 hc) (fun h => h.to xs [(53, 0, 29), (54, -2147483648, 2147483647), (55, 0, 2147483647), (56, -2147483648, 2147483647), (57, 2, 2147483647), (58, -2147483648, 2147483647)] [((.ofNat 1), 22, (.negSucc 0), 53, (.ofNat 1)), ((.ofNat 1), 45, (.negSucc 0), 54, (.ofNat 0)), ((.ofNat 1), 55, (.negSucc 0), 45, (.ofNat 1)), ((.ofNat 1), 58, (.negSucc 0), 56, (.ofNat 0))] (by decide +kernel) (by rw [hlx]; rfl) (by decide +kernel) (fa_ex xj (by omega) (by omega) (fa_ex xa (by have := q_i32bd (fc 34 j); omega) (by have := q_i32bd (fc 34 j); omega) (fa_ex xu (by have := q_i32bd (fc 35 j); omega) (by have := q_i32bd (fc 35 j); omega) (fa_ex xm (by have := q_i32bd (fc 32 j); omega) (by have := q_i32bd (fc 32 j); omega) (fa_ex xi (by have := q_i32bd (fc 33 j); omega) (by have := q_i32bd (fc 33 j); omega) (fa_ex xh (by have := q_i32bd (fc 30 (5 * v + (fc 31 j).toInt).toNat); omega) (by have := q_i32bd (fc 30 (5 * v + (fc 31 j).toInt).toNat); omega) fa_nil)))))) (fa_cons ⟨_, _, xs_, xj, by show (1 : Int) ≤ 1 * se + (-1) * (j : Int); omega⟩ (fa_cons ⟨_, _, xk, xa, by show (0 : Int) ≤ 1 * k + (-1) * (fc 34 j).toInt; omega⟩ (fa_cons ⟨_, _, xu, xk, by show (1 : Int) ≤ 1 * (fc 35 j).toInt + (-1) * k; omega⟩ (fa_cons ⟨_, _, xh, xm, by show (0 : Int) ≤ 1 * (fc 30 (5 * v + (fc 31 j).toInt).toNat).toInt + (-1) * (fc 32 j).toInt; omega⟩ fa_nil))))) (fun _ _ h => h.mono he) (fun _ h => h.mono he)
                refine qs_lnkB (p := 53) (ρ := ρ ++ xs) fa_nil hT hA zUg_u1dp0gb (fa_cons (fun ρ1 ht1 hL hg1 _ => ⟨fun rv hrv => ?r0, fun q hq => ?c0⟩) fa_nil)
                case r0 =>
                  have hl1 : ρ1.length = 53 := hg1.len rfl
                  refine ⟨rfl, ?_, Or.inr ⟨rfl, fun hF => ?_⟩⟩
                  · rw [List.take_append_of_le_length (by omega), ht] at ht1
                    rw [← ht1, List.take_of_length_le (by omega)]
                  · have hj2 := hF j (by omega)
                    unfold hs_ok at hj2
                    omega
                case c0 =>
                  have hq : (Sum.inl _ : Option qV ⊕ (Nat × qL × List qV)) = Sum.inr q := hq
                  cases hq
          · rcases Int.lt_or_le (fc 30 (5 * v + (fc 31 j).toInt).toNat).toInt (fc 32 j).toInt with c3 | c3
            · have c5 : (fc 33 j).toInt = 0 ∨ (fc 33 j).toInt ≤ -1 ∨ 1 ≤ (fc 33 j).toInt := by omega
              rcases c5 with c4 | c4 | c4
              · skip
                refine qy_TP.pre (ρ' := ρ ++ xs) (g' := zUT_u1s_dp1le.1) (w' := zUT_u1s_dp1le.2.1) (lo' := zUT_u1s_dp1le.2.2.1) (st' := zUT_u1s_dp1le.2.2.2) ?_ (hwC1 hc) (fun h => h.to xs [(53, 0, 29), (54, -2147483648, 2147483647), (55, 0, 2147483647), (56, -2147483648, 2147483647), (57, 0, 0), (58, -2147483648, 2147483647)] [((.ofNat 1), 22, (.negSucc 0), 53, (.ofNat 1)), ((.ofNat 1), 45, (.negSucc 0), 54, (.ofNat 0)), ((.ofNat 1), 55, (.negSucc 0), 45, (.ofNat 1)), ((.ofNat 1), 56, (.negSucc 0), 58, (.ofNat 1))] (by decide +kernel) (by rw [hlx]; rfl) (by decide +kernel) (fa_ex xj (by omega) (by omega) (fa_ex xa (by have := q_i32bd (fc 34 j); omega) (by have := q_i32bd (fc 34 j); omega) (fa_ex xu (by have := q_i32bd (fc 35 j); omega) (by have := q_i32bd (fc 35 j); omega) (fa_ex xm (by have := q_i32bd (fc 32 j); omega) (by have := q_i32bd (fc 32 j); omega) (fa_ex xi (by have := q_i32bd (fc 33 j); omega) (by have := q_i32bd (fc 33 j); omega) (fa_ex xh (by have := q_i32bd (fc 30 (5 * v + (fc 31 j).toInt).toNat); omega) (by have := q_i32bd (fc 30 (5 * v + (fc 31 j).toInt).toNat); omega) fa_nil)))))) (fa_cons ⟨_, _, xs_, xj, by show (1 : Int) ≤ 1 * se + (-1) * (j : Int); omega⟩ (fa_cons ⟨_, _, xk, xa, by show (0 : Int) ≤ 1 * k + (-1) * (fc 34 j).toInt; omega⟩ (fa_cons ⟨_, _, xu, xk, by show (1 : Int) ≤ 1 * (fc 35 j).toInt + (-1) * k; omega⟩ (fa_cons ⟨_, _, xm, xh, by show (1 : Int) ≤ 1 * (fc 32 j).toInt + (-1) * (fc 30 (5 * v + (fc 31 j).toInt).toNat).toInt; omega⟩ fa_nil))))) (fun _ _ h => h.mono he) (fun _ h => h.mono he)
                refine qs_lnkB (p := 53) (ρ := ρ ++ xs) fa_nil hT hA zUg_u1dp1le (fa_cons (fun ρ1 ht1 hL hg1 _ => ⟨fun rv hrv => ?r0, fun q hq => ?c0⟩) fa_nil)
                case r0 =>
                  have hrv : (Sum.inr _ : Option qV ⊕ (Nat × qL × List qV)) = Sum.inl rv := hrv
                  cases hrv
                case c0 =>
                  have hq : (Sum.inr _ : Option qV ⊕ (Nat × qL × List qV)) = Sum.inr q := hq
                  cases hq
                  have lj := (hL.n (i := 53) (d := 1) List.mem_cons_self xj)
                  exact ih ρ1 (j + 1) (by rw [ht1, List.take_append_of_le_length (by omega)]; exact ht) (by rw [lj]; exact congrArg some (by omega)) (by omega) (fun i hi => by
                    rcases Nat.lt_or_ge i j with z | z
                    · exact hok i z
                    · have e : i = j := by omega
                      rw [e]
                      exact Or.inr (Or.inr (Or.inr ⟨c3, c4⟩)))
              · skip
                refine qy_TP.pre (ρ' := ρ ++ xs) (g' := zUT_u1s_dp1la.1) (w' := zUT_u1s_dp1la.2.1) (lo' := zUT_u1s_dp1la.2.2.1) (st' := zUT_u1s_dp1la.2.2.2) ?_ (hwC1 hc) (fun h => h.to xs [(53, 0, 29), (54, -2147483648, 2147483647), (55, 0, 2147483647), (56, -2147483648, 2147483647), (57, -2147483648, -1), (58, -2147483648, 2147483647)] [((.ofNat 1), 22, (.negSucc 0), 53, (.ofNat 1)), ((.ofNat 1), 45, (.negSucc 0), 54, (.ofNat 0)), ((.ofNat 1), 55, (.negSucc 0), 45, (.ofNat 1)), ((.ofNat 1), 56, (.negSucc 0), 58, (.ofNat 1))] (by decide +kernel) (by rw [hlx]; rfl) (by decide +kernel) (fa_ex xj (by omega) (by omega) (fa_ex xa (by have := q_i32bd (fc 34 j); omega) (by have := q_i32bd (fc 34 j); omega) (fa_ex xu (by have := q_i32bd (fc 35 j); omega) (by have := q_i32bd (fc 35 j); omega) (fa_ex xm (by have := q_i32bd (fc 32 j); omega) (by have := q_i32bd (fc 32 j); omega) (fa_ex xi (by have := q_i32bd (fc 33 j); omega) (by have := q_i32bd (fc 33 j); omega) (fa_ex xh (by have := q_i32bd (fc 30 (5 * v + (fc 31 j).toInt).toNat); omega) (by have := q_i32bd (fc 30 (5 * v + (fc 31 j).toInt).toNat); omega) fa_nil)))))) (fa_cons ⟨_, _, xs_, xj, by show (1 : Int) ≤ 1 * se + (-1) * (j : Int); omega⟩ (fa_cons ⟨_, _, xk, xa, by show (0 : Int) ≤ 1 * k + (-1) * (fc 34 j).toInt; omega⟩ (fa_cons ⟨_, _, xu, xk, by show (1 : Int) ≤ 1 * (fc 35 j).toInt + (-1) * k; omega⟩ (fa_cons ⟨_, _, xm, xh, by show (1 : Int) ≤ 1 * (fc 32 j).toInt + (-1) * (fc 30 (5 * v + (fc 31 j).toInt).toNat).toInt; omega⟩ fa_nil))))) (fun _ _ h => h.mono he) (fun _ h => h.mono he)
                refine qs_lnkB (p := 53) (ρ := ρ ++ xs) fa_nil hT hA zUg_u1dp1la (fa_cons (fun ρ1 ht1 hL hg1 _ => ⟨fun rv hrv => ?r0, fun q hq => ?c0⟩) fa_nil)
                case r0 =>
                  have hl1 : ρ1.length = 53 := hg1.len rfl
                  refine ⟨rfl, ?_, Or.inr ⟨rfl, fun hF => ?_⟩⟩
                  · rw [List.take_append_of_le_length (by omega), ht] at ht1
                    rw [← ht1, List.take_of_length_le (by omega)]
                  · have hj2 := hF j (by omega)
                    unfold hs_ok at hj2
                    omega
                case c0 =>
                  have hq : (Sum.inl _ : Option qV ⊕ (Nat × qL × List qV)) = Sum.inr q := hq
                  cases hq
              · skip
                refine qy_TP.pre (ρ' := ρ ++ xs) (g' := zUT_u1s_dp1lb.1) (w' := zUT_u1s_dp1lb.2.1) (lo' := zUT_u1s_dp1lb.2.2.1) (st' := zUT_u1s_dp1lb.2.2.2) ?_ (hwC1 hc) (fun h => h.to xs [(53, 0, 29), (54, -2147483648, 2147483647), (55, 0, 2147483647), (56, -2147483648, 2147483647), (57, 1, 2147483647), (58, -2147483648, 2147483647)] [((.ofNat 1), 22, (.negSucc 0), 53, (.ofNat 1)), ((.ofNat 1), 45, (.negSucc 0), 54, (.ofNat 0)), ((.ofNat 1), 55, (.negSucc 0), 45, (.ofNat 1)), ((.ofNat 1), 56, (.negSucc 0), 58, (.ofNat 1))] (by decide +kernel) (by rw [hlx]; rfl) (by decide +kernel) (fa_ex xj (by omega) (by omega) (fa_ex xa (by have := q_i32bd (fc 34 j); omega) (by have := q_i32bd (fc 34 j); omega) (fa_ex xu (by have := q_i32bd (fc 35 j); omega) (by have := q_i32bd (fc 35 j); omega) (fa_ex xm (by have := q_i32bd (fc 32 j); omega) (by have := q_i32bd (fc 32 j); omega) (fa_ex xi (by have := q_i32bd (fc 33 j); omega) (by have := q_i32bd (fc 33 j); omega) (fa_ex xh (by have := q_i32bd (fc 30 (5 * v + (fc 31 j).toInt).toNat); omega) (by have := q_i32bd (fc 30 (5 * v + (fc 31 j).toInt).toNat); omega) fa_nil)))))) (fa_cons ⟨_, _, xs_, xj, by show (1 : Int) ≤ 1 * se + (-1) * (j : Int); omega⟩ (fa_cons ⟨_, _, xk, xa, by show (0 : Int) ≤ 1 * k + (-1) * (fc 34 j).toInt; omega⟩ (fa_cons ⟨_, _, xu, xk, by show (1 : Int) ≤ 1 * (fc 35 j).toInt + (-1) * k; omega⟩ (fa_cons ⟨_, _, xm, xh, by show (1 : Int) ≤ 1 * (fc 32 j).toInt + (-1) * (fc 30 (5 * v + (fc 31 j).toInt).toNat).toInt; omega⟩ fa_nil))))) (fun _ _ h => h.mono he) (fun _ h => h.mono he)
                refine qs_lnkB (p := 53) (ρ := ρ ++ xs) fa_nil hT hA zUg_u1dp1lb (fa_cons (fun ρ1 ht1 hL hg1 _ => ⟨fun rv hrv => ?r0, fun q hq => ?c0⟩) fa_nil)
                case r0 =>
                  have hl1 : ρ1.length = 53 := hg1.len rfl
                  refine ⟨rfl, ?_, Or.inr ⟨rfl, fun hF => ?_⟩⟩
                  · rw [List.take_append_of_le_length (by omega), ht] at ht1
                    rw [← ht1, List.take_of_length_le (by omega)]
                  · have hj2 := hF j (by omega)
                    unfold hs_ok at hj2
                    omega
                case c0 =>
                  have hq : (Sum.inl _ : Option qV ⊕ (Nat × qL × List qV)) = Sum.inr q := hq
                  cases hq
            · have c5 : (fc 33 j).toInt = 1 ∨ (fc 33 j).toInt ≤ 0 ∨ 2 ≤ (fc 33 j).toInt := by omega
              rcases c5 with c4 | c4 | c4
              · skip
                refine qy_TP.pre (ρ' := ρ ++ xs) (g' := zUT_u1s_dp1ge.1) (w' := zUT_u1s_dp1ge.2.1) (lo' := zUT_u1s_dp1ge.2.2.1) (st' := zUT_u1s_dp1ge.2.2.2) ?_ (hwC1 hc) (fun h => h.to xs [(53, 0, 29), (54, -2147483648, 2147483647), (55, 0, 2147483647), (56, -2147483648, 2147483647), (57, 1, 1), (58, -2147483648, 2147483647)] [((.ofNat 1), 22, (.negSucc 0), 53, (.ofNat 1)), ((.ofNat 1), 45, (.negSucc 0), 54, (.ofNat 0)), ((.ofNat 1), 55, (.negSucc 0), 45, (.ofNat 1)), ((.ofNat 1), 58, (.negSucc 0), 56, (.ofNat 0))] (by decide +kernel) (by rw [hlx]; rfl) (by decide +kernel) (fa_ex xj (by omega) (by omega) (fa_ex xa (by have := q_i32bd (fc 34 j); omega) (by have := q_i32bd (fc 34 j); omega) (fa_ex xu (by have := q_i32bd (fc 35 j); omega) (by have := q_i32bd (fc 35 j); omega) (fa_ex xm (by have := q_i32bd (fc 32 j); omega) (by have := q_i32bd (fc 32 j); omega) (fa_ex xi (by have := q_i32bd (fc 33 j); omega) (by have := q_i32bd (fc 33 j); omega) (fa_ex xh (by have := q_i32bd (fc 30 (5 * v + (fc 31 j).toInt).toNat); omega) (by have := q_i32bd (fc 30 (5 * v + (fc 31 j).toInt).toNat); omega) fa_nil)))))) (fa_cons ⟨_, _, xs_, xj, by show (1 : Int) ≤ 1 * se + (-1) * (j : Int); omega⟩ (fa_cons ⟨_, _, xk, xa, by show (0 : Int) ≤ 1 * k + (-1) * (fc 34 j).toInt; omega⟩ (fa_cons ⟨_, _, xu, xk, by show (1 : Int) ≤ 1 * (fc 35 j).toInt + (-1) * k; omega⟩ (fa_cons ⟨_, _, xh, xm, by show (0 : Int) ≤ 1 * (fc 30 (5 * v + (fc 31 j).toInt).toNat).toInt + (-1) * (fc 32 j).toInt; omega⟩ fa_nil))))) (fun _ _ h => h.mono he) (fun _ h => h.mono he)
                refine qs_lnkB (p := 53) (ρ := ρ ++ xs) fa_nil hT hA zUg_u1dp1ge (fa_cons (fun ρ1 ht1 hL hg1 _ => ⟨fun rv hrv => ?r0, fun q hq => ?c0⟩) fa_nil)
                case r0 =>
                  have hrv : (Sum.inr _ : Option qV ⊕ (Nat × qL × List qV)) = Sum.inl rv := hrv
                  cases hrv
                case c0 =>
                  have hq : (Sum.inr _ : Option qV ⊕ (Nat × qL × List qV)) = Sum.inr q := hq
                  cases hq
                  have lj := (hL.n (i := 53) (d := 1) List.mem_cons_self xj)
                  exact ih ρ1 (j + 1) (by rw [ht1, List.take_append_of_le_length (by omega)]; exact ht) (by rw [lj]; exact congrArg some (by omega)) (by omega) (fun i hi => by
                    rcases Nat.lt_or_ge i j with z | z
                    · exact hok i z
                    · have e : i = j := by omega
                      rw [e]
                      exact Or.inr (Or.inr (Or.inl ⟨c3, c4⟩)))
              · skip
                refine qy_TP.pre (ρ' := ρ ++ xs) (g' := zUT_u1s_dp1ga.1) (w' := zUT_u1s_dp1ga.2.1) (lo' := zUT_u1s_dp1ga.2.2.1) (st' := zUT_u1s_dp1ga.2.2.2) ?_ (hwC1 hc) (fun h => h.to xs [(53, 0, 29), (54, -2147483648, 2147483647), (55, 0, 2147483647), (56, -2147483648, 2147483647), (57, -2147483648, 0), (58, -2147483648, 2147483647)] [((.ofNat 1), 22, (.negSucc 0), 53, (.ofNat 1)), ((.ofNat 1), 45, (.negSucc 0), 54, (.ofNat 0)), ((.ofNat 1), 55, (.negSucc 0), 45, (.ofNat 1)), ((.ofNat 1), 58, (.negSucc 0), 56, (.ofNat 0))] (by decide +kernel) (by rw [hlx]; rfl) (by decide +kernel) (fa_ex xj (by omega) (by omega) (fa_ex xa (by have := q_i32bd (fc 34 j); omega) (by have := q_i32bd (fc 34 j); omega) (fa_ex xu (by have := q_i32bd (fc 35 j); omega) (by have := q_i32bd (fc 35 j); omega) (fa_ex xm (by have := q_i32bd (fc 32 j); omega) (by have := q_i32bd (fc 32 j); omega) (fa_ex xi (by have := q_i32bd (fc 33 j); omega) (by have := q_i32bd (fc 33 j); omega) (fa_ex xh (by have := q_i32bd (fc 30 (5 * v + (fc 31 j).toInt).toNat); omega) (by have := q_i32bd (fc 30 (5 * v + (fc 31 j).toInt).toNat); omega) fa_nil)))))) (fa_cons ⟨_, _, xs_, xj, by show (1 : Int) ≤ 1 * se + (-1) * (j : Int); omega⟩ (fa_cons ⟨_, _, xk, xa, by show (0 : Int) ≤ 1 * k + (-1) * (fc 34 j).toInt; omega⟩ (fa_cons ⟨_, _, xu, xk, by show (1 : Int) ≤ 1 * (fc 35 j).toInt + (-1) * k; omega⟩ (fa_cons ⟨_, _, xh, xm, by show (0 : Int) ≤ 1 * (fc 30 (5 * v + (fc 31 j).toInt).toNat).toInt + (-1) * (fc 32 j).toInt; omega⟩ fa_nil))))) (fun _ _ h => h.mono he) (fun _ h => h.mono he)
                refine qs_lnkB (p := 53) (ρ := ρ ++ xs) fa_nil hT hA zUg_u1dp1ga (fa_cons (fun ρ1 ht1 hL hg1 _ => ⟨fun rv hrv => ?r0, fun q hq => ?c0⟩) fa_nil)
                case r0 =>
                  have hl1 : ρ1.length = 53 := hg1.len rfl
                  refine ⟨rfl, ?_, Or.inr ⟨rfl, fun hF => ?_⟩⟩
                  · rw [List.take_append_of_le_length (by omega), ht] at ht1
                    rw [← ht1, List.take_of_length_le (by omega)]
                  · have hj2 := hF j (by omega)
                    unfold hs_ok at hj2
                    omega
                case c0 =>
                  have hq : (Sum.inl _ : Option qV ⊕ (Nat × qL × List qV)) = Sum.inr q := hq
                  cases hq
              · skip
                refine qy_TP.pre (ρ' := ρ ++ xs) (g' := zUT_u1s_dp1gb.1) (w' := zUT_u1s_dp1gb.2.1) (lo' := zUT_u1s_dp1gb.2.2.1) (st' := zUT_u1s_dp1gb.2.2.2) ?_ (hwC1 hc) (fun h => h.to xs [(53, 0, 29), (54, -2147483648, 2147483647), (55, 0, 2147483647), (56, -2147483648, 2147483647), (57, 2, 2147483647), (58, -2147483648, 2147483647)] [((.ofNat 1), 22, (.negSucc 0), 53, (.ofNat 1)), ((.ofNat 1), 45, (.negSucc 0), 54, (.ofNat 0)), ((.ofNat 1), 55, (.negSucc 0), 45, (.ofNat 1)), ((.ofNat 1), 58, (.negSucc 0), 56, (.ofNat 0))] (by decide +kernel) (by rw [hlx]; rfl) (by decide +kernel) (fa_ex xj (by omega) (by omega) (fa_ex xa (by have := q_i32bd (fc 34 j); omega) (by have := q_i32bd (fc 34 j); omega) (fa_ex xu (by have := q_i32bd (fc 35 j); omega) (by have := q_i32bd (fc 35 j); omega) (fa_ex xm (by have := q_i32bd (fc 32 j); omega) (by have := q_i32bd (fc 32 j); omega) (fa_ex xi (by have := q_i32bd (fc 33 j); omega) (by have := q_i32bd (fc 33 j); omega) (fa_ex xh (by have := q_i32bd (fc 30 (5 * v + (fc 31 j).toInt).toNat); omega) (by have := q_i32bd (fc 30 (5 * v + (fc 31 j).toInt).toNat); omega) fa_nil)))))) (fa_cons ⟨_, _, xs_, xj, by show (1 : Int) ≤ 1 * se + (-1) * (j : Int); omega⟩ (fa_cons ⟨_, _, xk, xa, by show (0 : Int) ≤ 1 * k + (-1) * (fc 34 j).toInt; omega⟩ (fa_cons ⟨_, _, xu, xk, by show (1 : Int) ≤ 1 * (fc 35 j).toInt + (-1) * k; omega⟩ (fa_cons ⟨_, _, xh, xm, by show (0 : Int) ≤ 1 * (fc 30 (5 * v + (fc 31 j).toInt).toNat).toInt + (-1) * (fc 32 j).toInt; omega⟩ fa_nil))))) (fun _ _ h => h.mono he) (fun _ h => h.mono he)
                refine qs_lnkB (p := 53) (ρ := ρ ++ xs) fa_nil hT hA zUg_u1dp1gb (fa_cons (fun ρ1 ht1 hL hg1 _ => ⟨fun rv hrv => ?r0, fun q hq => ?c0⟩) fa_nil)
                case r0 =>
                  have hl1 : ρ1.length = 53 := hg1.len rfl
                  refine ⟨rfl, ?_, Or.inr ⟨rfl, fun hF => ?_⟩⟩
                  · rw [List.take_append_of_le_length (by omega), ht] at ht1
                    rw [← ht1, List.take_of_length_le (by omega)]
                  · have hj2 := hF j (by omega)
                    unfold hs_ok at hj2
                    omega
                case c0 =>
                  have hq : (Sum.inl _ : Option qV ⊕ (Nat × qL × List qV)) = Sum.inr q := hq
                  cases hq
          · rcases Int.lt_or_le (fc 30 (5 * v + (fc 31 j).toInt).toNat).toInt (fc 32 j).toInt with c3 | c3
            · have c5 : (fc 33 j).toInt = 0 ∨ (fc 33 j).toInt ≤ -1 ∨ 1 ≤ (fc 33 j).toInt := by omega
              rcases c5 with c4 | c4 | c4
              · skip
                refine qy_TP.pre (ρ' := ρ ++ xs) (g' := zUT_u1s_dp2le.1) (w' := zUT_u1s_dp2le.2.1) (lo' := zUT_u1s_dp2le.2.2.1) (st' := zUT_u1s_dp2le.2.2.2) ?_ (hwC2 hc) (fun h => h.to xs [(53, 0, 29), (54, -2147483648, 2147483647), (55, 0, 2147483647), (56, -2147483648, 2147483647), (57, 0, 0), (58, -2147483648, 2147483647)] [((.ofNat 1), 22, (.negSucc 0), 53, (.ofNat 1)), ((.ofNat 1), 45, (.negSucc 0), 54, (.ofNat 0)), ((.ofNat 1), 55, (.negSucc 0), 45, (.ofNat 1)), ((.ofNat 1), 56, (.negSucc 0), 58, (.ofNat 1))] (by decide +kernel) (by rw [hlx]; rfl) (by decide +kernel) (fa_ex xj (by omega) (by omega) (fa_ex xa (by have := q_i32bd (fc 34 j); omega) (by have := q_i32bd (fc 34 j); omega) (fa_ex xu (by have := q_i32bd (fc 35 j); omega) (by have := q_i32bd (fc 35 j); omega) (fa_ex xm (by have := q_i32bd (fc 32 j); omega) (by have := q_i32bd (fc 32 j); omega) (fa_ex xi (by have := q_i32bd (fc 33 j); omega) (by have := q_i32bd (fc 33 j); omega) (fa_ex xh (by have := q_i32bd (fc 30 (5 * v + (fc 31 j).toInt).toNat); omega) (by have := q_i32bd (fc 30 (5 * v + (fc 31 j).toInt).toNat); omega) fa_nil)))))) (fa_cons ⟨_, _, xs_, xj, by show (1 : Int) ≤ 1 * se + (-1) * (j : Int); omega⟩ (fa_cons ⟨_, _, xk, xa, by show (0 : Int) ≤ 1 * k + (-1) * (fc 34 j).toInt; omega⟩ (fa_cons ⟨_, _, xu, xk, by show (1 : Int) ≤ 1 * (fc 35 j).toInt + (-1) * k; omega⟩ (fa_cons ⟨_, _, xm, xh, by show (1 : Int) ≤ 1 * (fc 32 j).toInt + (-1) * (fc 30 (5 * v + (fc 31 j).toInt).toNat).toInt; omega⟩ fa_nil))))) (fun _ _ h => h.mono he) (fun _ h => h.mono he)
                refine qs_lnkB (p := 53) (ρ := ρ ++ xs) fa_nil hT hA zUg_u1dp2le (fa_cons (fun ρ1 ht1 hL hg1 _ => ⟨fun rv hrv => ?r0, fun q hq => ?c0⟩) fa_nil)
                case r0 =>
                  have hrv : (Sum.inr _ : Option qV ⊕ (Nat × qL × List qV)) = Sum.inl rv := hrv
                  cases hrv
                case c0 =>
                  have hq : (Sum.inr _ : Option qV ⊕ (Nat × qL × List qV)) = Sum.inr q := hq
                  cases hq
                  have lj := (hL.n (i := 53) (d := 1) List.mem_cons_self xj)
                  exact ih ρ1 (j + 1) (by rw [ht1, List.take_append_of_le_length (by omega)]; exact ht) (by rw [lj]; exact congrArg some (by omega)) (by omega) (fun i hi => by
                    rcases Nat.lt_or_ge i j with z | z
                    · exact hok i z
                    · have e : i = j := by omega
                      rw [e]
                      exact Or.inr (Or.inr (Or.inr ⟨c3, c4⟩)))
              · skip
                refine qy_TP.pre (ρ' := ρ ++ xs) (g' := zUT_u1s_dp2la.1) (w' := zUT_u1s_dp2la.2.1) (lo' := zUT_u1s_dp2la.2.2.1) (st' := zUT_u1s_dp2la.2.2.2) ?_ (hwC2 hc) (fun h => h.to xs [(53, 0, 29), (54, -2147483648, 2147483647), (55, 0, 2147483647), (56, -2147483648, 2147483647), (57, -2147483648, -1), (58, -2147483648, 2147483647)] [((.ofNat 1), 22, (.negSucc 0), 53, (.ofNat 1)), ((.ofNat 1), 45, (.negSucc 0), 54, (.ofNat 0)), ((.ofNat 1), 55, (.negSucc 0), 45, (.ofNat 1)), ((.ofNat 1), 56, (.negSucc 0), 58, (.ofNat 1))] (by decide +kernel) (by rw [hlx]; rfl) (by decide +kernel) (fa_ex xj (by omega) (by omega) (fa_ex xa (by have := q_i32bd (fc 34 j); omega) (by have := q_i32bd (fc 34 j); omega) (fa_ex xu (by have := q_i32bd (fc 35 j); omega) (by have := q_i32bd (fc 35 j); omega) (fa_ex xm (by have := q_i32bd (fc 32 j); omega) (by have := q_i32bd (fc 32 j); omega) (fa_ex xi (by have := q_i32bd (fc 33 j); omega) (by have := q_i32bd (fc 33 j); omega) (fa_ex xh (by have := q_i32bd (fc 30 (5 * v + (fc 31 j).toInt).toNat); omega) (by have := q_i32bd (fc 30 (5 * v + (fc 31 j).toInt).toNat); omega) fa_nil)))))) (fa_cons ⟨_, _, xs_, xj, by show (1 : Int) ≤ 1 * se + (-1) * (j : Int); omega⟩ (fa_cons ⟨_, _, xk, xa, by show (0 : Int) ≤ 1 * k + (-1) * (fc 34 j).toInt; omega⟩ (fa_cons ⟨_, _, xu, xk, by show (1 : Int) ≤ 1 * (fc 35 j).toInt + (-1) * k; omega⟩ (fa_cons ⟨_, _, xm, xh, by show (1 : Int) ≤ 1 * (fc 32 j).toInt + (-1) * (fc 30 (5 * v + (fc 31 j).toInt).toNat).toInt; omega⟩ fa_nil))))) (fun _ _ h => h.mono he) (fun _ h => h.mono he)
                refine qs_lnkB (p := 53) (ρ := ρ ++ xs) fa_nil hT hA zUg_u1dp2la (fa_cons (fun ρ1 ht1 hL hg1 _ => ⟨fun rv hrv => ?r0, fun q hq => ?c0⟩) fa_nil)
                case r0 =>
                  have hl1 : ρ1.length = 53 := hg1.len rfl
                  refine ⟨rfl, ?_, Or.inr ⟨rfl, fun hF => ?_⟩⟩
                  · rw [List.take_append_of_le_length (by omega), ht] at ht1
                    rw [← ht1, List.take_of_length_le (by omega)]
                  · have hj2 := hF j (by omega)
                    unfold hs_ok at hj2
                    omega
                case c0 =>
                  have hq : (Sum.inl _ : Option qV ⊕ (Nat × qL × List qV)) = Sum.inr q := hq
                  cases hq
              · skip
                refine qy_TP.pre (ρ' := ρ ++ xs) (g' := zUT_u1s_dp2lb.1) (w' := zUT_u1s_dp2lb.2.1) (lo' := zUT_u1s_dp2lb.2.2.1) (st' := zUT_u1s_dp2lb.2.2.2) ?_ (hwC2 hc) (fun h => h.to xs [(53, 0, 29), (54, -2147483648, 2147483647), (55, 0, 2147483647), (56, -2147483648, 2147483647), (57, 1, 2147483647), (58, -2147483648, 2147483647)] [((.ofNat 1), 22, (.negSucc 0), 53, (.ofNat 1)), ((.ofNat 1), 45, (.negSucc 0), 54, (.ofNat 0)), ((.ofNat 1), 55, (.negSucc 0), 45, (.ofNat 1)), ((.ofNat 1), 56, (.negSucc 0), 58, (.ofNat 1))] (by decide +kernel) (by rw [hlx]; rfl) (by decide +kernel) (fa_ex xj (by omega) (by omega) (fa_ex xa (by have := q_i32bd (fc 34 j); omega) (by have := q_i32bd (fc 34 j); omega) (fa_ex xu (by have := q_i32bd (fc 35 j); omega) (by have := q_i32bd (fc 35 j); omega) (fa_ex xm (by have := q_i32bd (fc 32 j); omega) (by have := q_i32bd (fc 32 j); omega) (fa_ex xi (by have := q_i32bd (fc 33 j); omega) (by have := q_i32bd (fc 33 j); omega) (fa_ex xh (by have := q_i32bd (fc 30 (5 * v + (fc 31 j).toInt).toNat); omega) (by have := q_i32bd (fc 30 (5 * v + (fc 31 j).toInt).toNat); omega) fa_nil)))))) (fa_cons ⟨_, _, xs_, xj, by show (1 : Int) ≤ 1 * se + (-1) * (j : Int); omega⟩ (fa_cons ⟨_, _, xk, xa, by show (0 : Int) ≤ 1 * k + (-1) * (fc 34 j).toInt; omega⟩ (fa_cons ⟨_, _, xu, xk, by show (1 : Int) ≤ 1 * (fc 35 j).toInt + (-1) * k; omega⟩ (fa_cons ⟨_, _, xm, xh, by show (1 : Int) ≤ 1 * (fc 32 j).toInt + (-1) * (fc 30 (5 * v + (fc 31 j).toInt).toNat).toInt; omega⟩ fa_nil))))) (fun _ _ h => h.mono he) (fun _ h => h.mono he)
                refine qs_lnkB (p := 53) (ρ := ρ ++ xs) fa_nil hT hA zUg_u1dp2lb (fa_cons (fun ρ1 ht1 hL hg1 _ => ⟨fun rv hrv => ?r0, fun q hq => ?c0⟩) fa_nil)
                case r0 =>
                  have hl1 : ρ1.length = 53 := hg1.len rfl
                  refine ⟨rfl, ?_, Or.inr ⟨rfl, fun hF => ?_⟩⟩
                  · rw [List.take_append_of_le_length (by omega), ht] at ht1
                    rw [← ht1, List.take_of_length_le (by omega)]
                  · have hj2 := hF j (by omega)
                    unfold hs_ok at hj2
                    omega
                case c0 =>
                  have hq : (Sum.inl _ : Option qV ⊕ (Nat × qL × List qV)) = Sum.inr q := hq
                  cases hq
            · have c5 : (fc 33 j).toInt = 1 ∨ (fc 33 j).toInt ≤ 0 ∨ 2 ≤ (fc 33 j).toInt := by omega
              rcases c5 with c4 | c4 | c4
              · skip
                refine qy_TP.pre (ρ' := ρ ++ xs) (g' := zUT_u1s_dp2ge.1) (w' := zUT_u1s_dp2ge.2.1) (lo' := zUT_u1s_dp2ge.2.2.1) (st' := zUT_u1s_dp2ge.2.2.2) ?_ (hwC2 hc) (fun h => h.to xs [(53, 0, 29), (54, -2147483648, 2147483647), (55, 0, 2147483647), (56, -2147483648, 2147483647), (57, 1, 1), (58, -2147483648, 2147483647)] [((.ofNat 1), 22, (.negSucc 0), 53, (.ofNat 1)), ((.ofNat 1), 45, (.negSucc 0), 54, (.ofNat 0)), ((.ofNat 1), 55, (.negSucc 0), 45, (.ofNat 1)), ((.ofNat 1), 58, (.negSucc 0), 56, (.ofNat 0))] (by decide +kernel) (by rw [hlx]; rfl) (by decide +kernel) (fa_ex xj (by omega) (by omega) (fa_ex xa (by have := q_i32bd (fc 34 j); omega) (by have := q_i32bd (fc 34 j); omega) (fa_ex xu (by have := q_i32bd (fc 35 j); omega) (by have := q_i32bd (fc 35 j); omega) (fa_ex xm (by have := q_i32bd (fc 32 j); omega) (by have := q_i32bd (fc 32 j); omega) (fa_ex xi (by have := q_i32bd (fc 33 j); omega) (by have := q_i32bd (fc 33 j); omega) (fa_ex xh (by have := q_i32bd (fc 30 (5 * v + (fc 31 j).toInt).toNat); omega) (by have := q_i32bd (fc 30 (5 * v + (fc 31 j).toInt).toNat); omega) fa_nil)))))) (fa_cons ⟨_, _, xs_, xj, by show (1 : Int) ≤ 1 * se + (-1) * (j : Int); omega⟩ (fa_cons ⟨_, _, xk, xa, by show (0 : Int) ≤ 1 * k + (-1) * (fc 34 j).toInt; omega⟩ (fa_cons ⟨_, _, xu, xk, by show (1 : Int) ≤ 1 * (fc 35 j).toInt + (-1) * k; omega⟩ (fa_cons ⟨_, _, xh, xm, by show (0 : Int) ≤ 1 * (fc 30 (5 * v + (fc 31 j).toInt).toNat).toInt + (-1) * (fc 32 j).toInt; omega⟩ fa_nil))))) (fun _ _ h => h.mono he) (fun _ h => h.mono he)
                refine qs_lnkB (p := 53) (ρ := ρ ++ xs) fa_nil hT hA zUg_u1dp2ge (fa_cons (fun ρ1 ht1 hL hg1 _ => ⟨fun rv hrv => ?r0, fun q hq => ?c0⟩) fa_nil)
                case r0 =>
                  have hrv : (Sum.inr _ : Option qV ⊕ (Nat × qL × List qV)) = Sum.inl rv := hrv
                  cases hrv
                case c0 =>
                  have hq : (Sum.inr _ : Option qV ⊕ (Nat × qL × List qV)) = Sum.inr q := hq
                  cases hq
                  have lj := (hL.n (i := 53) (d := 1) List.mem_cons_self xj)
                  exact ih ρ1 (j + 1) (by rw [ht1, List.take_append_of_le_length (by omega)]; exact ht) (by rw [lj]; exact congrArg some (by omega)) (by omega) (fun i hi => by
                    rcases Nat.lt_or_ge i j with z | z
                    · exact hok i z
                    · have e : i = j := by omega
                      rw [e]
                      exact Or.inr (Or.inr (Or.inl ⟨c3, c4⟩)))
              · skip
                refine qy_TP.pre (ρ' := ρ ++ xs) (g' := zUT_u1s_dp2ga.1) (w' := zUT_u1s_dp2ga.2.1) (lo' := zUT_u1s_dp2ga.2.2.1) (st' := zUT_u1s_dp2ga.2.2.2) ?_ (hwC2 hc) (fun h => h.to xs [(53, 0, 29), (54, -2147483648, 2147483647), (55, 0, 2147483647), (56, -2147483648, 2147483647), (57, -2147483648, 0), (58, -2147483648, 2147483647)] [((.ofNat 1), 22, (.negSucc 0), 53, (.ofNat 1)), ((.ofNat 1), 45, (.negSucc 0), 54, (.ofNat 0)), ((.ofNat 1), 55, (.negSucc 0), 45, (.ofNat 1)), ((.ofNat 1), 58, (.negSucc 0), 56, (.ofNat 0))] (by decide +kernel) (by rw [hlx]; rfl) (by decide +kernel) (fa_ex xj (by omega) (by omega) (fa_ex xa (by have := q_i32bd (fc 34 j); omega) (by have := q_i32bd (fc 34 j); omega) (fa_ex xu (by have := q_i32bd (fc 35 j); omega) (by have := q_i32bd (fc 35 j); omega) (fa_ex xm (by have := q_i32bd (fc 32 j); omega) (by have := q_i32bd (fc 32 j); omega) (fa_ex xi (by have := q_i32bd (fc 33 j); omega) (by have := q_i32bd (fc 33 j); omega) (fa_ex xh (by have := q_i32bd (fc 30 (5 * v + (fc 31 j).toInt).toNat); omega) (by have := q_i32bd (fc 30 (5 * v + (fc 31 j).toInt).toNat); omega) fa_nil)))))) (fa_cons ⟨_, _, xs_, xj, by show (1 : Int) ≤ 1 * se + (-1) * (j : Int); omega⟩ (fa_cons ⟨_, _, xk, xa, by show (0 : Int) ≤ 1 * k + (-1) * (fc 34 j).toInt; omega⟩ (fa_cons ⟨_, _, xu, xk, by show (1 : Int) ≤ 1 * (fc 35 j).toInt + (-1) * k; omega⟩ (fa_cons ⟨_, _, xh, xm, by show (0 : Int) ≤ 1 * (fc 30 (5 * v + (fc 31 j).toInt).toNat).toInt + (-1) * (fc 32 j).toInt; omega⟩ fa_nil))))) (fun _ _ h => h.mono he) (fun _ h => h.mono he)
                refine qs_lnkB (p := 53) (ρ := ρ ++ xs) fa_nil hT hA zUg_u1dp2ga (fa_cons (fun ρ1 ht1 hL hg1 _ => ⟨fun rv hrv => ?r0, fun q hq => ?c0⟩) fa_nil)
                case r0 =>
                  have hl1 : ρ1.length = 53 := hg1.len rfl
                  refine ⟨rfl, ?_, Or.inr ⟨rfl, fun hF => ?_⟩⟩
                  · rw [List.take_append_of_le_length (by omega), ht] at ht1
                    rw [← ht1, List.take_of_length_le (by omega)]
                  · have hj2 := hF j (by omega)
                    unfold hs_ok at hj2
                    omega
                case c0 =>
                  have hq : (Sum.inl _ : Option qV ⊕ (Nat × qL × List qV)) = Sum.inr q := hq
                  cases hq
              · skip
                refine qy_TP.pre (ρ' := ρ ++ xs) (g' := zUT_u1s_dp2gb.1) (w' := zUT_u1s_dp2gb.2.1) (lo' := zUT_u1s_dp2gb.2.2.1) (st' := zUT_u1s_dp2gb.2.2.2) ?_ (hwC2 hc) (fun h => h.to xs [(53, 0, 29), (54, -2147483648, 2147483647), (55, 0, 2147483647), (56, -2147483648, 2147483647), (57, 2, 2147483647), (58, -2147483648, 2147483647)] [((.ofNat 1), 22, (.negSucc 0), 53, (.ofNat 1)), ((.ofNat 1), 45, (.negSucc 0), 54, (.ofNat 0)), ((.ofNat 1), 55, (.negSucc 0), 45, (.ofNat 1)), ((.ofNat 1), 58, (.negSucc 0), 56, (.ofNat 0))] (by decide +kernel) (by rw [hlx]; rfl) (by decide +kernel) (fa_ex xj (by omega) (by omega) (fa_ex xa (by have := q_i32bd (fc 34 j); omega) (by have := q_i32bd (fc 34 j); omega) (fa_ex xu (by have := q_i32bd (fc 35 j); omega) (by have := q_i32bd (fc 35 j); omega) (fa_ex xm (by have := q_i32bd (fc 32 j); omega) (by have := q_i32bd (fc 32 j); omega) (fa_ex xi (by have := q_i32bd (fc 33 j); omega) (by have := q_i32bd (fc 33 j); omega) (fa_ex xh (by have := q_i32bd (fc 30 (5 * v + (fc 31 j).toInt).toNat); omega) (by have := q_i32bd (fc 30 (5 * v + (fc 31 j).toInt).toNat); omega) fa_nil)))))) (fa_cons ⟨_, _, xs_, xj, by show (1 : Int) ≤ 1 * se + (-1) * (j : Int); omega⟩ (fa_cons ⟨_, _, xk, xa, by show (0 : Int) ≤ 1 * k + (-1) * (fc 34 j).toInt; omega⟩ (fa_cons ⟨_, _, xu, xk, by show (1 : Int) ≤ 1 * (fc 35 j).toInt + (-1) * k; omega⟩ (fa_cons ⟨_, _, xh, xm, by show (0 : Int) ≤ 1 * (fc 30 (5 * v + (fc 31 j).toInt).toNat).toInt + (-1) * (fc 32 j).toInt; omega⟩ fa_nil))))) (fun _ _ h => h.mono he) (fun _ h => h.mono he)
                refine qs_lnkB (p := 53) (ρ := ρ ++ xs) fa_nil hT hA zUg_u1dp2gb (fa_cons (fun ρ1 ht1 hL hg1 _ => ⟨fun rv hrv => ?r0, fun q hq => ?c0⟩) fa_nil)
                case r0 =>
                  have hl1 : ρ1.length = 53 := hg1.len rfl
                  refine ⟨rfl, ?_, Or.inr ⟨rfl, fun hF => ?_⟩⟩
                  · rw [List.take_append_of_le_length (by omega), ht] at ht1
                    rw [← ht1, List.take_of_length_le (by omega)]
                  · have hj2 := hF j (by omega)
                    unfold hs_ok at hj2
                    omega
                case c0 =>
                  have hq : (Sum.inl _ : Option qV ⊕ (Nat × qL × List qV)) = Sum.inr q := hq
                  cases hq
          · rcases Int.lt_or_le (fc 30 (5 * v + (fc 31 j).toInt).toNat).toInt (fc 32 j).toInt with c3 | c3
            · have c5 : (fc 33 j).toInt = 0 ∨ (fc 33 j).toInt ≤ -1 ∨ 1 ≤ (fc 33 j).toInt := by omega
              rcases c5 with c4 | c4 | c4
              · skip
                refine qy_TP.pre (ρ' := ρ ++ xs) (g' := zUT_u1s_dp3le.1) (w' := zUT_u1s_dp3le.2.1) (lo' := zUT_u1s_dp3le.2.2.1) (st' := zUT_u1s_dp3le.2.2.2) ?_ (hwC3 hc) (fun h => h.to xs [(53, 0, 29), (54, -2147483648, 2147483647), (55, 0, 2147483647), (56, -2147483648, 2147483647), (57, 0, 0), (58, -2147483648, 2147483647)] [((.ofNat 1), 22, (.negSucc 0), 53, (.ofNat 1)), ((.ofNat 1), 45, (.negSucc 0), 54, (.ofNat 0)), ((.ofNat 1), 55, (.negSucc 0), 45, (.ofNat 1)), ((.ofNat 1), 56, (.negSucc 0), 58, (.ofNat 1))] (by decide +kernel) (by rw [hlx]; rfl) (by decide +kernel) (fa_ex xj (by omega) (by omega) (fa_ex xa (by have := q_i32bd (fc 34 j); omega) (by have := q_i32bd (fc 34 j); omega) (fa_ex xu (by have := q_i32bd (fc 35 j); omega) (by have := q_i32bd (fc 35 j); omega) (fa_ex xm (by have := q_i32bd (fc 32 j); omega) (by have := q_i32bd (fc 32 j); omega) (fa_ex xi (by have := q_i32bd (fc 33 j); omega) (by have := q_i32bd (fc 33 j); omega) (fa_ex xh (by have := q_i32bd (fc 30 (5 * v + (fc 31 j).toInt).toNat); omega) (by have := q_i32bd (fc 30 (5 * v + (fc 31 j).toInt).toNat); omega) fa_nil)))))) (fa_cons ⟨_, _, xs_, xj, by show (1 : Int) ≤ 1 * se + (-1) * (j : Int); omega⟩ (fa_cons ⟨_, _, xk, xa, by show (0 : Int) ≤ 1 * k + (-1) * (fc 34 j).toInt; omega⟩ (fa_cons ⟨_, _, xu, xk, by show (1 : Int) ≤ 1 * (fc 35 j).toInt + (-1) * k; omega⟩ (fa_cons ⟨_, _, xm, xh, by show (1 : Int) ≤ 1 * (fc 32 j).toInt + (-1) * (fc 30 (5 * v + (fc 31 j).toInt).toNat).toInt; omega⟩ fa_nil))))) (fun _ _ h => h.mono he) (fun _ h => h.mono he)
                refine qs_lnkB (p := 53) (ρ := ρ ++ xs) fa_nil hT hA zUg_u1dp3le (fa_cons (fun ρ1 ht1 hL hg1 _ => ⟨fun rv hrv => ?r0, fun q hq => ?c0⟩) fa_nil)
                case r0 =>
                  have hrv : (Sum.inr _ : Option qV ⊕ (Nat × qL × List qV)) = Sum.inl rv := hrv
                  cases hrv
                case c0 =>
                  have hq : (Sum.inr _ : Option qV ⊕ (Nat × qL × List qV)) = Sum.inr q := hq
                  cases hq
                  have lj := (hL.n (i := 53) (d := 1) List.mem_cons_self xj)
                  exact ih ρ1 (j + 1) (by rw [ht1, List.take_append_of_le_length (by omega)]; exact ht) (by rw [lj]; exact congrArg some (by omega)) (by omega) (fun i hi => by
                    rcases Nat.lt_or_ge i j with z | z
                    · exact hok i z
                    · have e : i = j := by omega
                      rw [e]
                      exact Or.inr (Or.inr (Or.inr ⟨c3, c4⟩)))
              · skip
                refine qy_TP.pre (ρ' := ρ ++ xs) (g' := zUT_u1s_dp3la.1) (w' := zUT_u1s_dp3la.2.1) (lo' := zUT_u1s_dp3la.2.2.1) (st' := zUT_u1s_dp3la.2.2.2) ?_ (hwC3 hc) (fun h => h.to xs [(53, 0, 29), (54, -2147483648, 2147483647), (55, 0, 2147483647), (56, -2147483648, 2147483647), (57, -2147483648, -1), (58, -2147483648, 2147483647)] [((.ofNat 1), 22, (.negSucc 0), 53, (.ofNat 1)), ((.ofNat 1), 45, (.negSucc 0), 54, (.ofNat 0)), ((.ofNat 1), 55, (.negSucc 0), 45, (.ofNat 1)), ((.ofNat 1), 56, (.negSucc 0), 58, (.ofNat 1))] (by decide +kernel) (by rw [hlx]; rfl) (by decide +kernel) (fa_ex xj (by omega) (by omega) (fa_ex xa (by have := q_i32bd (fc 34 j); omega) (by have := q_i32bd (fc 34 j); omega) (fa_ex xu (by have := q_i32bd (fc 35 j); omega) (by have := q_i32bd (fc 35 j); omega) (fa_ex xm (by have := q_i32bd (fc 32 j); omega) (by have := q_i32bd (fc 32 j); omega) (fa_ex xi (by have := q_i32bd (fc 33 j); omega) (by have := q_i32bd (fc 33 j); omega) (fa_ex xh (by have := q_i32bd (fc 30 (5 * v + (fc 31 j).toInt).toNat); omega) (by have := q_i32bd (fc 30 (5 * v + (fc 31 j).toInt).toNat); omega) fa_nil)))))) (fa_cons ⟨_, _, xs_, xj, by show (1 : Int) ≤ 1 * se + (-1) * (j : Int); omega⟩ (fa_cons ⟨_, _, xk, xa, by show (0 : Int) ≤ 1 * k + (-1) * (fc 34 j).toInt; omega⟩ (fa_cons ⟨_, _, xu, xk, by show (1 : Int) ≤ 1 * (fc 35 j).toInt + (-1) * k; omega⟩ (fa_cons ⟨_, _, xm, xh, by show (1 : Int) ≤ 1 * (fc 32 j).toInt + (-1) * (fc 30 (5 * v + (fc 31 j).toInt).toNat).toInt; omega⟩ fa_nil))))) (fun _ _ h => h.mono he) (fun _ h => h.mono he)
                refine qs_lnkB (p := 53) (ρ := ρ ++ xs) fa_nil hT hA zUg_u1dp3la (fa_cons (fun ρ1 ht1 hL hg1 _ => ⟨fun rv hrv => ?r0, fun q hq => ?c0⟩) fa_nil)
                case r0 =>
                  have hl1 : ρ1.length = 53 := hg1.len rfl
                  refine ⟨rfl, ?_, Or.inr ⟨rfl, fun hF => ?_⟩⟩
                  · rw [List.take_append_of_le_length (by omega), ht] at ht1
                    rw [← ht1, List.take_of_length_le (by omega)]
                  · have hj2 := hF j (by omega)
                    unfold hs_ok at hj2
                    omega
                case c0 =>
                  have hq : (Sum.inl _ : Option qV ⊕ (Nat × qL × List qV)) = Sum.inr q := hq
                  cases hq
              · skip
                refine qy_TP.pre (ρ' := ρ ++ xs) (g' := zUT_u1s_dp3lb.1) (w' := zUT_u1s_dp3lb.2.1) (lo' := zUT_u1s_dp3lb.2.2.1) (st' := zUT_u1s_dp3lb.2.2.2) ?_ (hwC3 hc) (fun h => h.to xs [(53, 0, 29), (54, -2147483648, 2147483647), (55, 0, 2147483647), (56, -2147483648, 2147483647), (57, 1, 2147483647), (58, -2147483648, 2147483647)] [((.ofNat 1), 22, (.negSucc 0), 53, (.ofNat 1)), ((.ofNat 1), 45, (.negSucc 0), 54, (.ofNat 0)), ((.ofNat 1), 55, (.negSucc 0), 45, (.ofNat 1)), ((.ofNat 1), 56, (.negSucc 0), 58, (.ofNat 1))] (by decide +kernel) (by rw [hlx]; rfl) (by decide +kernel) (fa_ex xj (by omega) (by omega) (fa_ex xa (by have := q_i32bd (fc 34 j); omega) (by have := q_i32bd (fc 34 j); omega) (fa_ex xu (by have := q_i32bd (fc 35 j); omega) (by have := q_i32bd (fc 35 j); omega) (fa_ex xm (by have := q_i32bd (fc 32 j); omega) (by have := q_i32bd (fc 32 j); omega) (fa_ex xi (by have := q_i32bd (fc 33 j); omega) (by have := q_i32bd (fc 33 j); omega) (fa_ex xh (by have := q_i32bd (fc 30 (5 * v + (fc 31 j).toInt).toNat); omega) (by have := q_i32bd (fc 30 (5 * v + (fc 31 j).toInt).toNat); omega) fa_nil)))))) (fa_cons ⟨_, _, xs_, xj, by show (1 : Int) ≤ 1 * se + (-1) * (j : Int); omega⟩ (fa_cons ⟨_, _, xk, xa, by show (0 : Int) ≤ 1 * k + (-1) * (fc 34 j).toInt; omega⟩ (fa_cons ⟨_, _, xu, xk, by show (1 : Int) ≤ 1 * (fc 35 j).toInt + (-1) * k; omega⟩ (fa_cons ⟨_, _, xm, xh, by show (1 : Int) ≤ 1 * (fc 32 j).toInt + (-1) * (fc 30 (5 * v + (fc 31 j).toInt).toNat).toInt; omega⟩ fa_nil))))) (fun _ _ h => h.mono he) (fun _ h => h.mono he)
                refine qs_lnkB (p := 53) (ρ := ρ ++ xs) fa_nil hT hA zUg_u1dp3lb (fa_cons (fun ρ1 ht1 hL hg1 _ => ⟨fun rv hrv => ?r0, fun q hq => ?c0⟩) fa_nil)
                case r0 =>
                  have hl1 : ρ1.length = 53 := hg1.len rfl
                  refine ⟨rfl, ?_, Or.inr ⟨rfl, fun hF => ?_⟩⟩
                  · rw [List.take_append_of_le_length (by omega), ht] at ht1
                    rw [← ht1, List.take_of_length_le (by omega)]
                  · have hj2 := hF j (by omega)
                    unfold hs_ok at hj2
                    omega
                case c0 =>
                  have hq : (Sum.inl _ : Option qV ⊕ (Nat × qL × List qV)) = Sum.inr q := hq
                  cases hq
            · have c5 : (fc 33 j).toInt = 1 ∨ (fc 33 j).toInt ≤ 0 ∨ 2 ≤ (fc 33 j).toInt := by omega
              rcases c5 with c4 | c4 | c4
              · skip
                refine qy_TP.pre (ρ' := ρ ++ xs) (g' := zUT_u1s_dp3ge.1) (w' := zUT_u1s_dp3ge.2.1) (lo' := zUT_u1s_dp3ge.2.2.1) (st' := zUT_u1s_dp3ge.2.2.2) ?_ (hwC3 hc) (fun h => h.to xs [(53, 0, 29), (54, -2147483648, 2147483647), (55, 0, 2147483647), (56, -2147483648, 2147483647), (57, 1, 1), (58, -2147483648, 2147483647)] [((.ofNat 1), 22, (.negSucc 0), 53, (.ofNat 1)), ((.ofNat 1), 45, (.negSucc 0), 54, (.ofNat 0)), ((.ofNat 1), 55, (.negSucc 0), 45, (.ofNat 1)), ((.ofNat 1), 58, (.negSucc 0), 56, (.ofNat 0))] (by decide +kernel) (by rw [hlx]; rfl) (by decide +kernel) (fa_ex xj (by omega) (by omega) (fa_ex xa (by have := q_i32bd (fc 34 j); omega) (by have := q_i32bd (fc 34 j); omega) (fa_ex xu (by have := q_i32bd (fc 35 j); omega) (by have := q_i32bd (fc 35 j); omega) (fa_ex xm (by have := q_i32bd (fc 32 j); omega) (by have := q_i32bd (fc 32 j); omega) (fa_ex xi (by have := q_i32bd (fc 33 j); omega) (by have := q_i32bd (fc 33 j); omega) (fa_ex xh (by have := q_i32bd (fc 30 (5 * v + (fc 31 j).toInt).toNat); omega) (by have := q_i32bd (fc 30 (5 * v + (fc 31 j).toInt).toNat); omega) fa_nil)))))) (fa_cons ⟨_, _, xs_, xj, by show (1 : Int) ≤ 1 * se + (-1) * (j : Int); omega⟩ (fa_cons ⟨_, _, xk, xa, by show (0 : Int) ≤ 1 * k + (-1) * (fc 34 j).toInt; omega⟩ (fa_cons ⟨_, _, xu, xk, by show (1 : Int) ≤ 1 * (fc 35 j).toInt + (-1) * k; omega⟩ (fa_cons ⟨_, _, xh, xm, by show (0 : Int) ≤ 1 * (fc 30 (5 * v + (fc 31 j).toInt).toNat).toInt + (-1) * (fc 32 j).toInt; omega⟩ fa_nil))))) (fun _ _ h => h.mono he) (fun _ h => h.mono he)
                refine qs_lnkB (p := 53) (ρ := ρ ++ xs) fa_nil hT hA zUg_u1dp3ge (fa_cons (fun ρ1 ht1 hL hg1 _ => ⟨fun rv hrv => ?r0, fun q hq => ?c0⟩) fa_nil)
                case r0 =>
                  have hrv : (Sum.inr _ : Option qV ⊕ (Nat × qL × List qV)) = Sum.inl rv := hrv
                  cases hrv
                case c0 =>
                  have hq : (Sum.inr _ : Option qV ⊕ (Nat × qL × List qV)) = Sum.inr q := hq
                  cases hq
                  have lj := (hL.n (i := 53) (d := 1) List.mem_cons_self xj)
                  exact ih ρ1 (j + 1) (by rw [ht1, List.take_append_of_le_length (by omega)]; exact ht) (by rw [lj]; exact congrArg some (by omega)) (by omega) (fun i hi => by
                    rcases Nat.lt_or_ge i j with z | z
                    · exact hok i z
                    · have e : i = j := by omega
                      rw [e]
                      exact Or.inr (Or.inr (Or.inl ⟨c3, c4⟩)))
              · skip
                refine qy_TP.pre (ρ' := ρ ++ xs) (g' := zUT_u1s_dp3ga.1) (w' := zUT_u1s_dp3ga.2.1) (lo' := zUT_u1s_dp3ga.2.2.1) (st' := zUT_u1s_dp3ga.2.2.2) ?_ (hwC3 hc) (fun h => h.to xs [(53, 0, 29), (54, -2147483648, 2147483647), (55, 0, 2147483647), (56, -2147483648, 2147483647), (57, -2147483648, 0), (58, -2147483648, 2147483647)] [((.ofNat 1), 22, (.negSucc 0), 53, (.ofNat 1)), ((.ofNat 1), 45, (.negSucc 0), 54, (.ofNat 0)), ((.ofNat 1), 55, (.negSucc 0), 45, (.ofNat 1)), ((.ofNat 1), 58, (.negSucc 0), 56, (.ofNat 0))] (by decide +kernel) (by rw [hlx]; rfl) (by decide +kernel) (fa_ex xj (by omega) (by omega) (fa_ex xa (by have := q_i32bd (fc 34 j); omega) (by have := q_i32bd (fc 34 j); omega) (fa_ex xu (by have := q_i32bd (fc 35 j); omega) (by have := q_i32bd (fc 35 j); omega) (fa_ex xm (by have := q_i32bd (fc 32 j); omega) (by have := q_i32bd (fc 32 j); omega) (fa_ex xi (by have := q_i32bd (fc 33 j); omega) (by have := q_i32bd (fc 33 j); omega) (fa_ex xh (by have := q_i32bd (fc 30 (5 * v + (fc 31 j).toInt).toNat); omega) (by have := q_i32bd (fc 30 (5 * v + (fc 31 j).toInt).toNat); omega) fa_nil)))))) (fa_cons ⟨_, _, xs_, xj, by show (1 : Int) ≤ 1 * se + (-1) * (j : Int); omega⟩ (fa_cons ⟨_, _, xk, xa, by show (0 : Int) ≤ 1 * k + (-1) * (fc 34 j).toInt; omega⟩ (fa_cons ⟨_, _, xu, xk, by show (1 : Int) ≤ 1 * (fc 35 j).toInt + (-1) * k; omega⟩ (fa_cons ⟨_, _, xh, xm, by show (0 : Int) ≤ 1 * (fc 30 (5 * v + (fc 31 j).toInt).toNat).toInt + (-1) * (fc 32 j).toInt; omega⟩ fa_nil))))) (fun _ _ h => h.mono he) (fun _ h => h.mono he)
                refine qs_lnkB (p := 53) (ρ := ρ ++ xs) fa_nil hT hA zUg_u1dp3ga (fa_cons (fun ρ1 ht1 hL hg1 _ => ⟨fun rv hrv => ?r0, fun q hq => ?c0⟩) fa_nil)
                case r0 =>
                  have hl1 : ρ1.length = 53 := hg1.len rfl
                  refine ⟨rfl, ?_, Or.inr ⟨rfl, fun hF => ?_⟩⟩
                  · rw [List.take_append_of_le_length (by omega), ht] at ht1
                    rw [← ht1, List.take_of_length_le (by omega)]
                  · have hj2 := hF j (by omega)
                    unfold hs_ok at hj2
                    omega
                case c0 =>
                  have hq : (Sum.inl _ : Option qV ⊕ (Nat × qL × List qV)) = Sum.inr q := hq
                  cases hq
              · skip
                refine qy_TP.pre (ρ' := ρ ++ xs) (g' := zUT_u1s_dp3gb.1) (w' := zUT_u1s_dp3gb.2.1) (lo' := zUT_u1s_dp3gb.2.2.1) (st' := zUT_u1s_dp3gb.2.2.2) ?_ (hwC3 hc) (fun h => h.to xs [(53, 0, 29), (54, -2147483648, 2147483647), (55, 0, 2147483647), (56, -2147483648, 2147483647), (57, 2, 2147483647), (58, -2147483648, 2147483647)] [((.ofNat 1), 22, (.negSucc 0), 53, (.ofNat 1)), ((.ofNat 1), 45, (.negSucc 0), 54, (.ofNat 0)), ((.ofNat 1), 55, (.negSucc 0), 45, (.ofNat 1)), ((.ofNat 1), 58, (.negSucc 0), 56, (.ofNat 0))] (by decide +kernel) (by rw [hlx]; rfl) (by decide +kernel) (fa_ex xj (by omega) (by omega) (fa_ex xa (by have := q_i32bd (fc 34 j); omega) (by have := q_i32bd (fc 34 j); omega) (fa_ex xu (by have := q_i32bd (fc 35 j); omega) (by have := q_i32bd (fc 35 j); omega) (fa_ex xm (by have := q_i32bd (fc 32 j); omega) (by have := q_i32bd (fc 32 j); omega) (fa_ex xi (by have := q_i32bd (fc 33 j); omega) (by have := q_i32bd (fc 33 j); omega) (fa_ex xh (by have := q_i32bd (fc 30 (5 * v + (fc 31 j).toInt).toNat); omega) (by have := q_i32bd (fc 30 (5 * v + (fc 31 j).toInt).toNat); omega) fa_nil)))))) (fa_cons ⟨_, _, xs_, xj, by show (1 : Int) ≤ 1 * se + (-1) * (j : Int); omega⟩ (fa_cons ⟨_, _, xk, xa, by show (0 : Int) ≤ 1 * k + (-1) * (fc 34 j).toInt; omega⟩ (fa_cons ⟨_, _, xu, xk, by show (1 : Int) ≤ 1 * (fc 35 j).toInt + (-1) * k; omega⟩ (fa_cons ⟨_, _, xh, xm, by show (0 : Int) ≤ 1 * (fc 30 (5 * v + (fc 31 j).toInt).toNat).toInt + (-1) * (fc 32 j).toInt; omega⟩ fa_nil))))) (fun _ _ h => h.mono he) (fun _ h => h.mono he)
                refine qs_lnkB (p := 53) (ρ := ρ ++ xs) fa_nil hT hA zUg_u1dp3gb (fa_cons (fun ρ1 ht1 hL hg1 _ => ⟨fun rv hrv => ?r0, fun q hq => ?c0⟩) fa_nil)
                case r0 =>
                  have hl1 : ρ1.length = 53 := hg1.len rfl
                  refine ⟨rfl, ?_, Or.inr ⟨rfl, fun hF => ?_⟩⟩
                  · rw [List.take_append_of_le_length (by omega), ht] at ht1
                    rw [← ht1, List.take_of_length_le (by omega)]
                  · have hj2 := hF j (by omega)
                    unfold hs_ok at hj2
                    omega
                case c0 =>
                  have hq : (Sum.inl _ : Option qV ⊕ (Nat × qL × List qV)) = Sum.inr q := hq
                  cases hq
          · rcases Int.lt_or_le (fc 30 (5 * v + (fc 31 j).toInt).toNat).toInt (fc 32 j).toInt with c3 | c3
            · have c5 : (fc 33 j).toInt = 0 ∨ (fc 33 j).toInt ≤ -1 ∨ 1 ≤ (fc 33 j).toInt := by omega
              rcases c5 with c4 | c4 | c4
              · skip
                refine qy_TP.pre (ρ' := ρ ++ xs) (g' := zUT_u1s_dp4le.1) (w' := zUT_u1s_dp4le.2.1) (lo' := zUT_u1s_dp4le.2.2.1) (st' := zUT_u1s_dp4le.2.2.2) ?_ (hwC4 hc) (fun h => h.to xs [(53, 0, 29), (54, -2147483648, 2147483647), (55, 0, 2147483647), (56, -2147483648, 2147483647), (57, 0, 0), (58, -2147483648, 2147483647)] [((.ofNat 1), 22, (.negSucc 0), 53, (.ofNat 1)), ((.ofNat 1), 45, (.negSucc 0), 54, (.ofNat 0)), ((.ofNat 1), 55, (.negSucc 0), 45, (.ofNat 1)), ((.ofNat 1), 56, (.negSucc 0), 58, (.ofNat 1))] (by decide +kernel) (by rw [hlx]; rfl) (by decide +kernel) (fa_ex xj (by omega) (by omega) (fa_ex xa (by have := q_i32bd (fc 34 j); omega) (by have := q_i32bd (fc 34 j); omega) (fa_ex xu (by have := q_i32bd (fc 35 j); omega) (by have := q_i32bd (fc 35 j); omega) (fa_ex xm (by have := q_i32bd (fc 32 j); omega) (by have := q_i32bd (fc 32 j); omega) (fa_ex xi (by have := q_i32bd (fc 33 j); omega) (by have := q_i32bd (fc 33 j); omega) (fa_ex xh (by have := q_i32bd (fc 30 (5 * v + (fc 31 j).toInt).toNat); omega) (by have := q_i32bd (fc 30 (5 * v + (fc 31 j).toInt).toNat); omega) fa_nil)))))) (fa_cons ⟨_, _, xs_, xj, by show (1 : Int) ≤ 1 * se + (-1) * (j : Int); omega⟩ (fa_cons ⟨_, _, xk, xa, by show (0 : Int) ≤ 1 * k + (-1) * (fc 34 j).toInt; omega⟩ (fa_cons ⟨_, _, xu, xk, by show (1 : Int) ≤ 1 * (fc 35 j).toInt + (-1) * k; omega⟩ (fa_cons ⟨_, _, xm, xh, by show (1 : Int) ≤ 1 * (fc 32 j).toInt + (-1) * (fc 30 (5 * v + (fc 31 j).toInt).toNat).toInt; omega⟩ fa_nil))))) (fun _ _ h => h.mono he) (fun _ h => h.mono he)
                refine qs_lnkB (p := 53) (ρ := ρ ++ xs) fa_nil hT hA zUg_u1dp4le (fa_cons (fun ρ1 ht1 hL hg1 _ => ⟨fun rv hrv => ?r0, fun q hq => ?c0⟩) fa_nil)
                case r0 =>
                  have hrv : (Sum.inr _ : Option qV ⊕ (Nat × qL × List qV)) = Sum.inl rv := hrv
                  cases hrv
                case c0 =>
                  have hq : (Sum.inr _ : Option qV ⊕ (Nat × qL × List qV)) = Sum.inr q := hq
                  cases hq
                  have lj := (hL.n (i := 53) (d := 1) List.mem_cons_self xj)
                  exact ih ρ1 (j + 1) (by rw [ht1, List.take_append_of_le_length (by omega)]; exact ht) (by rw [lj]; exact congrArg some (by omega)) (by omega) (fun i hi => by
                    rcases Nat.lt_or_ge i j with z | z
                    · exact hok i z
                    · have e : i = j := by omega
                      rw [e]
                      exact Or.inr (Or.inr (Or.inr ⟨c3, c4⟩)))
              · skip
                refine qy_TP.pre (ρ' := ρ ++ xs) (g' := zUT_u1s_dp4la.1) (w' := zUT_u1s_dp4la.2.1) (lo' := zUT_u1s_dp4la.2.2.1) (st' := zUT_u1s_dp4la.2.2.2) ?_ (hwC4 hc) (fun h => h.to xs [(53, 0, 29), (54, -2147483648, 2147483647), (55, 0, 2147483647), (56, -2147483648, 2147483647), (57, -2147483648, -1), (58, -2147483648, 2147483647)] [((.ofNat 1), 22, (.negSucc 0), 53, (.ofNat 1)), ((.ofNat 1), 45, (.negSucc 0), 54, (.ofNat 0)), ((.ofNat 1), 55, (.negSucc 0), 45, (.ofNat 1)), ((.ofNat 1), 56, (.negSucc 0), 58, (.ofNat 1))] (by decide +kernel) (by rw [hlx]; rfl) (by decide +kernel) (fa_ex xj (by omega) (by omega) (fa_ex xa (by have := q_i32bd (fc 34 j); omega) (by have := q_i32bd (fc 34 j); omega) (fa_ex xu (by have := q_i32bd (fc 35 j); omega) (by have := q_i32bd (fc 35 j); omega) (fa_ex xm (by have := q_i32bd (fc 32 j); omega) (by have := q_i32bd (fc 32 j); omega) (fa_ex xi (by have := q_i32bd (fc 33 j); omega) (by have := q_i32bd (fc 33 j); omega) (fa_ex xh (by have := q_i32bd (fc 30 (5 * v + (fc 31 j).toInt).toNat); omega) (by have := q_i32bd (fc 30 (5 * v + (fc 31 j).toInt).toNat); omega) fa_nil)))))) (fa_cons ⟨_, _, xs_, xj, by show (1 : Int) ≤ 1 * se + (-1) * (j : Int); omega⟩ (fa_cons ⟨_, _, xk, xa, by show (0 : Int) ≤ 1 * k + (-1) * (fc 34 j).toInt; omega⟩ (fa_cons ⟨_, _, xu, xk, by show (1 : Int) ≤ 1 * (fc 35 j).toInt + (-1) * k; omega⟩ (fa_cons ⟨_, _, xm, xh, by show (1 : Int) ≤ 1 * (fc 32 j).toInt + (-1) * (fc 30 (5 * v + (fc 31 j).toInt).toNat).toInt; omega⟩ fa_nil))))) (fun _ _ h => h.mono he) (fun _ h => h.mono he)
                refine qs_lnkB (p := 53) (ρ := ρ ++ xs) fa_nil hT hA zUg_u1dp4la (fa_cons (fun ρ1 ht1 hL hg1 _ => ⟨fun rv hrv => ?r0, fun q hq => ?c0⟩) fa_nil)
                case r0 =>
                  have hl1 : ρ1.length = 53 := hg1.len rfl
                  refine ⟨rfl, ?_, Or.inr ⟨rfl, fun hF => ?_⟩⟩
                  · rw [List.take_append_of_le_length (by omega), ht] at ht1
                    rw [← ht1, List.take_of_length_le (by omega)]
                  · have hj2 := hF j (by omega)
                    unfold hs_ok at hj2
                    omega
                case c0 =>
                  have hq : (Sum.inl _ : Option qV ⊕ (Nat × qL × List qV)) = Sum.inr q := hq
                  cases hq
              · skip
                refine qy_TP.pre (ρ' := ρ ++ xs) (g' := zUT_u1s_dp4lb.1) (w' := zUT_u1s_dp4lb.2.1) (lo' := zUT_u1s_dp4lb.2.2.1) (st' := zUT_u1s_dp4lb.2.2.2) ?_ (hwC4 hc) (fun h => h.to xs [(53, 0, 29), (54, -2147483648, 2147483647), (55, 0, 2147483647), (56, -2147483648, 2147483647), (57, 1, 2147483647), (58, -2147483648, 2147483647)] [((.ofNat 1), 22, (.negSucc 0), 53, (.ofNat 1)), ((.ofNat 1), 45, (.negSucc 0), 54, (.ofNat 0)), ((.ofNat 1), 55, (.negSucc 0), 45, (.ofNat 1)), ((.ofNat 1), 56, (.negSucc 0), 58, (.ofNat 1))] (by decide +kernel) (by rw [hlx]; rfl) (by decide +kernel) (fa_ex xj (by omega) (by omega) (fa_ex xa (by have := q_i32bd (fc 34 j); omega) (by have := q_i32bd (fc 34 j); omega) (fa_ex xu (by have := q_i32bd (fc 35 j); omega) (by have := q_i32bd (fc 35 j); omega) (fa_ex xm (by have := q_i32bd (fc 32 j); omega) (by have := q_i32bd (fc 32 j); omega) (fa_ex xi (by have := q_i32bd (fc 33 j); omega) (by have := q_i32bd (fc 33 j); omega) (fa_ex xh (by have := q_i32bd (fc 30 (5 * v + (fc 31 j).toInt).toNat); omega) (by have := q_i32bd (fc 30 (5 * v + (fc 31 j).toInt).toNat); omega) fa_nil)))))) (fa_cons ⟨_, _, xs_, xj, by show (1 : Int) ≤ 1 * se + (-1) * (j : Int); omega⟩ (fa_cons ⟨_, _, xk, xa, by show (0 : Int) ≤ 1 * k + (-1) * (fc 34 j).toInt; omega⟩ (fa_cons ⟨_, _, xu, xk, by show (1 : Int) ≤ 1 * (fc 35 j).toInt + (-1) * k; omega⟩ (fa_cons ⟨_, _, xm, xh, by show (1 : Int) ≤ 1 * (fc 32 j).toInt + (-1) * (fc 30 (5 * v + (fc 31 j).toInt).toNat).toInt; omega⟩ fa_nil))))) (fun _ _ h => h.mono he) (fun _ h => h.mono he)
                refine qs_lnkB (p := 53) (ρ := ρ ++ xs) fa_nil hT hA zUg_u1dp4lb (fa_cons (fun ρ1 ht1 hL hg1 _ => ⟨fun rv hrv => ?r0, fun q hq => ?c0⟩) fa_nil)
                case r0 =>
                  have hl1 : ρ1.length = 53 := hg1.len rfl
                  refine ⟨rfl, ?_, Or.inr ⟨rfl, fun hF => ?_⟩⟩
                  · rw [List.take_append_of_le_length (by omega), ht] at ht1
                    rw [← ht1, List.take_of_length_le (by omega)]
                  · have hj2 := hF j (by omega)
                    unfold hs_ok at hj2
                    omega
                case c0 =>
                  have hq : (Sum.inl _ : Option qV ⊕ (Nat × qL × List qV)) = Sum.inr q := hq
                  cases hq
            · have c5 : (fc 33 j).toInt = 1 ∨ (fc 33 j).toInt ≤ 0 ∨ 2 ≤ (fc 33 j).toInt := by omega
              rcases c5 with c4 | c4 | c4
              · skip
                refine qy_TP.pre (ρ' := ρ ++ xs) (g' := zUT_u1s_dp4ge.1) (w' := zUT_u1s_dp4ge.2.1) (lo' := zUT_u1s_dp4ge.2.2.1) (st' := zUT_u1s_dp4ge.2.2.2) ?_ (hwC4 hc) (fun h => h.to xs [(53, 0, 29), (54, -2147483648, 2147483647), (55, 0, 2147483647), (56, -2147483648, 2147483647), (57, 1, 1), (58, -2147483648, 2147483647)] [((.ofNat 1), 22, (.negSucc 0), 53, (.ofNat 1)), ((.ofNat 1), 45, (.negSucc 0), 54, (.ofNat 0)), ((.ofNat 1), 55, (.negSucc 0), 45, (.ofNat 1)), ((.ofNat 1), 58, (.negSucc 0), 56, (.ofNat 0))] (by decide +kernel) (by rw [hlx]; rfl) (by decide +kernel) (fa_ex xj (by omega) (by omega) (fa_ex xa (by have := q_i32bd (fc 34 j); omega) (by have := q_i32bd (fc 34 j); omega) (fa_ex xu (by have := q_i32bd (fc 35 j); omega) (by have := q_i32bd (fc 35 j); omega) (fa_ex xm (by have := q_i32bd (fc 32 j); omega) (by have := q_i32bd (fc 32 j); omega) (fa_ex xi (by have := q_i32bd (fc 33 j); omega) (by have := q_i32bd (fc 33 j); omega) (fa_ex xh (by have := q_i32bd (fc 30 (5 * v + (fc 31 j).toInt).toNat); omega) (by have := q_i32bd (fc 30 (5 * v + (fc 31 j).toInt).toNat); omega) fa_nil)))))) (fa_cons ⟨_, _, xs_, xj, by show (1 : Int) ≤ 1 * se + (-1) * (j : Int); omega⟩ (fa_cons ⟨_, _, xk, xa, by show (0 : Int) ≤ 1 * k + (-1) * (fc 34 j).toInt; omega⟩ (fa_cons ⟨_, _, xu, xk, by show (1 : Int) ≤ 1 * (fc 35 j).toInt + (-1) * k; omega⟩ (fa_cons ⟨_, _, xh, xm, by show (0 : Int) ≤ 1 * (fc 30 (5 * v + (fc 31 j).toInt).toNat).toInt + (-1) * (fc 32 j).toInt; omega⟩ fa_nil))))) (fun _ _ h => h.mono he) (fun _ h => h.mono he)
                refine qs_lnkB (p := 53) (ρ := ρ ++ xs) fa_nil hT hA zUg_u1dp4ge (fa_cons (fun ρ1 ht1 hL hg1 _ => ⟨fun rv hrv => ?r0, fun q hq => ?c0⟩) fa_nil)
                case r0 =>
                  have hrv : (Sum.inr _ : Option qV ⊕ (Nat × qL × List qV)) = Sum.inl rv := hrv
                  cases hrv
                case c0 =>
                  have hq : (Sum.inr _ : Option qV ⊕ (Nat × qL × List qV)) = Sum.inr q := hq
                  cases hq
                  have lj := (hL.n (i := 53) (d := 1) List.mem_cons_self xj)
                  exact ih ρ1 (j + 1) (by rw [ht1, List.take_append_of_le_length (by omega)]; exact ht) (by rw [lj]; exact congrArg some (by omega)) (by omega) (fun i hi => by
                    rcases Nat.lt_or_ge i j with z | z
                    · exact hok i z
                    · have e : i = j := by omega
                      rw [e]
                      exact Or.inr (Or.inr (Or.inl ⟨c3, c4⟩)))
              · skip
                refine qy_TP.pre (ρ' := ρ ++ xs) (g' := zUT_u1s_dp4ga.1) (w' := zUT_u1s_dp4ga.2.1) (lo' := zUT_u1s_dp4ga.2.2.1) (st' := zUT_u1s_dp4ga.2.2.2) ?_ (hwC4 hc) (fun h => h.to xs [(53, 0, 29), (54, -2147483648, 2147483647), (55, 0, 2147483647), (56, -2147483648, 2147483647), (57, -2147483648, 0), (58, -2147483648, 2147483647)] [((.ofNat 1), 22, (.negSucc 0), 53, (.ofNat 1)), ((.ofNat 1), 45, (.negSucc 0), 54, (.ofNat 0)), ((.ofNat 1), 55, (.negSucc 0), 45, (.ofNat 1)), ((.ofNat 1), 58, (.negSucc 0), 56, (.ofNat 0))] (by decide +kernel) (by rw [hlx]; rfl) (by decide +kernel) (fa_ex xj (by omega) (by omega) (fa_ex xa (by have := q_i32bd (fc 34 j); omega) (by have := q_i32bd (fc 34 j); omega) (fa_ex xu (by have := q_i32bd (fc 35 j); omega) (by have := q_i32bd (fc 35 j); omega) (fa_ex xm (by have := q_i32bd (fc 32 j); omega) (by have := q_i32bd (fc 32 j); omega) (fa_ex xi (by have := q_i32bd (fc 33 j); omega) (by have := q_i32bd (fc 33 j); omega) (fa_ex xh (by have := q_i32bd (fc 30 (5 * v + (fc 31 j).toInt).toNat); omega) (by have := q_i32bd (fc 30 (5 * v + (fc 31 j).toInt).toNat); omega) fa_nil)))))) (fa_cons ⟨_, _, xs_, xj, by show (1 : Int) ≤ 1 * se + (-1) * (j : Int); omega⟩ (fa_cons ⟨_, _, xk, xa, by show (0 : Int) ≤ 1 * k + (-1) * (fc 34 j).toInt; omega⟩ (fa_cons ⟨_, _, xu, xk, by show (1 : Int) ≤ 1 * (fc 35 j).toInt + (-1) * k; omega⟩ (fa_cons ⟨_, _, xh, xm, by show (0 : Int) ≤ 1 * (fc 30 (5 * v + (fc 31 j).toInt).toNat).toInt + (-1) * (fc 32 j).toInt; omega⟩ fa_nil))))) (fun _ _ h => h.mono he) (fun _ h => h.mono he)
                refine qs_lnkB (p := 53) (ρ := ρ ++ xs) fa_nil hT hA zUg_u1dp4ga (fa_cons (fun ρ1 ht1 hL hg1 _ => ⟨fun rv hrv => ?r0, fun q hq => ?c0⟩) fa_nil)
                case r0 =>
                  have hl1 : ρ1.length = 53 := hg1.len rfl
                  refine ⟨rfl, ?_, Or.inr ⟨rfl, fun hF => ?_⟩⟩
                  · rw [List.take_append_of_le_length (by omega), ht] at ht1
                    rw [← ht1, List.take_of_length_le (by omega)]
                  · have hj2 := hF j (by omega)
                    unfold hs_ok at hj2
                    omega
                case c0 =>
                  have hq : (Sum.inl _ : Option qV ⊕ (Nat × qL × List qV)) = Sum.inr q := hq
                  cases hq
              · skip
                refine qy_TP.pre (ρ' := ρ ++ xs) (g' := zUT_u1s_dp4gb.1) (w' := zUT_u1s_dp4gb.2.1) (lo' := zUT_u1s_dp4gb.2.2.1) (st' := zUT_u1s_dp4gb.2.2.2) ?_ (hwC4 hc) (fun h => h.to xs [(53, 0, 29), (54, -2147483648, 2147483647), (55, 0, 2147483647), (56, -2147483648, 2147483647), (57, 2, 2147483647), (58, -2147483648, 2147483647)] [((.ofNat 1), 22, (.negSucc 0), 53, (.ofNat 1)), ((.ofNat 1), 45, (.negSucc 0), 54, (.ofNat 0)), ((.ofNat 1), 55, (.negSucc 0), 45, (.ofNat 1)), ((.ofNat 1), 58, (.negSucc 0), 56, (.ofNat 0))] (by decide +kernel) (by rw [hlx]; rfl) (by decide +kernel) (fa_ex xj (by omega) (by omega) (fa_ex xa (by have := q_i32bd (fc 34 j); omega) (by have := q_i32bd (fc 34 j); omega) (fa_ex xu (by have := q_i32bd (fc 35 j); omega) (by have := q_i32bd (fc 35 j); omega) (fa_ex xm (by have := q_i32bd (fc 32 j); omega) (by have := q_i32bd (fc 32 j); omega) (fa_ex xi (by have := q_i32bd (fc 33 j); omega) (by have := q_i32bd (fc 33 j); omega) (fa_ex xh (by have := q_i32bd (fc 30 (5 * v + (fc 31 j).toInt).toNat); omega) (by have := q_i32bd (fc 30 (5 * v + (fc 31 j).toInt).toNat); omega) fa_nil)))))) (fa_cons ⟨_, _, xs_, xj, by show (1 : Int) ≤ 1 * se + (-1) * (j : Int); omega⟩ (fa_cons ⟨_, _, xk, xa, by show (0 : Int) ≤ 1 * k + (-1) * (fc 34 j).toInt; omega⟩ (fa_cons ⟨_, _, xu, xk, by show (1 : Int) ≤ 1 * (fc 35 j).toInt + (-1) * k; omega⟩ (fa_cons ⟨_, _, xh, xm, by show (0 : Int) ≤ 1 * (fc 30 (5 * v + (fc 31 j).toInt).toNat).toInt + (-1) * (fc 32 j).toInt; omega⟩ fa_nil))))) (fun _ _ h => h.mono he) (fun _ h => h.mono he)
                refine qs_lnkB (p := 53) (ρ := ρ ++ xs) fa_nil hT hA zUg_u1dp4gb (fa_cons (fun ρ1 ht1 hL hg1 _ => ⟨fun rv hrv => ?r0, fun q hq => ?c0⟩) fa_nil)
                case r0 =>
                  have hl1 : ρ1.length = 53 := hg1.len rfl
                  refine ⟨rfl, ?_, Or.inr ⟨rfl, fun hF => ?_⟩⟩
                  · rw [List.take_append_of_le_length (by omega), ht] at ht1
                    rw [← ht1, List.take_of_length_le (by omega)]
                  · have hj2 := hF j (by omega)
                    unfold hs_ok at hj2
                    omega
                case c0 =>
                  have hq : (Sum.inl _ : Option qV ⊕ (Nat × qL × List qV)) = Sum.inr q := hq
                  cases hq
        · skip
          refine qy_TP.pre (ρ' := ρ ++ xs) (g' := zUT_u1s_dB.1) (w' := zUT_u1s_dB.2.1) (lo' := zUT_u1s_dB.2.2.1) (st' := zUT_u1s_dB.2.2.2) ?_ hwA (fun h => h.to xs [(53, 0, 29), (54, -2147483648, 2147483647), (55, 0, 2147483647), (56, -2147483648, 2147483647), (57, -2147483648, 2147483647), (58, -2147483648, 2147483647)] [((.ofNat 1), 22, (.negSucc 0), 53, (.ofNat 1)), ((.ofNat 1), 45, (.negSucc 0), 54, (.ofNat 0)), ((.ofNat 1), 45, (.negSucc 0), 55, (.ofNat 0))] (by decide +kernel) (by rw [hlx]; rfl) (by decide +kernel) (fa_ex xj (by omega) (by omega) (fa_ex xa (by have := q_i32bd (fc 34 j); omega) (by have := q_i32bd (fc 34 j); omega) (fa_ex xu (by have := q_i32bd (fc 35 j); omega) (by have := q_i32bd (fc 35 j); omega) (fa_ex xm (by have := q_i32bd (fc 32 j); omega) (by have := q_i32bd (fc 32 j); omega) (fa_ex xi (by have := q_i32bd (fc 33 j); omega) (by have := q_i32bd (fc 33 j); omega) (fa_ex xh (by have := q_i32bd (fc 30 (5 * v + (fc 31 j).toInt).toNat); omega) (by have := q_i32bd (fc 30 (5 * v + (fc 31 j).toInt).toNat); omega) fa_nil)))))) (fa_cons ⟨_, _, xs_, xj, by show (1 : Int) ≤ 1 * se + (-1) * (j : Int); omega⟩ (fa_cons ⟨_, _, xk, xa, by show (0 : Int) ≤ 1 * k + (-1) * (fc 34 j).toInt; omega⟩ (fa_cons ⟨_, _, xk, xu, by show (0 : Int) ≤ 1 * k + (-1) * (fc 35 j).toInt; omega⟩ fa_nil)))) (fun _ _ h => h.mono he) (fun _ h => h.mono he)
          refine qs_lnkB (p := 53) (ρ := ρ ++ xs) fa_nil hT hA zUg_u1dB (fa_cons (fun ρ1 ht1 hL hg1 _ => ⟨fun rv hrv => ?r0, fun q hq => ?c0⟩) fa_nil)
          case r0 =>
            have hrv : (Sum.inr _ : Option qV ⊕ (Nat × qL × List qV)) = Sum.inl rv := hrv
            cases hrv
          case c0 =>
            have hq : (Sum.inr _ : Option qV ⊕ (Nat × qL × List qV)) = Sum.inr q := hq
            cases hq
            have lj := (hL.n (i := 53) (d := 1) List.mem_cons_self xj)
            exact ih ρ1 (j + 1) (by rw [ht1, List.take_append_of_le_length (by omega)]; exact ht) (by rw [lj]; exact congrArg some (by omega)) (by omega) (fun i hi => by
              rcases Nat.lt_or_ge i j with z | z
              · exact hok i z
              · have e : i = j := by omega
                rw [e]
                exact Or.inr (Or.inl ⟨c2, c6⟩))
theorem zUdf1 (hT : zk_t) (hA : zk_a) {fc : Nat → Nat → Int32} (hR : hs_R fc) {ρ0 : List Int} {k se v : Int} (hk : ρ0[45]? = some k) (hse : ρ0[22]? = some se) (hv : ρ0[52]? = some v) : qy_TP ex D as tys 10 201 fc ρ0 zUT_u1s_d0.1 zUT_u1s_d0.2.1 zUT_u1s_d0.2.2.1 zUT_u1s_d0.2.2.2 0 (zUDP1 fc ρ0 k se v) := by
  refine qy_TP.intro fun _ hg => ?_
  have hl : ρ0.length = 53 := hg.len rfl
  have s1 : (0 : Int) ≤ se ∧ se ≤ 30 := hg.rng (i := 22) (r := (0, 30)) rfl hse
  have v1 : (0 : Int) ≤ v ∧ v ≤ 30 := hg.rng (i := 52) (r := (0, 30)) rfl hv
  refine qs_lnkB (p := 53) (ρ := ρ0) fa_nil hT hA zUg_u1d0 (fa_cons (fun ρ1 ht1 hL hg1 _ => ⟨fun rv hrv => ?r0, fun q hq => ?c0⟩) fa_nil)
  case r0 =>
    have hrv : (Sum.inr _ : Option qV ⊕ (Nat × qL × List qV)) = Sum.inl rv := hrv
    cases hrv
  case c0 =>
    have hq : (Sum.inr _ : Option qV ⊕ (Nat × qL × List qV)) = Sum.inr q := hq
    cases hq
    have lj := (hL.l (i := 53) (z := 0) List.mem_cons_self)
    exact zUd1 hT hA hR hl hk hse hv s1.2 v1.1 v1.2 se.toNat ρ1 0 (by rw [ht1]; exact List.take_of_length_le (by omega)) lj (by omega) (fun i hi => absurd hi (Nat.not_lt_zero i))
def zUFP1 (fc : Nat → Nat → Int32) (ρ : List Int) (k se : Int) : qP := fun fc' ρ' o => qe ρ ρ' ∧ ((o = (zUT_u1R0.1, zUT_u1R0.2.1, .inl (some (.inl 0))) ∧ fc' = fc ∧ ρ' = ρ) ∨ (o = (zUT_u1FR.1, zUT_u1FR.2.1, .inl (some (qa 51))) ∧ (∀ κ, κ < 30 → fc' κ = fc κ) ∧ hs_R fc' ∧ ∃ n : Int, ρ'[51]? = some n ∧ (n ≠ 0 → ∃ v, 0 ≤ v ∧ v ≤ 30 ∧ hs_F fc' k se v)))
theorem zUfl1 (hT : zk_t) (hA : zk_a) {fc0 fc : Nat → Nat → Int32} (hfc : ∀ κ, κ < 30 → fc κ = fc0 κ) (hR : hs_R fc) {ρ0 ρb : List Int} (hb : ρb.take 46 = ρ0) {k se : Int} (hk : ρb[45]? = some k) (hse : ρb[22]? = some se) (hlb : ρb.length = 51) : ∀ (m : Nat) (ρ : List Int) (n v : Int), ρ.take 51 = ρb → ρ[51]? = some n → ρ[52]? = some v → 0 ≤ n → n ≤ v → v ≤ 31 → (n ≠ 0 → ∃ v', 0 ≤ v' ∧ v' ≤ 30 ∧ hs_F fc k se v') → 31 - v < (m : Int) → qy_TP ex D as tys 11 211 fc ρ zUT_u1s_f1.1 zUT_u1s_f1.2.1 zUT_u1s_f1.2.2.1 zUT_u1s_f1.2.2.2 17 (zUFP1 fc0 ρ0 k se) := by
  intro m
  induction m with
  | zero => intro ρ n v _ _ _ _ _ h1 _ h2; exfalso; omega
  | succ m ih =>
    intro ρ n v ht hn hv h0 h1 h2 h3 h4
    refine qs_lnkB (p := 53) (ρ := ρ) fa_nil hT hA zUg_u1f1 (fa_cons (fun ρ1 ht1 hL hg1 _ => ⟨fun rv hrv => ?r0, fun q hq => ?c0⟩) (fa_cons (fun ρ1 ht1 hL hg1 _ => ⟨fun rv hrv => ?r1, fun q hq => ?c1⟩) fa_nil))
    case r0 =>
      have hrv : (Sum.inr _ : Option qV ⊕ (Nat × qL × List qV)) = Sum.inl rv := hrv
      cases hrv
    case c0 =>
      have hq : (Sum.inr _ : Option qV ⊕ (Nat × qL × List qV)) = Sum.inr q := hq
      cases hq
      have hq1 : ρ1.take 51 = ρ.take 51 := by have := congrArg (List.take 51) ht1; rw [List.take_take, List.take_take] at this; exact this
      have hlr : ρ.length = 53 ∨ True := Or.inr trivial
      have hl1 : ρ1.length = 53 := hg1.len rfl
      have n1 : ρ1[51]? = some n := q_tk0 ht1 (by decide) hn
      have v1 : ρ1[52]? = some v := q_tk0 ht1 (by decide) hv
      have ht2 : ρ1.take 51 = ρb := by rw [hq1]; exact ht
      have v2 : (0 : Int) ≤ v ∧ v ≤ 30 := hg1.rng (i := 52) (r := (0, 30)) rfl v1
      obtain ⟨hM, hcls, hrun⟩ := qs_vc (ex := ex) hT hA (k := 211) (pc := 27) rfl
      refine qy_TP.call (d := 10) (cs := [qa 45, qa 52, (.inr (.inr (.inl (some 0))))]) (st := [qa 51]) (av := [(0, (.inr (.inr (.inl (some 0))))), (1, qa 52), (2, qa 45)]) hM hcls hrun rfl rfl (by decide) (by decide +kernel) (Or.inr (Or.inr ⟨by decide, 0, 0, _, _, rfl, rfl⟩)) (zUdf1 hT hA hR (q_tkb ht2 hk) (q_tkb ht2 hse) v1) (fun f r o ho => ⟨by rw [ho.2.1]; exact qe.rf, by rcases ho.2.2 with h | h; exact ⟨_, congrArg (fun x => x.2.2) h.1⟩; exact ⟨_, congrArg (fun x => x.2.2) h.1⟩⟩) ?_
      intro fc2 ρ2 o rv ho hrv _ hg2
      obtain ⟨e1, e2, ho⟩ := ho
      rw [e1, e2]
      rcases ho with ⟨ho, hF⟩ | ⟨ho, hF⟩
      · rw [ho] at hrv
        rw [ho]
        have hrv : (Sum.inl (some (.inl 1)) : Option qV ⊕ (Nat × qL × List qV)) = Sum.inl rv := hrv
        cases hrv
        refine qy_TP.pre (ρ' := ρ1) (g' := zUT_u1s_f2_1.1) (w' := zUT_u1s_f2_1.2.1) (lo' := zUT_u1s_f2_1.2.2.1) (st' := zUT_u1s_f2_1.2.2.2) ?_ (fun ws h => h) (fun h => h.to0 [(51, 0, 30)] [((.ofNat 1), 52, (.negSucc 0), 51, (.ofNat 0))] (by decide +kernel) rfl (by decide +kernel) (fa_ex n1 (by omega) (by omega) fa_nil) (fa_cons ⟨_, _, v1, n1, by show (0 : Int) ≤ 1 * v + (-1) * n; omega⟩ fa_nil)) (fun _ _ h => h) (fun _ h => h)
        refine qs_lnkB (p := 51) (ρ := ρ1) fa_nil hT hA zUg_u1f2_1 (fa_cons (fun ρ3 ht3 hL hg3 _ => ⟨fun rv hrv => ?r0, fun q hq => ?c0⟩) fa_nil)
        case r0 =>
          have hrv : (Sum.inr _ : Option qV ⊕ (Nat × qL × List qV)) = Sum.inl rv := hrv
          cases hrv
        case c0 =>
          have hq : (Sum.inr _ : Option qV ⊕ (Nat × qL × List qV)) = Sum.inr q := hq
          cases hq
          have ln := (hL.n (i := 51) (d := 1) List.mem_cons_self n1)
          have lv := (hL.n (i := 52) (d := 1) (List.mem_cons_of_mem _ List.mem_cons_self) v1)
          exact ih ρ3 (n + 1) (v + 1) (by rw [ht3]; exact ht2) (by rw [ln]) (by rw [lv]) (by omega) (by omega) (by omega) (fun _ => ⟨v, v2.1, v2.2, hF⟩) (by omega)
      · rw [ho] at hrv
        rw [ho]
        have hrv : (Sum.inl (some (.inl 0)) : Option qV ⊕ (Nat × qL × List qV)) = Sum.inl rv := hrv
        cases hrv
        refine qy_TP.pre (ρ' := ρ1) (g' := zUT_u1s_f2_0.1) (w' := zUT_u1s_f2_0.2.1) (lo' := zUT_u1s_f2_0.2.2.1) (st' := zUT_u1s_f2_0.2.2.2) ?_ (fun ws h => h) (fun h => h.to0 [(51, 0, 30)] [((.ofNat 1), 52, (.negSucc 0), 51, (.ofNat 0))] (by decide +kernel) rfl (by decide +kernel) (fa_ex n1 (by omega) (by omega) fa_nil) (fa_cons ⟨_, _, v1, n1, by show (0 : Int) ≤ 1 * v + (-1) * n; omega⟩ fa_nil)) (fun _ _ h => h) (fun _ h => h)
        refine qs_lnkB (p := 51) (ρ := ρ1) fa_nil hT hA zUg_u1f2_0 (fa_cons (fun ρ3 ht3 hL hg3 _ => ⟨fun rv hrv => ?r0, fun q hq => ?c0⟩) fa_nil)
        case r0 =>
          have hrv : (Sum.inr _ : Option qV ⊕ (Nat × qL × List qV)) = Sum.inl rv := hrv
          cases hrv
        case c0 =>
          have hq : (Sum.inr _ : Option qV ⊕ (Nat × qL × List qV)) = Sum.inr q := hq
          cases hq
          have ln := (hL.n (i := 51) (d := 0) List.mem_cons_self n1)
          have lv := (hL.n (i := 52) (d := 1) (List.mem_cons_of_mem _ List.mem_cons_self) v1)
          exact ih ρ3 (n + 0) (v + 1) (by rw [ht3]; exact ht2) (by rw [ln]) (by rw [lv]) (by omega) (by omega) (by omega) (fun hz => h3 (by omega)) (by omega)
    case r1 =>
      have n1 : ρ1[51]? = some n := q_tk0 ht1 (by decide) hn
      have hq1 : ρ1.take 51 = ρ.take 51 := by have := congrArg (List.take 51) ht1; rw [List.take_take, List.take_take] at this; exact this
      have ht2 : ρ1.take 46 = ρ0 := by rw [← hb, ← ht, ← hq1, List.take_take]; rfl
      exact ⟨⟨ρ1.drop 46, by rw [← ht2, List.take_append_drop]⟩, Or.inr ⟨rfl, hfc, hR, n, n1, h3⟩⟩
    case c1 =>
      have hq : (Sum.inl _ : Option qV ⊕ (Nat × qL × List qV)) = Sum.inr q := hq
      cases hq
theorem zUfits1 (hT : zk_t) (hA : zk_a) {fc : Nat → Nat → Int32} (hh : qy_V ex (qΓ1 fc) D as tys zUk7) {ρ : List Int} {k se : Int} (hk : ρ[45]? = some k) (hse : ρ[22]? = some se) : qy_TP ex D as tys 11 211 fc ρ zUT_u1s_f0.1 zUT_u1s_f0.2.1 zUT_u1s_f0.2.2.1 zUT_u1s_f0.2.2.2 0 (zUFP1 fc ρ k se) := by
  refine qy_TP.intro fun _ hg => ?_
  have hl : ρ.length = 46 := hg.len rfl
  refine qs_lnkB (p := 46) (ρ := ρ) (fa_cons (zUh9 ex (qΓ1 fc) D as tys hT hA hh) fa_nil) hT hA zUg_u1f0 (fa_cons (fun ρ1 ht1 hL hg1 _ => ⟨fun rv hrv => ?r0, fun q hq => ?c0⟩) (fa_cons (fun ρ1 ht1 hL hg1 _ => ⟨fun rv hrv => ?r1, fun q hq => ?c1⟩) fa_nil))
  case r0 =>
    have hrv : (Sum.inr _ : Option qV ⊕ (Nat × qL × List qV)) = Sum.inl rv := hrv
    cases hrv
  case c0 =>
    have hq : (Sum.inr _ : Option qV ⊕ (Nat × qL × List qV)) = Sum.inr q := hq
    cases hq
    have hq1 : qe ρ ρ1 := q_qe45 ht1 hl
    have hl1 : ρ1.length = 53 := hg1.len rfl
    have ln := (hL.l (i := 51) (z := 0) (List.mem_cons_of_mem _ List.mem_cons_self))
    have lv := (hL.l (i := 52) (z := 0) (List.mem_cons_of_mem _ (List.mem_cons_of_mem _ List.mem_cons_self)))
    refine qy_TP.some (w' := zUT_u1s_f1.2.1) fun ws h => ?_
    obtain ⟨f30, r30, h30⟩ := h.fz (c := 27) 30 rfl (by decide) (by decide +kernel)
    obtain ⟨f31, r31, h31⟩ := h30.fz (c := 28) 31 rfl (by decide) (by decide +kernel)
    obtain ⟨f32, r32, h32⟩ := h31.fz (c := 29) 32 rfl (by decide) (by decide +kernel)
    obtain ⟨f33, r33, h33⟩ := h32.fz (c := 30) 33 rfl (by decide) (by decide +kernel)
    obtain ⟨f34, r34, h34⟩ := h33.fz (c := 31) 34 rfl (by decide) (by decide +kernel)
    obtain ⟨f35, r35, h35⟩ := h34.fz (c := 32) 35 rfl (by decide) (by decide +kernel)
    refine ⟨_, h35, ?_⟩
    have hR6 : hs_R (q_fz (q_fz (q_fz (q_fz (q_fz (q_fz fc 30 f30) 31 f31) 32 f32) 33 f33) 34 f34) 35 f35) := ⟨r30, r31, r32, r33, r34, r35⟩
    have hz6 : ∀ κ, κ < 30 → (q_fz (q_fz (q_fz (q_fz (q_fz (q_fz fc 30 f30) 31 f31) 32 f32) 33 f33) 34 f34) 35 f35) κ = fc κ := fun κ hκ => by rw [q_fz_ne (by omega), q_fz_ne (by omega), q_fz_ne (by omega), q_fz_ne (by omega), q_fz_ne (by omega), q_fz_ne (by omega)]
    refine zUfl1 hT hA hz6 hR6 (ρ0 := ρ) (ρb := ρ1.take 51) (by rw [List.take_take]; rw [show min 46 51 = 46 from rfl, ht1]; exact List.take_of_length_le (by omega)) (k := k) (se := se) ?_ ?_ (by rw [List.length_take]; omega) 32 ρ1 0 0 rfl ln lv (by omega) (by omega) (by omega) (fun hz => absurd rfl hz) (by omega)
    · rw [List.getElem?_take, if_pos (by decide)]; exact hq1.at hk
    · rw [List.getElem?_take, if_pos (by decide)]; exact hq1.at hse
  case r1 =>
    have hl1 : ρ1.length = 46 := hg1.len rfl
    have e : ρ1 = ρ := by rw [List.take_of_length_le (by omega), List.take_of_length_le (by omega)] at ht1; exact ht1
    exact ⟨by rw [e]; exact qe.rf, Or.inl ⟨rfl, rfl, e⟩⟩
  case c1 =>
    have hq : (Sum.inl _ : Option qV ⊕ (Nat × qL × List qV)) = Sum.inr q := hq
    cases hq
theorem zUuf1 {fc fc0 : Nat → Nat → Int32} {ρ : List Int} (hfc : ∀ κ, κ < 30 → fc κ = fc0 κ) (hR : hs_R fc) {ws : va_W} (h : qy_w ρ ex fc tys as zUT_u1s_f1.2.1 ws) : qy_w ρ ex fc0 tys as zUT_u1FHt.2.1 ws := by
  have h30 := h.uf (c := 27) (κ := 30) (sg := [(1, .ofNat 0, .ofNat 99)]) rfl hR.1
  have h31 := h30.uf (c := 28) (κ := 31) (sg := [(1, .ofNat 0, .ofNat 4)]) rfl hR.2.1
  have h32 := h31.uf (c := 29) (κ := 32) (sg := [(1, .negSucc 2147483647, .ofNat 2147483647)]) rfl hR.2.2.1
  have h33 := h32.uf (c := 30) (κ := 33) (sg := [(1, .negSucc 2147483647, .ofNat 2147483647)]) rfl hR.2.2.2.1
  have h34 := h33.uf (c := 31) (κ := 34) (sg := [(1, .negSucc 2147483647, .ofNat 2147483647)]) rfl hR.2.2.2.2.1
  have h35 := h34.uf (c := 32) (κ := 35) (sg := [(1, .negSucc 2147483647, .ofNat 2147483647)]) rfl hR.2.2.2.2.2
  exact h35.ren (r := fun κ => κ) (fc' := fc0) (fun t N κ kn ov hm => (hfc κ (Nat.le_of_ble_eq_true (q_ghs_ok (f := fun κ => Nat.ble (κ + 1) 30) (by decide +kernel) hm))).symm)
def zUSP1 (fc : Nat → Nat → Int32) (ρ0 : List Int) : qP := fun fc' ρ' o => fc' = fc ∧ qe ρ0 ρ' ∧ o ∈ q_po zUk11
theorem zUsl1_0 (hT : zk_t) (hA : zk_a) {fc0 fc : Nat → Nat → Int32} (hfc : ∀ κ, κ < 30 → fc κ = fc0 κ) (hR : hs_R fc) {ρ0 : List Int} (hl0 : ρ0.length = 46) {k se : Int} (hk : ρ0[45]? = some k) (hse : ρ0[22]? = some se) (hwh : ρ0[44]? = some 0) {vs : Int} (hvs : hs_F fc k se vs) (hv0 : 0 ≤ vs) (hv1 : vs ≤ 30) : ∀ (m : Nat) (ρ : List Int) (v : Int), ρ.take 46 = ρ0 → ρ[52]? = some v → v ≤ vs → vs - v < (m : Int) → qy_TP ex D as tys 12 293 fc ρ zUT_u1SH.1 zUT_u1SH.2.1 zUT_u1SH.2.2.1 zUT_u1SH.2.2.2 30 (zUSP1 fc0 ρ0) := by
  intro m
  induction m with
  | zero => intro ρ v _ _ h1 h2; exfalso; omega
  | succ m ih =>
    intro ρ v ht0 hv h1 h2
    refine qs_lnkB (p := 53) (ρ := ρ) fa_nil hT hA zUg_u1s2 (fa_cons (fun ρ1 ht1 hL hg1 _ => ⟨fun rv hrv => ?r0, fun q hq => ?c0⟩) fa_nil)
    case r0 =>
      have hrv : (Sum.inr _ : Option qV ⊕ (Nat × qL × List qV)) = Sum.inl rv := hrv
      cases hrv
    case c0 =>
      have hq : (Sum.inr _ : Option qV ⊕ (Nat × qL × List qV)) = Sum.inr q := hq
      cases hq
      have hl1 : ρ1.length = 53 := hg1.len rfl
      have hp1 : ρ1.take 46 = ρ0 := by have := congrArg (List.take 46) ht1; rw [List.take_take, List.take_take] at this; rw [← ht0]; exact this
      have v1 : ρ1[52]? = some v := q_tk0 ht1 (by decide) hv
      have v2 : (0 : Int) ≤ v ∧ v ≤ 30 := hg1.rng (i := 52) (r := (0, 30)) rfl v1
      have w1 := q_tkb hp1 hwh
      obtain ⟨hM, hcls, hrun⟩ := qs_vc (ex := ex) hT hA (k := 293) (pc := 33) rfl
      refine qy_TP.pre (ρ' := ρ1) (g' := zUT_u1S33.1) (w' := zUT_u1S33.2.1) (lo' := zUT_u1S33.2.2.1) (st' := [qa 45, qa 52, (.inr (.inr (.inl (some 0))))] ++ []) ?_ (fun ws h => h) (fun h => h) (fun _ _ h => h) (fun _ h => h)
      refine qy_TP.call (d := 11) (cs := [qa 45, qa 52, (.inr (.inr (.inl (some 0))))]) (st := []) (av := [(0, (.inr (.inr (.inl (some 0))))), (1, qa 52), (2, qa 45)]) hM hcls hrun rfl rfl (by decide) (by decide +kernel) (Or.inr (Or.inr ⟨by decide, 0, 0, _, _, rfl, rfl⟩)) ((zUdf1 hT hA hR (q_tkb hp1 hk) (q_tkb hp1 hse) v1).dep (by decide)) (fun f r o ho => ⟨by rw [ho.2.1]; exact qe.rf, by rcases ho.2.2 with h | h; exact ⟨_, congrArg (fun x => x.2.2) h.1⟩; exact ⟨_, congrArg (fun x => x.2.2) h.1⟩⟩) ?_
      intro fc2 ρ2 o rv ho hrv _ hg2
      obtain ⟨e1, e2, ho⟩ := ho
      rw [e1, e2]
      rcases ho with ⟨ho, hF⟩ | ⟨ho, hF⟩
      · rw [ho] at hrv
        rw [ho]
        have hrv : (Sum.inl (some (.inl 1)) : Option qV ⊕ (Nat × qL × List qV)) = Sum.inl rv := hrv
        cases hrv
        refine qy_TP.pre (fc' := fc0) (ρ' := ρ1) (g' := zUT_u1s_s4.1) (w' := zUT_u1s_s4.2.1) (lo' := zUT_u1s_s4.2.2.1) (st' := zUT_u1s_s4.2.2.2) ?_ (fun ws h => zUuf1 hfc hR h) (fun h => h) (fun _ _ h => h) (fun _ h => h)
        refine qs_lnkB (p := 46) (ρ := ρ1) fa_nil hT hA zUg_u1s4 (fa_cons (fun ρ3 ht3 hL hg3 _ => ⟨fun rv hrv => ?r0, fun q hq => ?c0⟩) fa_nil)
        case r0 =>
          exact ⟨rfl, ⟨ρ3.drop 46, by rw [← hp1, ← ht3, List.take_append_drop]⟩, List.mem_cons_self⟩
        case c0 =>
          have hq : (Sum.inl _ : Option qV ⊕ (Nat × qL × List qV)) = Sum.inr q := hq
          cases hq
      · rw [ho] at hrv
        rw [ho]
        have hrv : (Sum.inl (some (.inl 0)) : Option qV ⊕ (Nat × qL × List qV)) = Sum.inl rv := hrv
        cases hrv
        have hne : v ≠ vs := fun z => hF (by rw [z]; exact hvs)
        refine qy_TP.pre (ρ' := ρ1) (g' := zUT_u1s_s3_0.1) (w' := zUT_u1s_s3_0.2.1) (lo' := zUT_u1s_s3_0.2.2.1) (st' := zUT_u1s_s3_0.2.2.2) ?_ (fun ws h => h) (fun h => h.to0 [(44, 0, 0), (52, 0, 29)] [] (by decide +kernel) rfl (by decide +kernel) (fa_ex w1 (by omega) (by omega) (fa_ex v1 (by omega) (by omega) fa_nil)) fa_nil) (fun _ _ h => h) (fun _ h => h)
        refine qs_lnkB (p := 52) (ρ := ρ1) fa_nil hT hA zUg_u1s3_0 (fa_cons (fun ρ3 ht3 hL hg3 _ => ⟨fun rv hrv => ?r0, fun q hq => ?c0⟩) fa_nil)
        case r0 =>
          have hrv : (Sum.inr _ : Option qV ⊕ (Nat × qL × List qV)) = Sum.inl rv := hrv
          cases hrv
        case c0 =>
          have hq : (Sum.inr _ : Option qV ⊕ (Nat × qL × List qV)) = Sum.inr q := hq
          cases hq
          have lv := (hL.n (i := 52) (d := 1) List.mem_cons_self v1)
          exact ih ρ3 (v + 1) (by have := congrArg (List.take 46) ht3; rw [List.take_take, List.take_take] at this; rw [← hp1]; exact this) lv (by omega) (by omega)
theorem zUsl1_1 (hT : zk_t) (hA : zk_a) {fc0 fc : Nat → Nat → Int32} (hfc : ∀ κ, κ < 30 → fc κ = fc0 κ) (hR : hs_R fc) {ρ0 : List Int} (hl0 : ρ0.length = 46) {k se : Int} (hk : ρ0[45]? = some k) (hse : ρ0[22]? = some se) (hwh : ρ0[44]? = some 1) {vs : Int} (hvs : hs_F fc k se vs) (hv0 : 0 ≤ vs) (hv1 : vs ≤ 30) : ∀ (m : Nat) (ρ : List Int) (v : Int), ρ.take 46 = ρ0 → ρ[52]? = some v → vs ≤ v → v - vs < (m : Int) → qy_TP ex D as tys 12 293 fc ρ zUT_u1SH.1 zUT_u1SH.2.1 zUT_u1SH.2.2.1 zUT_u1SH.2.2.2 30 (zUSP1 fc0 ρ0) := by
  intro m
  induction m with
  | zero => intro ρ v _ _ h1 h2; exfalso; omega
  | succ m ih =>
    intro ρ v ht0 hv h1 h2
    refine qs_lnkB (p := 53) (ρ := ρ) fa_nil hT hA zUg_u1s2 (fa_cons (fun ρ1 ht1 hL hg1 _ => ⟨fun rv hrv => ?r0, fun q hq => ?c0⟩) fa_nil)
    case r0 =>
      have hrv : (Sum.inr _ : Option qV ⊕ (Nat × qL × List qV)) = Sum.inl rv := hrv
      cases hrv
    case c0 =>
      have hq : (Sum.inr _ : Option qV ⊕ (Nat × qL × List qV)) = Sum.inr q := hq
      cases hq
      have hl1 : ρ1.length = 53 := hg1.len rfl
      have hp1 : ρ1.take 46 = ρ0 := by have := congrArg (List.take 46) ht1; rw [List.take_take, List.take_take] at this; rw [← ht0]; exact this
      have v1 : ρ1[52]? = some v := q_tk0 ht1 (by decide) hv
      have v2 : (0 : Int) ≤ v ∧ v ≤ 30 := hg1.rng (i := 52) (r := (0, 30)) rfl v1
      have w1 := q_tkb hp1 hwh
      obtain ⟨hM, hcls, hrun⟩ := qs_vc (ex := ex) hT hA (k := 293) (pc := 33) rfl
      refine qy_TP.pre (ρ' := ρ1) (g' := zUT_u1S33.1) (w' := zUT_u1S33.2.1) (lo' := zUT_u1S33.2.2.1) (st' := [qa 45, qa 52, (.inr (.inr (.inl (some 0))))] ++ []) ?_ (fun ws h => h) (fun h => h) (fun _ _ h => h) (fun _ h => h)
      refine qy_TP.call (d := 11) (cs := [qa 45, qa 52, (.inr (.inr (.inl (some 0))))]) (st := []) (av := [(0, (.inr (.inr (.inl (some 0))))), (1, qa 52), (2, qa 45)]) hM hcls hrun rfl rfl (by decide) (by decide +kernel) (Or.inr (Or.inr ⟨by decide, 0, 0, _, _, rfl, rfl⟩)) ((zUdf1 hT hA hR (q_tkb hp1 hk) (q_tkb hp1 hse) v1).dep (by decide)) (fun f r o ho => ⟨by rw [ho.2.1]; exact qe.rf, by rcases ho.2.2 with h | h; exact ⟨_, congrArg (fun x => x.2.2) h.1⟩; exact ⟨_, congrArg (fun x => x.2.2) h.1⟩⟩) ?_
      intro fc2 ρ2 o rv ho hrv _ hg2
      obtain ⟨e1, e2, ho⟩ := ho
      rw [e1, e2]
      rcases ho with ⟨ho, hF⟩ | ⟨ho, hF⟩
      · rw [ho] at hrv
        rw [ho]
        have hrv : (Sum.inl (some (.inl 1)) : Option qV ⊕ (Nat × qL × List qV)) = Sum.inl rv := hrv
        cases hrv
        refine qy_TP.pre (fc' := fc0) (ρ' := ρ1) (g' := zUT_u1s_s4.1) (w' := zUT_u1s_s4.2.1) (lo' := zUT_u1s_s4.2.2.1) (st' := zUT_u1s_s4.2.2.2) ?_ (fun ws h => zUuf1 hfc hR h) (fun h => h) (fun _ _ h => h) (fun _ h => h)
        refine qs_lnkB (p := 46) (ρ := ρ1) fa_nil hT hA zUg_u1s4 (fa_cons (fun ρ3 ht3 hL hg3 _ => ⟨fun rv hrv => ?r0, fun q hq => ?c0⟩) fa_nil)
        case r0 =>
          exact ⟨rfl, ⟨ρ3.drop 46, by rw [← hp1, ← ht3, List.take_append_drop]⟩, List.mem_cons_self⟩
        case c0 =>
          have hq : (Sum.inl _ : Option qV ⊕ (Nat × qL × List qV)) = Sum.inr q := hq
          cases hq
      · rw [ho] at hrv
        rw [ho]
        have hrv : (Sum.inl (some (.inl 0)) : Option qV ⊕ (Nat × qL × List qV)) = Sum.inl rv := hrv
        cases hrv
        have hne : v ≠ vs := fun z => hF (by rw [z]; exact hvs)
        refine qy_TP.pre (ρ' := ρ1) (g' := zUT_u1s_s3_1.1) (w' := zUT_u1s_s3_1.2.1) (lo' := zUT_u1s_s3_1.2.2.1) (st' := zUT_u1s_s3_1.2.2.2) ?_ (fun ws h => h) (fun h => h.to0 [(44, 1, 1), (52, 1, 30)] [] (by decide +kernel) rfl (by decide +kernel) (fa_ex w1 (by omega) (by omega) (fa_ex v1 (by omega) (by omega) fa_nil)) fa_nil) (fun _ _ h => h) (fun _ h => h)
        refine qs_lnkB (p := 52) (ρ := ρ1) fa_nil hT hA zUg_u1s3_1 (fa_cons (fun ρ3 ht3 hL hg3 _ => ⟨fun rv hrv => ?r0, fun q hq => ?c0⟩) fa_nil)
        case r0 =>
          have hrv : (Sum.inr _ : Option qV ⊕ (Nat × qL × List qV)) = Sum.inl rv := hrv
          cases hrv
        case c0 =>
          have hq : (Sum.inr _ : Option qV ⊕ (Nat × qL × List qV)) = Sum.inr q := hq
          cases hq
          have lv := (hL.n (i := 52) (d := -1) List.mem_cons_self v1)
          exact ih ρ3 (v + (-1)) (by have := congrArg (List.take 46) ht3; rw [List.take_take, List.take_take] at this; rw [← hp1]; exact this) lv (by omega) (by omega)
theorem zUsure1 (hT : zk_t) (hA : zk_a) (hh : ∀ fc, Γ.1 fc → qy_V ex (qΓ1 fc) D as tys zUk7) : qy_V ex Γ D as tys zUk11 := by
  refine qy_V.ofTP fun fc ρ hfc => qy_TP.intro fun _ hg => ?_
  have hl : ρ.length = 46 := hg.len rfl
  have hh := hh fc hfc
  refine qy_TP.post (P1 := zUSP1 fc ρ) ?_ (fun fc' ρ' o h => ⟨h.2.2, h.2.1, by rw [h.1]; exact ⟨hfc, fun _ _ => rfl⟩⟩)
  obtain ⟨k, hk, hk1, hk2⟩ := hg.2.1 45 _ rfl
  obtain ⟨se, hse, hse1, hse2⟩ := hg.2.1 22 _ rfl
  have ht0 : ρ.take 46 = ρ := List.take_of_length_le (by omega)
  refine qs_lnkB (p := 46) (ρ := ρ) fa_nil hT hA zUg_u1u0 (fa_cons (fun ρ1 ht1 hL hg1 _ => ⟨fun rv hrv => ?r0, fun q hq => ?c0⟩) (fa_cons (fun ρ1 ht1 hL hg1 _ => ⟨fun rv hrv => ?r1, fun q hq => ?c1⟩) fa_nil))
  case r0 =>
    have hrv : (Sum.inr _ : Option qV ⊕ (Nat × qL × List qV)) = Sum.inl rv := hrv
    cases hrv
  case c0 =>
    have hq : (Sum.inr _ : Option qV ⊕ (Nat × qL × List qV)) = Sum.inr q := hq
    cases hq
    have hl1 : ρ1.length = 46 := hg1.len rfl
    have e : ρ1 = ρ := by rw [List.take_of_length_le (by omega), List.take_of_length_le (by omega)] at ht1; exact ht1
    rw [e] at hg1 ⊢
    obtain ⟨wh, hwh, hwh1, hwh2⟩ := hg1.2.1 44 (0, 1) rfl
    have hwh1 : (0 : Int) ≤ wh := hwh1
    have hwh2 : wh ≤ (1 : Int) := hwh2
    obtain ⟨hM, hcls, hrun⟩ := qs_vc (ex := ex) hT hA (k := 293) (pc := 11) rfl
    refine qy_TP.call (d := 11) (cs := [qa 45, (.inr (.inr (.inl (some 0))))]) (st := []) (av := [(0, (.inr (.inr (.inl (some 0))))), (1, qa 45)]) hM hcls hrun rfl rfl (by decide) (by decide +kernel) (Or.inr (Or.inr ⟨by decide, 0, 0, _, _, rfl, rfl⟩)) (zUfits1 hT hA hh hk hse) (fun f r o ho => ⟨ho.1, by rcases ho.2 with h | h; exact ⟨_, congrArg (fun x => x.2.2) h.1⟩; exact ⟨_, congrArg (fun x => x.2.2) h.1⟩⟩) ?_
    intro fc2 ρ2 o rv ho hrv _ hg2
    obtain ⟨hq2, ho⟩ := ho
    have hp2 : ρ2.take 46 = ρ := by obtain ⟨x2, hx2⟩ := hq2; rw [hx2, List.take_append_of_le_length (by omega)]; exact ht0
    rcases ho with ⟨ho, e1, e2⟩ | ⟨ho, hz, hR, n, hn, hF⟩
    · rw [ho] at hrv hg2
      rw [ho, e1, e2]
      have hrv : (Sum.inl (some (.inl 0)) : Option qV ⊕ (Nat × qL × List qV)) = Sum.inl rv := hrv
      cases hrv
      refine qs_lnkB (p := 46) (ρ := ρ) fa_nil hT hA zUg_u1sz (fa_cons (fun ρ3 ht3 hL hg3 _ => ⟨fun rv hrv => ?r0, fun q hq => ?c0⟩) fa_nil)
      case r0 =>
        exact ⟨rfl, q_qe45 ht3 hl, List.mem_cons_self⟩
      case c0 =>
        have hq : (Sum.inl _ : Option qV ⊕ (Nat × qL × List qV)) = Sum.inr q := hq
        cases hq
    · rw [ho] at hrv hg2
      rw [ho]
      have hrv : (Sum.inl (some (qa 51)) : Option qV ⊕ (Nat × qL × List qV)) = Sum.inl rv := hrv
      cases hrv
      have n1 : (0 : Int) ≤ n ∧ n ≤ 31 := hg2.rng (i := 51) (r := (0, 31)) rfl hn
      by_cases hn0 : n = 0
      · refine qy_TP.pre (fc' := fc) (ρ' := ρ2) (g' := zUT_u1s_s0.1) (w' := zUT_u1s_s0.2.1) (lo' := zUT_u1s_s0.2.2.1) (st' := zUT_u1s_s0.2.2.2) ?_ (fun ws h => zUuf1 hz hR h) (fun h => h.to0 [(51, 0, 0)] [] (by decide +kernel) rfl (by decide +kernel) (fa_ex hn (by omega) (by omega) fa_nil) fa_nil) (fun _ _ h => h) (fun _ h => h)
        refine qs_lnkB (p := 46) (ρ := ρ2) fa_nil hT hA zUg_u1s0 (fa_cons (fun ρ3 ht3 hL hg3 _ => ⟨fun rv hrv => ?r0, fun q hq => ?c0⟩) fa_nil)
        case r0 =>
          exact ⟨rfl, ⟨ρ3.drop 46, by rw [← hp2, ← ht3, List.take_append_drop]⟩, List.mem_cons_self⟩
        case c0 =>
          have hq : (Sum.inl _ : Option qV ⊕ (Nat × qL × List qV)) = Sum.inr q := hq
          cases hq
      · obtain ⟨vs, v0, v1, hFs⟩ := hF hn0
        have w2 := hq2.at hwh
        have cw : wh = 0 ∨ wh = 1 := by omega
        rcases cw with cw | cw
        · rw [cw] at hwh w2
          refine qy_TP.pre (ρ' := ρ2) (g' := zUT_u1s_s1_0.1) (w' := zUT_u1s_s1_0.2.1) (lo' := zUT_u1s_s1_0.2.2.1) (st' := zUT_u1s_s1_0.2.2.2) ?_ (fun ws h => h) (fun h => h.to0 [(51, 1, 31), (44, 0, 0)] [] (by decide +kernel) rfl (by decide +kernel) (fa_ex hn (by omega) (by omega) (fa_ex w2 (by omega) (by omega) fa_nil)) fa_nil) (fun _ _ h => h) (fun _ h => h)
          refine qs_lnkB (p := 52) (ρ := ρ2) fa_nil hT hA zUg_u1s1_0 (fa_cons (fun ρ3 ht3 hL hg3 _ => ⟨fun rv hrv => ?r0, fun q hq => ?c0⟩) fa_nil)
          case r0 =>
            have hrv : (Sum.inr _ : Option qV ⊕ (Nat × qL × List qV)) = Sum.inl rv := hrv
            cases hrv
          case c0 =>
            have hq : (Sum.inr _ : Option qV ⊕ (Nat × qL × List qV)) = Sum.inr q := hq
            cases hq
            have lv := (hL.l (i := 52) (z := 0) List.mem_cons_self)
            exact zUsl1_0 hT hA hz hR hl hk hse hwh hFs v0 v1 100 ρ3 0 (by have := congrArg (List.take 46) ht3; rw [List.take_take, List.take_take] at this; rw [← hp2]; exact this) lv (by omega) (by omega)
        · rw [cw] at hwh w2
          refine qy_TP.pre (ρ' := ρ2) (g' := zUT_u1s_s1_1.1) (w' := zUT_u1s_s1_1.2.1) (lo' := zUT_u1s_s1_1.2.2.1) (st' := zUT_u1s_s1_1.2.2.2) ?_ (fun ws h => h) (fun h => h.to0 [(51, 1, 31), (44, 1, 1)] [] (by decide +kernel) rfl (by decide +kernel) (fa_ex hn (by omega) (by omega) (fa_ex w2 (by omega) (by omega) fa_nil)) fa_nil) (fun _ _ h => h) (fun _ h => h)
          refine qs_lnkB (p := 52) (ρ := ρ2) fa_nil hT hA zUg_u1s1_1 (fa_cons (fun ρ3 ht3 hL hg3 _ => ⟨fun rv hrv => ?r0, fun q hq => ?c0⟩) fa_nil)
          case r0 =>
            have hrv : (Sum.inr _ : Option qV ⊕ (Nat × qL × List qV)) = Sum.inl rv := hrv
            cases hrv
          case c0 =>
            have hq : (Sum.inr _ : Option qV ⊕ (Nat × qL × List qV)) = Sum.inr q := hq
            cases hq
            have lv := (hL.l (i := 52) (z := 30) List.mem_cons_self)
            exact zUsl1_1 hT hA hz hR hl hk hse hwh hFs v0 v1 100 ρ3 30 (by have := congrArg (List.take 46) ht3; rw [List.take_take, List.take_take] at this; rw [← hp2]; exact this) lv (by omega) (by omega)
  case r1 =>
    exact ⟨rfl, q_qe45 ht1 hl, List.mem_cons_self⟩
  case c1 =>
    have hq : (Sum.inl _ : Option qV ⊕ (Nat × qL × List qV)) = Sum.inr q := hq
    cases hq
end zUS1
