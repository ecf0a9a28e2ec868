/-! branches -/
section QC
variable {ρ : List Int} {ex : Nat → Value} {as : List Nat} {g : qG} {o : List qO}
theorem q_sm_ok {a b : qV} {x y : Int32} {z : Int} (ha : qy_v ρ ex as a (.int x)) (hb : qy_v ρ ex as b (.int y)) (h : q_sm a b = some z) : x.toInt - y.toInt = z := by
  match a, b, ha, hb, h with
  | .inr (.inl (s, c, d)), .inr (.inl (s2, c2, d2)), ⟨x', r, h1, h2, h3⟩, ⟨y', r2, f1, f2, f3⟩, h =>
    cases h1
    cases f1
    have hh : cond (Nat.beq s s2 && q_eq c c2) (some (Int.sub d d2)) none = some z := h
    cases hb : (Nat.beq s s2 && q_eq c c2) with
    | false => rw [hb] at hh; cases hh
    | true =>
      rw [hb] at hh
      obtain ⟨b1, b2⟩ := Bool.and_eq_true_iff.mp hb
      have b1 := Nat.eq_of_beq_eq_true b1
      have b2 := q_eq_iff.mp b2
      subst b1
      subst b2
      have h2 : ρ[s]? = some r := h2
      have f2 : ρ[s]? = some r2 := f2
      rw [h2] at f2
      cases f2
      have h3 : x.toInt = c * r + d := h3
      have f3 : y.toInt = c * r + d2 := f3
      have hh : some (d - d2) = some z := hh
      cases hh
      omega
theorem q_ge_ok {a b : qV} {x y : Int32} {n : Int} {k : qG → qR} (hg : qy_g ρ g) (ha : qy_v ρ ex as a (.int x)) (hb : qy_v ρ ex as b (.int y)) (hx : n ≤ x.toInt - y.toInt) (h : q_ge g a b n k = some o) : ∃ g', qy_g ρ g' ∧ k g' = some o := by
  unfold q_ge at h
  cases hs : q_sm a b with
  | some z =>
    rw [hs] at h
    have e := q_sm_ok ha hb hs
    rcases q_if h with ⟨hb, h7⟩ | ⟨hb, h7⟩
    · exact ⟨g, hg, h7⟩
    · have := q_le_no hb; omega
  | none =>
    rw [hs] at h
    obtain ⟨x', l1, u1, e1, e2, e3, h⟩ := q_rg_ok hg ha h
    obtain ⟨y', l2, u2, f1, f2, f3, h⟩ := q_rg_ok hg hb h
    cases e1
    cases f1
    obtain ⟨g1, G1, h⟩ := q_lb_ok hg ha (by show l2 + n ≤ _; omega) h
    obtain ⟨g2, G2, h⟩ := q_ub_ok G1 hb (by show _ ≤ u1 - n; omega) h
    exact q_df_ok G2 ha hb hx h
theorem q_ne_ok {a b : qV} {x y : Int32} {k : qG → qR} (hg : qy_g ρ g) (ha : qy_v ρ ex as a (.int x)) (hb : qy_v ρ ex as b (.int y)) (hx : x.toInt ≠ y.toInt) (h : q_ne g a b k = some o) : qy_go ρ k o := by
  have one : ∀ {v : qV} {u : Int32} {z : Int}, qy_v ρ ex as v (.int u) → u.toInt ≠ z → (q_rg g v fun lo hi => cond (q_eq z lo) (q_lb g v (Int.add z 1) k) (cond (q_eq z hi) (q_ub g v (Int.sub z 1) k) (cond (q_eq z 0) (q_app (q_ub g v (.negSucc 0) k) (q_lb g v 1 k)) (k g)))) = some o → qy_go ρ k o := by
    intro v u z hv hne h
    obtain ⟨u', lo, hi, e1, e2, e3, h⟩ := q_rg_ok hg hv h
    cases e1
    rcases q_if h with ⟨hb, h7⟩ | ⟨hb, h7⟩
    · have hb := q_eq_iff.mp hb
      obtain ⟨g1, G1, h8⟩ := q_lb_ok hg hv (by show z + 1 ≤ _; omega) h7
      exact .of G1 h8
    · rcases q_if h7 with ⟨hb, h7⟩ | ⟨hb, h7⟩
      · have hb := q_eq_iff.mp hb
        obtain ⟨g1, G1, h8⟩ := q_ub_ok hg hv (by show _ ≤ z - 1; omega) h7
        exact .of G1 h8
      · rcases q_if h7 with ⟨hb, h7⟩ | ⟨hb, h7⟩
        · have hb := q_eq_iff.mp hb
          obtain ⟨l, m, p1, p2, p3, p4⟩ := q_app_ok h7
          rcases Int.lt_or_le u.toInt 0 with z | z
          · obtain ⟨g1, G1, h8⟩ := q_ub_ok hg hv (by show _ ≤ (-1 : Int); omega) p1
            exact (qy_go.of G1 h8).sub p3
          · obtain ⟨g1, G1, h8⟩ := q_lb_ok hg hv (by show (1 : Int) ≤ _; omega) p2
            exact (qy_go.of G1 h8).sub p4
        · exact .of hg h7
  match a, b, ha, hb, h with
  | .inl z1, .inl z2, ⟨x', h1, h2⟩, ⟨y', h3, h4⟩, h =>
    cases h1
    cases h3
    rcases q_if h with ⟨hb, h7⟩ | ⟨hb, h7⟩
    · have := q_eq_iff.mp hb; omega
    · exact .of hg h7
  | .inl z1, .inr (.inl (s, c, d)), ⟨x', h1, h2⟩, hb, h =>
    cases h1
    exact one hb (by omega) h
  | .inr (.inl (s, c, d)), .inl z2, ha, ⟨y', h3, h4⟩, h =>
    cases h3
    exact one ha (by omega) h
  | .inr (.inl (s, c, d)), .inr (.inl (s2, c2, d2)), ha, hb, h =>
    obtain ⟨x', r, h1, h2, h3⟩ := ha
    obtain ⟨y', r2, f1, f2, f3⟩ := hb
    cases h1
    cases f1
    have h2 : ρ[s]? = some r := h2
    have h3 : x.toInt = c * r + d := h3
    have f2 : ρ[s2]? = some r2 := f2
    have f3 : y.toInt = c2 * r2 + d2 := f3
    have ha : qy_v ρ ex as (.inr (.inl (s, c, d))) (.int x) := qy_lin h2 h3
    have hb : qy_v ρ ex as (.inr (.inl (s2, c2, d2))) (.int y) := qy_lin f2 f3
    rcases q_if h with ⟨hq, h7⟩ | ⟨hq, h7⟩
    · obtain ⟨b1, b2⟩ := Bool.and_eq_true_iff.mp hq
      have b1 := Nat.eq_of_beq_eq_true b1
      have b2 := q_eq_iff.mp b2
      subst b1
      subst b2
      rw [h2] at f2
      cases f2
      rcases q_if h7 with ⟨hq, h7⟩ | ⟨hq, h7⟩
      · have := q_eq_iff.mp hq; omega
      · exact .of hg h7
    · rcases q_if h7 with ⟨hq, h7⟩ | ⟨hq, h7⟩
      · obtain ⟨b1, b2⟩ := Bool.and_eq_true_iff.mp hq
        have b1 := q_eq_iff.mp b1
        have b2 := q_eq_iff.mp b2
        subst b1
        subst b2
        rcases q_if h7 with ⟨hq, h7⟩ | ⟨hq, h7⟩
        · have hq : d2 - d ≤ q_kd g.2 s s2 (d2 - d - 1) := q_le_iff.mp hq
          obtain ⟨k1, k2⟩ := q_kd_ok (i := s) (j := s2) h2 f2 (D := g.2) (m := d2 - d - 1) hg.2.2 (Or.inr trivial)
          have k3 := k2 (by omega)
          obtain ⟨x', l1, u1, e1, e2, e3, h7⟩ := q_rg_ok hg ha h7
          cases e1
          obtain ⟨g1, G1, h8⟩ := q_ub_ok hg hb (by show _ ≤ u1 - 1; omega) h7
          obtain ⟨g2, G2, h9⟩ := q_df_ok G1 ha hb (by omega) h8
          exact .of G2 h9
        · rcases q_if h7 with ⟨hq2, h7⟩ | ⟨hq2, h7⟩
          · have hq2 : d - d2 ≤ q_kd g.2 s2 s (d - d2 - 1) := q_le_iff.mp hq2
            obtain ⟨k1, k2⟩ := q_kd_ok (i := s2) (j := s) f2 h2 (D := g.2) (m := d - d2 - 1) hg.2.2 (Or.inr trivial)
            have k3 := k2 (by omega)
            obtain ⟨y', l1, u1, e1, e2, e3, h7⟩ := q_rg_ok hg hb h7
            cases e1
            obtain ⟨g1, G1, h8⟩ := q_ub_ok hg ha (by show _ ≤ u1 - 1; omega) h7
            obtain ⟨g2, G2, h9⟩ := q_df_ok G1 hb ha (by omega) h8
            exact .of G2 h9
          · exact .of hg h7
      · exact .of hg h7
theorem q_as_ok {c : ClassFile.Cond} {a b : qV} {x y : Int32} {k : qG → qR} (hg : qy_g ρ g) (ha : qy_v ρ ex as a (.int x)) (hb : qy_v ρ ex as b (.int y)) (hc : zy_cp c x y) (h : q_as c g a b k = some o) : qy_go ρ k o := by
  rw [zy_cpI] at hc
  cases c with
  | eq =>
    have hc : x.toInt = y.toInt := hc
    obtain ⟨g1, G1, h8⟩ := q_ge_ok hg ha hb (by omega) (show q_ge g a b 0 (fun g => q_ge g b a 0 k) = some o from h)
    obtain ⟨g2, G2, h9⟩ := q_ge_ok G1 hb ha (by omega) h8
    exact .of G2 h9
  | ne => exact q_ne_ok hg ha hb hc h
  | lt =>
    have hc : x.toInt < y.toInt := hc
    obtain ⟨g1, G1, h8⟩ := q_ge_ok hg hb ha (n := 1) (by omega) h
    exact .of G1 h8
  | ge =>
    have hc : y.toInt ≤ x.toInt := hc
    obtain ⟨g1, G1, h8⟩ := q_ge_ok hg ha hb (n := 0) (by omega) h
    exact .of G1 h8
  | gt =>
    have hc : y.toInt < x.toInt := hc
    obtain ⟨g1, G1, h8⟩ := q_ge_ok hg ha hb (n := 1) (by omega) h
    exact .of G1 h8
  | le =>
    have hc : x.toInt ≤ y.toInt := hc
    obtain ⟨g1, G1, h8⟩ := q_ge_ok hg hb ha (n := 0) (by omega) h
    exact .of G1 h8
/-- a condition's ways of both values: both are ints -/
theorem q_as_int {c : ClassFile.Cond} {a b : qV} {k : qG → qR} {va vb : Value} (hg : qy_g ρ g) (ha : qy_v ρ ex as a va) (hb : qy_v ρ ex as b vb) (h : q_as c g a b k = some o) : ∃ x y, va = .int x ∧ vb = .int y := by
  have ge : ∀ {a b : qV} {va vb : Value} {n : Int} {k : qG → qR}, qy_v ρ ex as a va → qy_v ρ ex as b vb → q_ge g a b n k = some o → ∃ x y, va = .int x ∧ vb = .int y := by
    intro a b va vb n k ha hb h
    unfold q_ge at h
    cases hs : q_sm a b with
    | some z =>
      match a, b, ha, hb, hs with
      | .inr (.inl (s, c, d)), .inr (.inl (s2, c2, d2)), ⟨x', r, h1, h2, h3⟩, ⟨y', r2, f1, f2, f3⟩, _ => exact ⟨x', y', h1, f1⟩
    | none =>
      rw [hs] at h
      obtain ⟨x', l1, u1, e1, e2, e3, h⟩ := q_rg_ok hg ha h
      obtain ⟨y', l2, u2, f1, f2, f3, h⟩ := q_rg_ok hg hb h
      exact ⟨x', y', e1, f1⟩
  have sw : (∃ x y, vb = Value.int x ∧ va = .int y) → ∃ x y, va = .int x ∧ vb = .int y := fun ⟨x, y, h1, h2⟩ => ⟨y, x, h2, h1⟩
  cases c with
  | eq => exact ge ha hb (show q_ge g a b 0 (fun g => q_ge g b a 0 k) = some o from h)
  | ne =>
    match a, b, ha, hb, h with
    | .inl z1, .inl z2, ⟨x', h1, _⟩, ⟨y', h3, _⟩, _ => exact ⟨x', y', h1, h3⟩
    | .inl z1, .inr (.inl _), ⟨x', h1, _⟩, ⟨y', _, h3, _⟩, _ => exact ⟨x', y', h1, h3⟩
    | .inr (.inl _), .inl z2, ⟨x', _, h1, _⟩, ⟨y', h3, _⟩, _ => exact ⟨x', y', h1, h3⟩
    | .inr (.inl _), .inr (.inl _), ⟨x', _, h1, _⟩, ⟨y', _, h3, _⟩, _ => exact ⟨x', y', h1, h3⟩
  | lt => exact sw (ge hb ha h)
  | ge => exact ge ha hb h
  | gt => exact ge ha hb h
  | le => exact sw (ge hb ha h)
theorem q_br_ok {c : ClassFile.Cond} {a b : qV} {va vb : Value} {kt kf : qG → qR} (hg : qy_g ρ g) (ha : qy_v ρ ex as a va) (hb : qy_v ρ ex as b vb) (h : q_br c a b g kt kf = some o) : ∃ x y, va = .int x ∧ vb = .int y ∧ (zy_cp c x y → qy_go ρ kt o) ∧ (¬ zy_cp c x y → qy_go ρ kf o) := by
  obtain ⟨a', ha', h⟩ := q_nm_ok hg ha h
  obtain ⟨b', hb', h⟩ := q_nm_ok hg hb h
  obtain ⟨l, m, p1, p2, p3, p4⟩ := q_app_ok h
  obtain ⟨x, y, rfl, rfl⟩ := q_as_int hg ha' hb' p1
  refine ⟨x, y, rfl, rfl, fun z => (q_as_ok hg ha' hb' z p1).sub p3, fun z => (q_as_ok hg ha' hb' ((zy_neg c x y).mpr z) p2).sub p4⟩
end QC
