/-! more operations; what a comparison tells -/
section QB
variable {ρ : List Int} {ex : Nat → Value} {as : List Nat} {g : qG} {o : List qO}
theorem q_of32 {x : Int32} {z : Int} (h : x.toInt = z) : Int32.ofInt z = x := by
  subst h
  exact Int32.ofInt_toInt x
theorem q_and32 (x y : Int32) (h : 0 ≤ y.toInt) : 0 ≤ (x &&& y).toInt ∧ (x &&& y).toInt ≤ y.toInt := by
  have e1 : (x &&& y).toInt = (x.toBitVec &&& y.toBitVec).toInt := rfl
  have e2 : y.toInt = y.toBitVec.toInt := rfl
  rw [e2] at h
  rw [e1, e2]
  have m : y.toBitVec.msb = false := by
    rw [BitVec.msb_eq_toInt]
    simp
    exact h
  have m2 : (x.toBitVec &&& y.toBitVec).msb = false := by rw [BitVec.msb_and, m, Bool.and_false]
  rw [BitVec.toInt_eq_toNat_of_msb m, BitVec.toInt_eq_toNat_of_msb m2, BitVec.toNat_and]
  have := @Nat.and_le_right x.toBitVec.toNat y.toBitVec.toNat
  omega
theorem q_and_ok {a b : qV} {va vb : Value} {k : qG → qV → qR} (hg : qy_g ρ g) (ha : qy_v ρ ex as a va) (hb : qy_v ρ ex as b vb) (h : q_and g a b k = some o) : ∃ x y, va = .int x ∧ vb = .int y ∧ qy_res ρ ex as (x &&& y) k o := by
  obtain ⟨a', ha', h⟩ := q_nm_ok hg ha h
  obtain ⟨b', hb', h⟩ := q_nm_ok hg hb h
  match a', b', ha', hb', h with
  | .inl z1, .inl z2, ⟨x, h1, h2⟩, ⟨y, h3, h4⟩, h =>
    have h : zx_i (Int32.toInt (Int32.ofInt z1 &&& Int32.ofInt z2)) (fun z => k g (.inl z)) = some o := h
    rw [zx_i_eq, q_of32 h2, q_of32 h4] at h
    exact ⟨x, y, h1, h3, q_lit hg rfl h⟩
  | .inl z1, .inr (.inl (s, c, d)), ⟨x, h1, h2⟩, ⟨y, r, h3, h4, h5⟩, h =>
    refine ⟨x, y, h1, h3, ?_⟩
    rcases q_if h with ⟨hb, h7⟩ | ⟨hb, h7⟩
    · have hb := q_le_iff.mp hb
      have e : x &&& y = y &&& x := Int32.and_comm x y
      rw [e]
      have z := q_and32 y x (by omega)
      exact q_fr_ok hg z.1 (by omega) h7
    · exact q_ff_ok hg h7
  | .inr (.inl (s, c, d)), .inl z2, ⟨x, r, h1, h2, h5⟩, ⟨y, h3, h4⟩, h =>
    refine ⟨x, y, h1, h3, ?_⟩
    rcases q_if h with ⟨hb, h7⟩ | ⟨hb, h7⟩
    · have hb := q_le_iff.mp hb
      have z := q_and32 x y (by omega)
      exact q_fr_ok hg z.1 (by omega) h7
    · exact q_ff_ok hg h7
  | .inr (.inl (s, c, d)), .inr (.inl (s2, c2, d2)), ⟨x, r, h1, h2, h5⟩, ⟨y, r2, h3, h4, h6⟩, h => exact ⟨x, y, h1, h3, q_ff_ok hg h⟩
theorem q_bit_ok {f : Int32 → Int32 → Int32} {a b : qV} {va vb : Value} {k : qG → qV → qR} (hg : qy_g ρ g) (ha : qy_v ρ ex as a va) (hb : qy_v ρ ex as b vb) (h : q_bit f g a b k = some o) : ∃ x y, va = .int x ∧ vb = .int y ∧ qy_res ρ ex as (f x y) k o := by
  obtain ⟨a', ha', h⟩ := q_nm_ok hg ha h
  obtain ⟨b', hb', h⟩ := q_nm_ok hg hb h
  match a', b', ha', hb', h with
  | .inl z1, .inl z2, ⟨x, h1, h2⟩, ⟨y, h3, h4⟩, h =>
    have h : zx_i (Int32.toInt (f (Int32.ofInt z1) (Int32.ofInt z2))) (fun z => k g (.inl z)) = some o := h
    rw [zx_i_eq, q_of32 h2, q_of32 h4] at h
    exact ⟨x, y, h1, h3, q_lit hg rfl h⟩
  | .inl z1, .inr (.inl (s, c, d)), ⟨x, h1, h2⟩, ⟨y, r, h3, h4, h5⟩, h => exact ⟨x, y, h1, h3, q_ff_ok hg h⟩
  | .inr (.inl (s, c, d)), b', ⟨x, r, h1, h2, h5⟩, hb', h =>
    obtain ⟨e1, h⟩ := q_cond h
    obtain ⟨y, hy⟩ := qy_isI e1 hb'
    exact ⟨x, y, h1, hy, q_ff_ok hg h⟩
theorem q_cv_ok {lo hi : Int} {op : Int32 → Int32} (hop : ∀ x, lo ≤ (op x).toInt ∧ (op x).toInt ≤ hi) (hid : ∀ x : Int32, lo ≤ x.toInt → x.toInt ≤ hi → op x = x) {a : qV} {va : Value} {k : qG → qV → qR} (hg : qy_g ρ g) (ha : qy_v ρ ex as a va) (h : q_cv lo hi g a k = some o) : ∃ x, va = .int x ∧ qy_res ρ ex as (op x) k o := by
  obtain ⟨x, l, u, e1, e2, e3, h⟩ := q_rg_ok hg ha h
  refine ⟨x, e1, ?_⟩
  rcases q_if h with ⟨hb, h7⟩ | ⟨hb, h7⟩
  · obtain ⟨b1, b2⟩ := Bool.and_eq_true_iff.mp hb
    have b1 := q_le_iff.mp b1
    have b2 := q_le_iff.mp b2
    rw [hid x (by omega) (by omega)]
    rw [e1] at ha
    exact ⟨ρ, g, a, qe.rf, hg, ha, h7⟩
  · exact q_fr_ok hg (hop x).1 (hop x).2 h7
theorem q_mmx_ok {a b : qV} {va vb : Value} {k : qG → qV → qR} (hg : qy_g ρ g) (ha : qy_v ρ ex as a va) (hb : qy_v ρ ex as b vb) (h : q_mmx g a b k = some o) : ∃ x y, va = .int x ∧ vb = .int y ∧ ∀ m : Int32, m.toInt = max x.toInt y.toInt → qy_res ρ ex as m k o := by
  obtain ⟨x, l1, u1, e1, e2, e3, h⟩ := q_rg_ok hg ha h
  obtain ⟨y, l2, u2, f1, f2, f3, h⟩ := q_rg_ok hg hb h
  refine ⟨x, y, e1, f1, fun m hm => ?_⟩
  rw [zx_i_eq, zx_i_eq, q_mxi_eq, q_mxi_eq] at h
  rcases q_if h with ⟨hq, h9⟩ | ⟨hq, h9⟩
  · have hq := q_eq_iff.mp hq
    exact q_lit hg (by omega) h9
  · exact q_fr_ok hg (by omega) (by omega) h9
theorem q_mmn_ok {a b : qV} {va vb : Value} {k : qG → qV → qR} (hg : qy_g ρ g) (ha : qy_v ρ ex as a va) (hb : qy_v ρ ex as b vb) (h : q_mmn g a b k = some o) : ∃ x y, va = .int x ∧ vb = .int y ∧ ∀ m : Int32, m.toInt = min x.toInt y.toInt → qy_res ρ ex as m k o := by
  obtain ⟨x, l1, u1, e1, e2, e3, h⟩ := q_rg_ok hg ha h
  obtain ⟨y, l2, u2, f1, f2, f3, h⟩ := q_rg_ok hg hb h
  refine ⟨x, y, e1, f1, fun m hm => ?_⟩
  rw [zx_i_eq, zx_i_eq, q_mni_eq, q_mni_eq] at h
  rcases q_if h with ⟨hq, h9⟩ | ⟨hq, h9⟩
  · have hq := q_eq_iff.mp hq
    exact q_lit hg (by omega) h9
  · exact q_fr_ok hg (by omega) (by omega) h9
/-! comparisons -/
/-- one of the ways is gone -/
def qy_go (ρ : List Int) (k : qG → qR) (o : List qO) : Prop := ∃ g' o', qy_g ρ g' ∧ k g' = some o' ∧ ∀ z ∈ o', z ∈ o
theorem qy_go.sub {k : qG → qR} {o' : List qO} (h : qy_go ρ k o') (hs : ∀ z ∈ o', z ∈ o) : qy_go ρ k o := by
  obtain ⟨g1, o1, h1, h2, h3⟩ := h
  exact ⟨g1, o1, h1, h2, fun z hz => hs z (h3 z hz)⟩
theorem qy_go.of {k : qG → qR} (hg : qy_g ρ g) (h : k g = some o) : qy_go ρ k o := ⟨g, o, hg, h, fun _ z => z⟩
theorem qy_gset {s : Nat} {q : Int × Int} {r : Int} (hg : qy_g ρ g) (hr : ρ[s]? = some r) (h1 : q.1 ≤ r) (h2 : r ≤ q.2) : qy_g ρ (g.1.set s q, g.2) := by
  refine ⟨by simp [hg.1], fun j u hu0 => ?_, hg.2.2⟩
  have hu : (g.1.set s q)[j]? = some u := hu0
  clear hu0
  rw [List.getElem?_set] at hu
  split at hu
  · rename_i e
    subst e
    split at hu
    · cases hu; exact ⟨r, hr, h1, h2⟩
    · cases hu
  · exact hg.2.1 j u hu
theorem q_ub_ok {a : qV} {x : Int32} {u : Int} {k : qG → qR} (hg : qy_g ρ g) (ha : qy_v ρ ex as a (.int x)) (hx : x.toInt ≤ u) (h : q_ub g a u k = some o) : ∃ g', qy_g ρ g' ∧ k g' = some o := by
  match a, ha, h with
  | .inl z, ⟨x', h1, h2⟩, h =>
    cases h1
    rcases q_if h with ⟨hb, h7⟩ | ⟨hb, h7⟩
    · exact ⟨g, hg, h7⟩
    · have := q_le_no hb; omega
  | .inr (.inl (s, c, d)), ⟨x', r, h1, h2, h3⟩, h =>
    cases h1
    have h2 : ρ[s]? = some r := h2
    have h3 : x.toInt = c * r + d := h3
    rcases q_if h with ⟨hb, h7⟩ | ⟨hb, h7⟩
    · have hc := q_le_iff.mp hb
      obtain ⟨q, h4, h5⟩ := q_at_ok h7
      obtain ⟨r', h6, e1, e2⟩ := hg.2.1 s q h4
      rw [h2] at h6
      cases h6
      rw [zx_i_eq, q_mni_eq] at h5
      have hr : r ≤ Int.ediv (Int.sub u d) c := by
        have : r * c ≤ u - d := by rw [Int.mul_comm]; omega
        exact (Int.le_ediv_iff_mul_le (by omega)).mpr this
      rcases q_if h5 with ⟨hb2, h8⟩ | ⟨hb2, h8⟩
      · obtain ⟨-, h9⟩ := q_set_ok h8
        exact ⟨(g.1.set s (q.1, min q.2 (Int.ediv (Int.sub u d) c)), g.2), qy_gset hg h2 e1 (by show r ≤ min q.2 _; omega), h9⟩
      · have := q_le_no hb2; omega
    · exact ⟨g, hg, h7⟩
theorem q_lb_ok {a : qV} {x : Int32} {u : Int} {k : qG → qR} (hg : qy_g ρ g) (ha : qy_v ρ ex as a (.int x)) (hx : u ≤ x.toInt) (h : q_lb g a u k = some o) : ∃ g', qy_g ρ g' ∧ k g' = some o := by
  match a, ha, h with
  | .inl z, ⟨x', h1, h2⟩, h =>
    cases h1
    rcases q_if h with ⟨hb, h7⟩ | ⟨hb, h7⟩
    · exact ⟨g, hg, h7⟩
    · have := q_le_no hb; omega
  | .inr (.inl (s, c, d)), ⟨x', r, h1, h2, h3⟩, h =>
    cases h1
    have h2 : ρ[s]? = some r := h2
    have h3 : x.toInt = c * r + d := h3
    rcases q_if h with ⟨hb, h7⟩ | ⟨hb, h7⟩
    · have hc := q_le_iff.mp hb
      obtain ⟨q, h4, h5⟩ := q_at_ok h7
      obtain ⟨r', h6, e1, e2⟩ := hg.2.1 s q h4
      rw [h2] at h6
      cases h6
      rw [zx_i_eq, q_mxi_eq] at h5
      have hr : Int.neg (Int.ediv (Int.sub d u) c) ≤ r := by
        have h0 : -r ≤ (d - u) / c := (Int.le_ediv_iff_mul_le (by omega)).mpr (by rw [Int.neg_mul, Int.mul_comm]; omega)
        show -((d - u) / c) ≤ r
        omega
      rcases q_if h5 with ⟨hb2, h8⟩ | ⟨hb2, h8⟩
      · obtain ⟨-, h9⟩ := q_set_ok h8
        exact ⟨(g.1.set s (max q.1 (Int.neg (Int.ediv (Int.sub d u) c)), q.2), g.2), qy_gset hg h2 (by show max q.1 _ ≤ r; omega) e2, h9⟩
      · have := q_le_no hb2; omega
    · exact ⟨g, hg, h7⟩
theorem q_df_ok {a b : qV} {x y : Int32} {n : Int} {k : qG → qR} (hg : qy_g ρ g) (ha : qy_v ρ ex as a (.int x)) (hb : qy_v ρ ex as b (.int y)) (hx : n ≤ x.toInt - y.toInt) (h : q_df g a b n k = some o) : ∃ g', qy_g ρ g' ∧ k g' = some o := by
  match a, b, ha, hb, h with
  | .inl _, _, _, _, h => exact ⟨g, hg, h⟩
  | .inr (.inr _), _, _, _, h => exact ⟨g, hg, h⟩
  | .inr (.inl _), .inl _, _, _, h => exact ⟨g, hg, h⟩
  | .inr (.inl _), .inr (.inr _), _, _, h => exact ⟨g, hg, h⟩
  | .inr (.inl (s, c, d)), .inr (.inl (s2, c2, d2)), ⟨x', r, h1, h2, h3⟩, ⟨y', r2, f1, f2, f3⟩, h =>
    cases h1
    cases f1
    have h2 : ρ[s]? = some r := h2
    have h3 : x.toInt = c * r + d := h3
    have f2 : ρ[s2]? = some r2 := f2
    have f3 : y.toInt = c2 * r2 + d2 := f3
    rcases q_if h with ⟨hb, h7⟩ | ⟨hb, h7⟩
    · simp only [Bool.and_eq_true] at hb
      obtain ⟨⟨b1, b2⟩, b3⟩ := hb
      have b1 := q_eq_iff.mp b1
      have b2 := q_eq_iff.mp b2
      subst b1
      subst b2
      rw [zx_i_eq] at h7
      have em : Int.sub (Int.add n d2) d = n + d2 - d := rfl
      rw [em] at h7
      rcases q_if h7 with ⟨hb2, h8⟩ | ⟨hb2, h8⟩
      · rcases q_if h8 with ⟨hb3, h9⟩ | ⟨hb3, h9⟩
        · exact ⟨g, hg, h9⟩
        · refine ⟨(g.1, (1, s, .negSucc 0, s2, n + d2 - d) :: g.2), ⟨hg.1, hg.2.1, fun f hf => ?_⟩, h9⟩
          rcases List.mem_cons.mp hf with rfl | hf
          · refine ⟨r, r2, h2, f2, ?_⟩
            show n + d2 - d ≤ 1 * r + -1 * r2
            omega
          · exact hg.2.2 f hf
      · exfalso
        have hb2 : (0 : Int) < Int.add (q_kd g.2 s2 s (Int.sub (Int.neg (n + d2 - d)) 1)) (n + d2 - d) := q_le_no hb2
        have e : Int.sub (Int.neg (n + d2 - d)) 1 = -(n + d2 - d) - 1 := rfl
        rw [e] at hb2
        have hb2 : (0 : Int) < q_kd g.2 s2 s (-(n + d2 - d) - 1) + (n + d2 - d) := hb2
        obtain ⟨k1, k2⟩ := q_kd_ok (i := s2) (j := s) f2 h2 (D := g.2) (m := -(n + d2 - d) - 1) hg.2.2 (Or.inr trivial)
        have := k2 (by omega)
        omega
    · exact ⟨g, hg, h7⟩
end QB
