/-! what the operations give -/
section QA
variable {ρ : List Int} {ex : Nat → Value} {as : List Nat} {g : qG} {o : List qO}
theorem q_add32 (x y : Int32) : (x + y).toInt = Int.bmod (x.toInt + 1 * y.toInt) 4294967296 := by rw [Int.one_mul]; exact Int32.toInt_add x y
theorem q_sub32 (x y : Int32) : (x - y).toInt = Int.bmod (x.toInt + -1 * y.toInt) 4294967296 := by
  rw [show x.toInt + -1 * y.toInt = x.toInt - y.toInt by omega]
  exact Int32.toInt_sub x y
theorem q_mul32 (x y : Int32) : (x * y).toInt = Int.bmod (x.toInt * y.toInt) 4294967296 := Int32.toInt_mul x y
theorem q_sum_ok {sg : Int} (hs : sg = 1 ∨ sg = -1) {op : Int32 → Int32 → Int32} (hop : ∀ x y, (op x y).toInt = Int.bmod (x.toInt + sg * y.toInt) 4294967296) {a b : qV} {va vb : Value} {k : qG → qV → qR} (hg : qy_g ρ g) (ha : qy_v ρ ex as a va) (hb : qy_v ρ ex as b vb) (h : q_sum sg g a b k = some o) : ∃ x y, va = .int x ∧ vb = .int y ∧ qy_res ρ ex as (op x y) k o := by
  obtain ⟨a', ha', h⟩ := q_nm_ok hg ha h
  obtain ⟨b', hb', h⟩ := q_nm_ok hg hb h
  match a', b', ha', hb', h with
  | .inl z1, .inl z2, ⟨x, h1, h2⟩, ⟨y, h3, h4⟩, h =>
    have h : zx_i (q_bm (Int.add z1 (Int.mul sg z2))) (fun z => k g (.inl z)) = some o := h
    rw [zx_i_eq] at h
    refine ⟨x, y, h1, h3, q_lit hg ?_ h⟩
    rw [hop, h2, h4]; rfl
  | .inl z1, .inr (.inl (s, c, d)), ⟨x, h1, h2⟩, ⟨y, r, h3, h4, h5⟩, h =>
    have h : zx_i (Int.mul sg c) (fun c' => zx_i (Int.add z1 (Int.mul sg d)) fun d' => q_ln g s c' d' k) = some o := h
    rw [zx_i_eq, zx_i_eq] at h
    refine ⟨x, y, h1, h3, q_ln_ok hg h4 ?_ h⟩
    rw [hop, h2, h5]
    show Int.bmod (z1 + sg * (c * r + d)) _ = Int.bmod (sg * c * r + (z1 + sg * d)) _
    rw [Int.mul_assoc]
    congr 1
    rcases hs with rfl | rfl <;> omega
  | .inr (.inl (s, c, d)), .inl z2, ⟨x, r, h1, h2, h5⟩, ⟨y, h3, h4⟩, h =>
    have h : zx_i (Int.add d (Int.mul sg z2)) (fun d' => q_ln g s c d' k) = some o := h
    rw [zx_i_eq] at h
    refine ⟨x, y, h1, h3, q_ln_ok hg h2 ?_ h⟩
    rw [hop, h5, h4]
    show Int.bmod (c * r + d + sg * z2) _ = Int.bmod (c * r + (d + sg * z2)) _
    congr 1
    omega
  | .inr (.inl (s, c, d)), .inr (.inl (s2, c2, d2)), ⟨x, r, h1, h2, h5⟩, ⟨y, r2, h3, h4, h6⟩, h =>
    have h2 : ρ[s]? = some r := h2
    have h4 : ρ[s2]? = some r2 := h4
    have h5 : x.toInt = c * r + d := h5
    have h6 : y.toInt = c2 * r2 + d2 := h6
    rcases q_if h with ⟨hb, h7⟩ | ⟨hb, h7⟩
    · have e := Nat.eq_of_beq_eq_true hb
      subst e
      rw [h2] at h4
      cases h4
      rw [zx_i_eq, zx_i_eq] at h7
      refine ⟨x, y, h1, h3, q_ln_ok hg h2 ?_ h7⟩
      rw [hop, h5, h6]
      show Int.bmod (c * r + d + sg * (c2 * r + d2)) _ = Int.bmod ((c + sg * c2) * r + (d + sg * d2)) _
      rw [Int.add_mul, Int.mul_assoc]
      congr 1
      rcases hs with rfl | rfl <;> omega
    · obtain ⟨x', l1, u1, e1, e2, e3, h7⟩ := q_rg_ok (ex := ex) (as := as) (v := va) (a := .inr (.inl (s, c, d))) hg ⟨x, r, h1, h2, h5⟩ h7
      obtain ⟨y', l2, u2, f1, f2, f3, h7⟩ := q_rg_ok (ex := ex) (as := as) (v := vb) (a := .inr (.inl (s2, c2, d2))) hg ⟨y, r2, h3, h4, h6⟩ h7
      rw [h1] at e1; cases e1
      rw [h3] at f1; cases f1
      refine ⟨x, y, h1, h3, ?_⟩
      rcases q_if h7 with ⟨hc, h8⟩ | ⟨hc, h8⟩
      · have hc := q_le_iff.mp hc
        rw [zx_i_eq, zx_i_eq] at h8
        have hs : sg = 1 := by omega
        subst hs
        refine q_fw_ok hg (fun a b => ?_) h8
        have a : -2147483648 ≤ l1 + l2 := a
        have b : u1 + u2 ≤ 2147483647 := b
        show l1 + l2 ≤ _ ∧ _ ≤ u1 + u2
        rw [hop, q_bm_in (by omega) (by omega)]
        omega
      · have hc := q_le_no hc
        rw [zx_i_eq, zx_i_eq] at h8
        have hs : sg = -1 := by omega
        subst hs
        rcases q_if h8 with ⟨hd, h9⟩ | ⟨hd, h9⟩
        · rw [zx_i_eq, zx_i_eq] at h9
          obtain ⟨b1, b2⟩ := Bool.and_eq_true_iff.mp hd
          have b1 := q_eq_iff.mp b1
          have b2 := q_eq_iff.mp b2
          subst b1
          subst b2
          refine q_fw_ok hg (fun a b => ?_) h9
          obtain ⟨k1, k2⟩ := q_kd_ok (i := s) (j := s2) h2 h4 (D := g.2) (m := Int.sub (Int.sub l1 u2) (Int.sub d d2)) hg.2.2 (Or.inr trivial)
          have e : Int.sub (Int.sub l1 u2) (Int.sub d d2) = (l1 - u2) - (d - d2) := rfl
          rw [e] at k1 k2 a ⊢
          have k3 := k1 (by omega)
          have a : -2147483648 ≤ q_kd g.2 s s2 (l1 - u2 - (d - d2)) + (d - d2) := a
          have b : u1 - l2 ≤ 2147483647 := b
          show q_kd g.2 s s2 (l1 - u2 - (d - d2)) + (d - d2) ≤ _ ∧ _ ≤ u1 - l2
          rw [hop, q_bm_in (by omega) (by omega)]
          omega
        · refine q_fw_ok hg (fun a b => ?_) h9
          have a : -2147483648 ≤ l1 - u2 := a
          have b : u1 - l2 ≤ 2147483647 := b
          show l1 - u2 ≤ _ ∧ _ ≤ u1 - l2
          rw [hop, q_bm_in (by omega) (by omega)]
          omega
theorem q_mul_ok {a b : qV} {va vb : Value} {k : qG → qV → qR} (hg : qy_g ρ g) (ha : qy_v ρ ex as a va) (hb : qy_v ρ ex as b vb) (h : q_mul g a b k = some o) : ∃ x y, va = .int x ∧ vb = .int y ∧ qy_res ρ ex as (x * y) k o := by
  obtain ⟨a', ha', h⟩ := q_nm_ok hg ha h
  obtain ⟨b', hb', h⟩ := q_nm_ok hg hb h
  match a', b', ha', hb', h with
  | .inl z1, .inl z2, ⟨x, h1, h2⟩, ⟨y, h3, h4⟩, h =>
    have h : zx_i (q_bm (Int.mul z1 z2)) (fun z => k g (.inl z)) = some o := h
    rw [zx_i_eq] at h
    refine ⟨x, y, h1, h3, q_lit hg ?_ h⟩
    rw [q_mul32, h2, h4]; rfl
  | .inl z1, .inr (.inl (s, c, d)), ⟨x, h1, h2⟩, ⟨y, r, h3, h4, h5⟩, h =>
    have h : zx_i (Int.mul z1 c) (fun c' => zx_i (Int.mul z1 d) fun d' => q_ln g s c' d' k) = some o := h
    rw [zx_i_eq, zx_i_eq] at h
    refine ⟨x, y, h1, h3, q_ln_ok hg h4 ?_ h⟩
    rw [q_mul32, h2, h5]
    show Int.bmod (z1 * (c * r + d)) _ = Int.bmod (z1 * c * r + z1 * d) _
    rw [Int.mul_add, Int.mul_assoc]
  | .inr (.inl (s, c, d)), .inl z2, ⟨x, r, h1, h2, h5⟩, ⟨y, h3, h4⟩, h =>
    have h : zx_i (Int.mul c z2) (fun c' => zx_i (Int.mul d z2) fun d' => q_ln g s c' d' k) = some o := h
    rw [zx_i_eq, zx_i_eq] at h
    refine ⟨x, y, h1, h3, q_ln_ok hg h2 ?_ h⟩
    rw [q_mul32, h5, h4]
    show Int.bmod ((c * r + d) * z2) _ = Int.bmod (c * z2 * r + d * z2) _
    rw [Int.add_mul, Int.mul_assoc, Int.mul_assoc, Int.mul_comm r z2]
  | .inr (.inl (s, c, d)), .inr (.inl (s2, c2, d2)), ⟨x, r, h1, h2, h5⟩, ⟨y, r2, h3, h4, h6⟩, h =>
    obtain ⟨x', l1, u1, e1, e2, e3, h7⟩ := q_rg_ok (ex := ex) (as := as) (v := va) (a := .inr (.inl (s, c, d))) hg ⟨x, r, h1, h2, h5⟩ h
    obtain ⟨y', l2, u2, f1, f2, f3, h7⟩ := q_rg_ok (ex := ex) (as := as) (v := vb) (a := .inr (.inl (s2, c2, d2))) hg ⟨y, r2, h3, h4, h6⟩ h7
    rw [h1] at e1; cases e1
    rw [h3] at f1; cases f1
    refine ⟨x, y, h1, h3, ?_⟩
    rcases q_if h7 with ⟨hc, h8⟩ | ⟨hc, h8⟩
    · obtain ⟨b1, b2⟩ := Bool.and_eq_true_iff.mp hc
      have b1 := q_le_iff.mp b1
      have b2 := q_le_iff.mp b2
      rw [zx_i_eq, zx_i_eq] at h8
      refine q_fw_ok hg (fun a b => ?_) h8
      have a : -2147483648 ≤ l1 * l2 := a
      have b : u1 * u2 ≤ 2147483647 := b
      show l1 * l2 ≤ _ ∧ _ ≤ u1 * u2
      have m1 : l1 * l2 ≤ x.toInt * y.toInt := Int.mul_le_mul e2 f2 b2 (by omega)
      have m2 : x.toInt * y.toInt ≤ u1 * u2 := Int.mul_le_mul e3 f3 (by omega) (by omega)
      rw [q_mul32, q_bm_in (by omega) (by omega)]
      exact ⟨m1, m2⟩
    · exact q_ff_ok hg h8
theorem q_div32 (x y : Int32) (h : 1 ≤ y.toInt) : (x / y).toInt = Int.tdiv x.toInt y.toInt := by
  rw [Int32.toInt_div]
  have b1 := q_i32 x
  apply q_bm_in
  · rcases Int.lt_or_le x.toInt 0 with z | z
    · have := Int.tdiv_nonneg (a := -x.toInt) (b := y.toInt) (by omega) (by omega)
      have h2 := Int.neg_tdiv (a := x.toInt) (b := y.toInt)
      have h3 := Int.tdiv_le_self (a := -x.toInt) y.toInt (by omega)
      omega
    · have := Int.tdiv_nonneg z (b := y.toInt) (by omega)
      omega
  · rcases Int.lt_or_le x.toInt 0 with z | z
    · have := Int.tdiv_nonneg (a := -x.toInt) (b := y.toInt) (by omega) (by omega)
      have h2 := Int.neg_tdiv (a := x.toInt) (b := y.toInt)
      omega
    · have := Int.tdiv_le_self (a := x.toInt) y.toInt z
      omega
theorem q_tdm {a b c : Int} (h : a ≤ b) (hc : 0 ≤ c) (ha : 0 ≤ a) : Int.tdiv a c ≤ Int.tdiv b c := by
  rw [Int.tdiv_eq_ediv_of_nonneg ha, Int.tdiv_eq_ediv_of_nonneg (by omega)]
  rcases Int.lt_or_eq_of_le hc with z | z
  · exact Int.ediv_le_ediv z h
  · subst z; simp
theorem q_div_ok {a b : qV} {va vb : Value} {k : qG → qV → qR} (hg : qy_g ρ g) (ha : qy_v ρ ex as a va) (hb : qy_v ρ ex as b vb) (h : q_div g a b k = some o) : ∃ x y, va = .int x ∧ vb = .int y ∧ ¬ y = 0 ∧ qy_res ρ ex as (x / y) k o := by
  obtain ⟨a', ha', h⟩ := q_nm_ok hg ha h
  obtain ⟨b', hb', h⟩ := q_nm_ok hg hb h
  obtain ⟨x, l1, u1, e1, e2, e3, h⟩ := q_rg_ok hg ha' h
  obtain ⟨y, l2, u2, f1, f2, f3, h⟩ := q_rg_ok hg hb' h
  refine ⟨x, y, e1, f1, ?_, ?_⟩
  · intro z
    have z : y.toInt = 0 := by rw [z]; rfl
    rcases q_if h with ⟨hc, h8⟩ | ⟨hc, h8⟩
    · have := q_le_iff.mp hc; omega
    · obtain ⟨h9, -⟩ := q_cond h8
      have : u2 ≤ -1 := q_le_iff.mp h9
      omega
  · rcases q_if h with ⟨hc, h8⟩ | ⟨hc, h8⟩
    · have hc := q_le_iff.mp hc
      have hd := q_div32 x y (by omega)
      rcases q_if h8 with ⟨hz, h9⟩ | ⟨hz, h9⟩
      · obtain ⟨b1, b2⟩ := Bool.and_eq_true_iff.mp hz
        have b1 := q_le_iff.mp b1
        have b2 := q_eq_iff.mp b2
        have ey : y.toInt = l2 := by omega
        rw [zx_i_eq, zx_i_eq] at h9
        have m1 : Int.tdiv l1 l2 ≤ Int.tdiv x.toInt l2 := q_tdm e2 (by omega) b1
        have m2 : Int.tdiv x.toInt l2 ≤ Int.tdiv u1 l2 := q_tdm e3 (by omega) (by omega)
        rcases q_if h9 with ⟨hq, h9⟩ | ⟨hq, h9⟩
        · have hq := q_eq_iff.mp hq
          exact q_lit hg (by rw [hd, ey]; omega) h9
        · exact q_fw_ok hg (fun _ _ => by rw [hd, ey]; exact ⟨m1, m2⟩) h9
      · rw [zx_i_eq, zx_i_eq, q_mni_eq, q_mxi_eq] at h9
        refine q_fw_ok hg (fun _ _ => ?_) h9
        rw [hd]
        rcases Int.lt_or_le x.toInt 0 with z | z
        · have := Int.tdiv_nonneg (a := -x.toInt) (b := y.toInt) (by omega) (by omega)
          have h2 := Int.neg_tdiv (a := x.toInt) (b := y.toInt)
          have h3 := Int.tdiv_le_self (a := -x.toInt) y.toInt (by omega)
          omega
        · have := Int.tdiv_nonneg z (b := y.toInt) (by omega)
          have h3 := Int.tdiv_le_self (a := x.toInt) y.toInt z
          omega
    · obtain ⟨-, h9⟩ := q_cond h8
      exact q_ff_ok hg h9
theorem q_rem32 (x y : Int32) (h : 1 ≤ y.toInt) : (x - x / y * y).toInt = Int.tmod x.toInt y.toInt := by
  have hd := q_div32 x y h
  have e := Int.mul_tdiv_add_tmod x.toInt y.toInt
  rw [Int32.toInt_sub, Int32.toInt_mul, hd, Int.sub_bmod_bmod]
  have b := Int.tmod_lt_of_pos x.toInt (b := y.toInt) (by omega)
  have b2 := Int.lt_tmod_of_pos x.toInt (b := y.toInt) (by omega)
  have by2 := q_i32 y
  rw [show x.toInt - x.toInt.tdiv y.toInt * y.toInt = Int.tmod x.toInt y.toInt by rw [Int.mul_comm]; omega]
  exact q_bm_in (by omega) (by omega)
theorem q_rem_ok {a b : qV} {va vb : Value} {k : qG → qV → qR} (hg : qy_g ρ g) (ha : qy_v ρ ex as a va) (hb : qy_v ρ ex as b vb) (h : q_rem g a b k = some o) : ∃ x y, va = .int x ∧ vb = .int y ∧ ¬ y = 0 ∧ qy_res ρ ex as (x - x / y * y) k o := by
  obtain ⟨a', ha', h⟩ := q_nm_ok hg ha h
  obtain ⟨b', hb', h⟩ := q_nm_ok hg hb h
  obtain ⟨x, l1, u1, e1, e2, e3, h⟩ := q_rg_ok hg ha' h
  obtain ⟨y, l2, u2, f1, f2, f3, h⟩ := q_rg_ok hg hb' h
  refine ⟨x, y, e1, f1, ?_, ?_⟩
  · intro z
    have z : y.toInt = 0 := by rw [z]; rfl
    rcases q_if h with ⟨hc, h8⟩ | ⟨hc, h8⟩
    · have := q_le_iff.mp hc; omega
    · obtain ⟨h9, -⟩ := q_cond h8
      have : u2 ≤ -1 := q_le_iff.mp h9
      omega
  · rcases q_if h with ⟨hc, h8⟩ | ⟨hc, h8⟩
    · have hc := q_le_iff.mp hc
      have hd := q_rem32 x y (by omega)
      have t1 := Int.tmod_lt_of_pos x.toInt (b := y.toInt) (by omega)
      have t2 := Int.lt_tmod_of_pos x.toInt (b := y.toInt) (by omega)
      rcases q_if h8 with ⟨hz, h9⟩ | ⟨hz, h9⟩
      · obtain ⟨b1, b2⟩ := Bool.and_eq_true_iff.mp hz
        have b1 := q_eq_iff.mp b1
        have b2 := q_eq_iff.mp b2
        rw [zx_i_eq] at h9
        exact q_lit hg (by rw [hd, show x.toInt = l1 by omega, show y.toInt = l2 by omega]) h9
      · rw [zx_i_eq, zx_i_eq] at h9
        obtain ⟨hin, h9⟩ := q_cond h9
        have bnd : cond (q_le 0 l1) (0 : Int) (Int.sub 1 u2) ≤ Int.tmod x.toInt y.toInt ∧ Int.tmod x.toInt y.toInt ≤ cond (q_le 0 l1) (q_mni u1 (Int.sub u2 1)) (Int.sub u2 1) := by
          cases hl : q_le 0 l1 with
          | true =>
            have hl := q_le_iff.mp hl
            show (0 : Int) ≤ _ ∧ _ ≤ q_mni u1 (u2 - 1)
            rw [q_mni_eq]
            have n1 := Int.tmod_nonneg y.toInt (a := x.toInt) (by omega)
            have n2 : Int.tmod x.toInt y.toInt ≤ x.toInt := by
              have e := Int.mul_tdiv_add_tmod x.toInt y.toInt
              have e2 := Int.mul_nonneg (a := y.toInt) (b := x.toInt.tdiv y.toInt) (by omega) (Int.tdiv_nonneg (by omega) (by omega))
              omega
            omega
          | false =>
            show 1 - u2 ≤ _ ∧ _ ≤ u2 - 1
            omega
        obtain ⟨ρ', g', v, r1, r2, r3, r4⟩ := q_fr_ok (ex := ex) (as := as) (x := x - x / y * y) hg (by rw [hd]; exact bnd.1) (by rw [hd]; exact bnd.2) h9
        have plain : k g' v = some o → qy_res ρ ex as (x - x / y * y) k o := fun hk => ⟨ρ', g', v, r1, r2, r3, hk⟩
        match b', hb', r4 with
        | .inl z, _, r4 => exact plain r4
        | .inr (.inr _), _, r4 => exact plain r4
        | .inr (.inl (s, c, d)), ⟨y', r, q1, q2, q3⟩, r4 =>
          rcases q_if r4 with ⟨hz, r5⟩ | ⟨hz, r5⟩
          · have hz := q_eq_iff.mp hz
            subst hz
            rw [zx_i_eq, zx_n_eq, zx_len_eq] at r5
            rw [f1] at q1
            cases q1
            have q2 : ρ[s]? = some r := q2
            have q3 : y.toInt = 1 * r + d := q3
            -- the new symbol is the rest
            unfold q_fr at h9
            rw [zx_n_eq, q_snoc_eq, zx_len_eq] at h9
            refine ⟨ρ ++ [(x - x / y * y).toInt], (g.1 ++ [(cond (q_le 0 l1) 0 (Int.sub 1 u2), cond (q_le 0 l1) (q_mni u1 (Int.sub u2 1)) (Int.sub u2 1))], (1, s, .negSucc 0, g.1.length, Int.sub 1 d) :: g.2), .inr (.inl (g.1.length, 1, 0)), qe.ap _, ?_, ?_, ?_⟩
            · have G := qy_gap (x := (x - x / y * y).toInt) hg (by rw [hd]; exact bnd.1) (by rw [hd]; exact bnd.2)
              refine ⟨G.1, G.2.1, fun f hf => ?_⟩
              rcases List.mem_cons.mp hf with rfl | hf
              · refine ⟨r, (x - x / y * y).toInt, (qe.ap _).at q2, ?_, ?_⟩
                · show (ρ ++ [_])[g.1.length]? = _
                  rw [hg.1, List.getElem?_append_right (Nat.le_refl _)]; simp
                · show 1 - d ≤ 1 * r + -1 * (x - x / y * y).toInt
                  rw [hd]; omega
              · exact G.2.2 f hf
            · refine qy_lin (r := (x - x / y * y).toInt) ?_ (by omega)
              rw [hg.1, List.getElem?_append_right (Nat.le_refl _)]; simp
            · have h9 : cond (q_eq 1 1) (zx_i (Int.sub 1 d) fun m => zx_n g.1.length fun n => k (g.1 ++ [(cond (q_le 0 l1) 0 (Int.sub 1 u2), cond (q_le 0 l1) (q_mni u1 (Int.sub u2 1)) (Int.sub u2 1))], (1, s, .negSucc 0, n, m) :: g.2) (.inr (.inl (g.1.length, 1, 0)))) (k (g.1 ++ [(cond (q_le 0 l1) 0 (Int.sub 1 u2), cond (q_le 0 l1) (q_mni u1 (Int.sub u2 1)) (Int.sub u2 1))], g.2) (.inr (.inl (g.1.length, 1, 0)))) = some o := h9
              rw [q_eq_iff.mpr rfl, cond_true, zx_i_eq, zx_n_eq] at h9
              exact h9
          · exact plain r5
    · obtain ⟨-, h9⟩ := q_cond h8
      exact q_ff_ok hg h9
end QA
