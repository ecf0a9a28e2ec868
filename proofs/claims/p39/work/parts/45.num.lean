/-! numbers with ranges -/
section QN
variable {ρ : List Int} {ex : Nat → Value} {as : List Nat} {g : qG} {o : List qO}
/-- what comes of an int: more symbols, perhaps; a value for it -/
def qy_res (ρ : List Int) (ex : Nat → Value) (as : List Nat) (x : Int32) (k : qG → qV → qR) (o : List qO) : Prop := ∃ ρ' g' v, qe ρ ρ' ∧ qy_g ρ' g' ∧ qy_v ρ' ex as v (.int x) ∧ k g' v = some o
theorem qy_lit {x : Int32} {z : Int} (h : x.toInt = z) : qy_v ρ ex as (.inl z) (.int x) := ⟨x, rfl, h⟩
theorem qy_lin {x : Int32} {s : Nat} {c d r : Int} (hr : ρ[s]? = some r) (h : x.toInt = c * r + d) : qy_v ρ ex as (.inr (.inl (s, c, d))) (.int x) := ⟨x, r, rfl, hr, h⟩
theorem q_i32 (x : Int32) : -2147483648 ≤ x.toInt ∧ x.toInt ≤ 2147483647 := ⟨Int32.le_toInt x, by have := Int32.toInt_lt x; omega⟩
theorem q_rg_ok {a : qV} {v : Value} {k : Int → Int → qR} (hg : qy_g ρ g) (hv : qy_v ρ ex as a v) (h : q_rg g a k = some o) : ∃ x lo hi, v = .int x ∧ lo ≤ x.toInt ∧ x.toInt ≤ hi ∧ k lo hi = some o := by
  match a, hv, h with
  | .inl z, ⟨x, h1, h2⟩, h => exact ⟨x, z, z, h1, by omega, by omega, h⟩
  | .inr (.inl (s, c, d)), ⟨x, r, h1, h2, h3⟩, h =>
    obtain ⟨q, h4, h5⟩ := q_at_ok h
    obtain ⟨r', h6, h7, h8⟩ := hg.2.1 s q h4
    have h2 : ρ[s]? = some r := h2
    rw [h2] at h6
    cases h6
    have h3 : x.toInt = c * r + d := h3
    rcases q_if h5 with ⟨hb, h9⟩ | ⟨hb, h9⟩
    · rw [zx_i_eq, zx_i_eq] at h9
      have hc := q_le_iff.mp hb
      refine ⟨x, _, _, h1, ?_, ?_, h9⟩
      · show c * q.1 + d ≤ _
        have := Int.mul_le_mul_of_nonneg_left h7 hc
        omega
      · show _ ≤ c * q.2 + d
        have := Int.mul_le_mul_of_nonneg_left h8 hc
        omega
    · rw [zx_i_eq, zx_i_eq] at h9
      have hc := q_le_no hb
      refine ⟨x, _, _, h1, ?_, ?_, h9⟩
      · show c * q.2 + d ≤ _
        have := Int.mul_le_mul_of_nonpos_left (a := c) (by omega) h8
        omega
      · show _ ≤ c * q.1 + d
        have := Int.mul_le_mul_of_nonpos_left (a := c) (by omega) h7
        omega
theorem q_nm_ok {a : qV} {v : Value} {k : qV → qR} (hg : qy_g ρ g) (hv : qy_v ρ ex as a v) (h : q_nm g a k = some o) : ∃ b, qy_v ρ ex as b v ∧ k b = some o := by
  match a, hv, h with
  | .inl _, hv, h => exact ⟨_, hv, h⟩
  | .inr (.inl (s, c, d)), ⟨x, r, h1, h2, h3⟩, h =>
    obtain ⟨q, h4, h5⟩ := q_at_ok h
    obtain ⟨r', h6, h7, h8⟩ := hg.2.1 s q h4
    have h2 : ρ[s]? = some r := h2
    rw [h2] at h6
    cases h6
    have h3 : x.toInt = c * r + d := h3
    rcases q_if h5 with ⟨hb, h9⟩ | ⟨hb, h9⟩
    · rw [zx_i_eq] at h9
      have he := q_eq_iff.mp hb
      refine ⟨.inl (c * q.1 + d), ⟨x, h1, ?_⟩, h9⟩
      have e : r = q.1 := by omega
      rw [← e]
      exact h3
    · exact ⟨.inr (.inl (s, c, d)), ⟨x, r, h1, h2, h3⟩, h9⟩
  | .inr (.inr _), hv, h => exact ⟨_, hv, h⟩
theorem qy_gap {lo hi x : Int} (hg : qy_g ρ g) (h1 : lo ≤ x) (h2 : x ≤ hi) : qy_g (ρ ++ [x]) (g.1 ++ [(lo, hi)], g.2) := by
  refine ⟨by simp [hg.1], fun i q hq => ?_, fun f hf => ?_⟩
  · have hq : (g.1 ++ [(lo, hi)])[i]? = some q := hq
    by_cases hi' : i < g.1.length
    · rw [List.getElem?_append_left hi'] at hq
      obtain ⟨r, a1, a2⟩ := hg.2.1 i q hq
      exact ⟨r, (qe.ap x).at a1, a2⟩
    · have hl := (List.getElem?_eq_some_iff.mp hq).1
      simp at hl
      have e : i = g.1.length := by omega
      subst e
      rw [List.getElem?_append_right (Nat.le_refl _)] at hq
      simp at hq
      subst hq
      refine ⟨x, ?_, h1, h2⟩
      rw [hg.1, List.getElem?_append_right (Nat.le_refl _)]
      simp
  · obtain ⟨r1, r2, a1, a2, a3⟩ := hg.2.2 f hf
    exact ⟨r1, r2, (qe.ap x).at a1, (qe.ap x).at a2, a3⟩
theorem q_fr_ok {x : Int32} {lo hi : Int} {k : qG → qV → qR} (hg : qy_g ρ g) (h1 : lo ≤ x.toInt) (h2 : x.toInt ≤ hi) (h : q_fr g lo hi k = some o) : qy_res ρ ex as x k o := by
  unfold q_fr at h
  rw [zx_n_eq, q_snoc_eq, zx_len_eq] at h
  refine ⟨_, _, .inr (.inl (g.1.length, 1, 0)), qe.ap x.toInt, qy_gap hg h1 h2, qy_lin (r := x.toInt) ?_ (by omega), h⟩
  show (ρ ++ [x.toInt])[g.1.length]? = _
  rw [hg.1, List.getElem?_append_right (Nat.le_refl _)]
  simp
theorem q_ff_ok {x : Int32} {k : qG → qV → qR} (hg : qy_g ρ g) (h : q_fr g q_mn q_mx k = some o) : qy_res ρ ex as x k o := q_fr_ok hg (q_i32 x).1 (q_i32 x).2 h
theorem q_fw_ok {x : Int32} {lo hi : Int} {k : qG → qV → qR} (hg : qy_g ρ g) (hx : -2147483648 ≤ lo → hi ≤ 2147483647 → lo ≤ x.toInt ∧ x.toInt ≤ hi) (h : q_fw g lo hi k = some o) : qy_res ρ ex as x k o := by
  rcases q_if h with ⟨hb, h3⟩ | ⟨hb, h3⟩
  · obtain ⟨a, b⟩ := q_in_iff.mp hb
    exact q_fr_ok hg (hx a b).1 (hx a b).2 h3
  · exact q_ff_ok hg h3
theorem q_bm_in {z : Int} (h1 : -2147483648 ≤ z) (h2 : z ≤ 2147483647) : Int.bmod z 4294967296 = z := by
  rw [Int.bmod_def]
  split <;> omega
theorem q_ln_ok {s : Nat} {c d r : Int} {x : Int32} {k : qG → qV → qR} (hg : qy_g ρ g) (hr : ρ[s]? = some r) (hx : x.toInt = Int.bmod (c * r + d) 4294967296) (h : q_ln g s c d k = some o) : qy_res ρ ex as x k o := by
  rcases q_if h with ⟨hb, h3⟩ | ⟨hb, h3⟩
  · have hc := q_eq_iff.mp hb
    subst hc
    obtain ⟨h4, h5⟩ := q_cond h3
    obtain ⟨a, b⟩ := q_in_iff.mp h4
    refine ⟨ρ, g, .inl d, qe.rf, hg, qy_lit ?_, h5⟩
    rw [hx, Int.zero_mul, Int.zero_add, q_bm_in a b]
  · obtain ⟨q, h4, h5⟩ := q_at_ok (show q_at g.1 _ s = some o from h3)
    obtain ⟨r', h6, h7, h8⟩ := hg.2.1 s q h4
    rw [hr] at h6
    cases h6
    have key : ∀ lo hi : Int, lo ≤ c * r + d → c * r + d ≤ hi → cond (q_in lo hi) (k g (.inr (.inl (s, c, d)))) (q_fr g q_mn q_mx k) = some o → qy_res ρ ex as x k o := by
      intro lo hi l1 l2 hh
      rcases q_if hh with ⟨hi', h9⟩ | ⟨hi', h9⟩
      · obtain ⟨a, b⟩ := q_in_iff.mp hi'
        refine ⟨ρ, g, .inr (.inl (s, c, d)), qe.rf, hg, qy_lin hr ?_, h9⟩
        rw [hx, q_bm_in (by omega) (by omega)]
      · exact q_ff_ok hg h9
    rcases q_if h5 with ⟨hb2, h9⟩ | ⟨hb2, h9⟩
    · rw [zx_i_eq, zx_i_eq] at h9
      have hc := q_le_iff.mp hb2
      refine key _ _ ?_ ?_ h9
      · show c * q.1 + d ≤ _
        have := Int.mul_le_mul_of_nonneg_left h7 hc
        omega
      · show _ ≤ c * q.2 + d
        have := Int.mul_le_mul_of_nonneg_left h8 hc
        omega
    · rw [zx_i_eq, zx_i_eq] at h9
      have hc := q_le_no hb2
      refine key _ _ ?_ ?_ h9
      · show c * q.2 + d ≤ _
        have := Int.mul_le_mul_of_nonpos_left (a := c) (by omega) h8
        omega
      · show _ ≤ c * q.1 + d
        have := Int.mul_le_mul_of_nonpos_left (a := c) (by omega) h7
        omega
theorem q_lit {z : Int} {x : Int32} {k : qG → qV → qR} (hg : qy_g ρ g) (hx : x.toInt = z) (h : k g (.inl z) = some o) : qy_res ρ ex as x k o := ⟨ρ, g, .inl z, qe.rf, hg, qy_lit hx, h⟩
/-- what is known of a difference -/
theorem q_kd_ok {i j : Nat} {r1 r2 : Int} (h1 : ρ[i]? = some r1) (h2 : ρ[j]? = some r2) : ∀ {D : List qF} {m : Int}, (∀ f ∈ D, ∃ r1 r2, ρ[f.2.1]? = some r1 ∧ ρ[f.2.2.2.1]? = some r2 ∧ f.2.2.2.2 ≤ f.1 * r1 + f.2.2.1 * r2) → m ≤ r1 - r2 ∨ True → (m ≤ r1 - r2 → q_kd D i j m ≤ r1 - r2) ∧ (m < q_kd D i j m → q_kd D i j m ≤ r1 - r2)
  | [], m, _, _ => ⟨fun h => h, fun h => absurd h (Int.lt_irrefl _)⟩
  | f :: D, m, hD, _ => by
    obtain ⟨ih1, ih2⟩ := q_kd_ok h1 h2 (D := D) (m := m) (fun f hf => hD f (List.mem_cons_of_mem _ hf)) (Or.inr trivial)
    have e : q_kd (f :: D) i j m = cond (Nat.beq f.2.1 i && Nat.beq f.2.2.2.1 j && q_eq f.1 1 && q_eq f.2.2.1 (.negSucc 0) && q_le (q_kd D i j m) f.2.2.2.2) f.2.2.2.2 (q_kd D i j m) := rfl
    rw [e]
    cases hb : (Nat.beq f.2.1 i && Nat.beq f.2.2.2.1 j && q_eq f.1 1 && q_eq f.2.2.1 (.negSucc 0) && q_le (q_kd D i j m) f.2.2.2.2) with
    | false => exact ⟨ih1, ih2⟩
    | true =>
      simp only [Bool.and_eq_true] at hb
      obtain ⟨⟨⟨⟨b1, b2⟩, b3⟩, b4⟩, b5⟩ := hb
      have b1 := Nat.eq_of_beq_eq_true b1
      have b2 := Nat.eq_of_beq_eq_true b2
      have b3 := q_eq_iff.mp b3
      have b4 := q_eq_iff.mp b4
      obtain ⟨s1, s2, a1, a2, a3⟩ := hD f List.mem_cons_self
      rw [b1, h1] at a1
      rw [b2, h2] at a2
      cases a1
      cases a2
      rw [b3, b4] at a3
      have a3 : f.2.2.2.2 ≤ 1 * r1 + (-1) * r2 := a3
      have : f.2.2.2.2 ≤ r1 - r2 := by omega
      exact ⟨fun _ => this, fun _ => this⟩
end QN
