/-! typed arrays -/
theorem q_fa_in {l h z : Int} {a b r : Nat} (hl : l ≤ z) (hh : z ≤ h) (ha : a ≤ r) (hb : r ≤ b) : ∀ {sg : qS} {o : Nat}, q_fa l h a b sg o = true → q_fa z z r r sg o = true
  | [], _, _ => rfl
  | q :: sg, o, hf => by
    have hf : cond (Nat.ble o b && Nat.ble (Nat.succ a) (Nat.add o q.1)) (cond (q_le q.2.1 l && q_le h q.2.2) (q_fa l h a b sg (Nat.add o q.1)) false) (q_fa l h a b sg (Nat.add o q.1)) = true := hf
    show cond (Nat.ble o r && Nat.ble (Nat.succ r) (Nat.add o q.1)) (cond (q_le q.2.1 z && q_le z q.2.2) (q_fa z z r r sg (Nat.add o q.1)) false) (q_fa z z r r sg (Nat.add o q.1)) = true
    have ih : q_fa l h a b sg (Nat.add o q.1) = true → q_fa z z r r sg (Nat.add o q.1) = true := q_fa_in hl hh ha hb
    cases hr : (Nat.ble o r && Nat.ble (Nat.succ r) (Nat.add o q.1)) with
    | true =>
      obtain ⟨r1, r2⟩ := Bool.and_eq_true_iff.mp hr
      have r1 := Nat.le_of_ble_eq_true r1
      have r2 := Nat.le_of_ble_eq_true r2
      rw [Nat.ble_eq_true_of_le (show o ≤ b by omega), Nat.ble_eq_true_of_le (show Nat.succ a ≤ Nat.add o q.1 by omega)] at hf
      have hf : cond (q_le q.2.1 l && q_le h q.2.2) (q_fa l h a b sg (Nat.add o q.1)) false = true := hf
      cases hc : (q_le q.2.1 l && q_le h q.2.2) with
      | false => rw [hc] at hf; cases hf
      | true =>
        rw [hc] at hf
        obtain ⟨c1, c2⟩ := Bool.and_eq_true_iff.mp hc
        have c1 := q_le_iff.mp c1
        have c2 := q_le_iff.mp c2
        have e : (q_le q.2.1 z && q_le z q.2.2) = true := Bool.and_eq_true_iff.mpr ⟨q_le_iff.mpr (by omega), q_le_iff.mpr (by omega)⟩
        rw [e]
        exact ih hf
    | false =>
      apply ih
      cases hz : (Nat.ble o b && Nat.ble (Nat.succ a) (Nat.add o q.1)) with
      | false => rw [hz] at hf; exact hf
      | true =>
        rw [hz] at hf
        have hf : cond (q_le q.2.1 l && q_le h q.2.2) (q_fa l h a b sg (Nat.add o q.1)) false = true := hf
        cases hc : (q_le q.2.1 l && q_le h q.2.2) with
        | false => rw [hc] at hf; cases hf
        | true => rw [hc] at hf; exact hf
theorem q_fa_lo {z : Int} {a b r : Nat} (ha : a ≤ r) (hb : r ≤ b) : ∀ {sg : qS} {o : Nat}, q_fa z z r r sg o = true → o ≤ r → r < o + q_pd sg → q_lo a b sg o ≤ z ∧ z ≤ q_hi a b sg o
  | [], o, _, h1, h2 => by
    have : q_pd [] = 0 := rfl
    omega
  | q :: sg, o, hf, h1, h2 => by
    have hp : q_pd (q :: sg) = Nat.add q.1 (q_pd sg) := rfl
    have hp : q_pd (q :: sg) = q.1 + q_pd sg := hp
    have hf : cond (Nat.ble o r && Nat.ble (Nat.succ r) (Nat.add o q.1)) (cond (q_le q.2.1 z && q_le z q.2.2) (q_fa z z r r sg (Nat.add o q.1)) false) (q_fa z z r r sg (Nat.add o q.1)) = true := hf
    show cond (Nat.ble o b && Nat.ble (Nat.succ a) (Nat.add o q.1)) (q_mni q.2.1 (q_lo a b sg (Nat.add o q.1))) (q_lo a b sg (Nat.add o q.1)) ≤ z ∧ z ≤ cond (Nat.ble o b && Nat.ble (Nat.succ a) (Nat.add o q.1)) (q_mxi q.2.2 (q_hi a b sg (Nat.add o q.1))) (q_hi a b sg (Nat.add o q.1))
    rw [q_mni_eq, q_mxi_eq]
    have rest : r ≥ o + q.1 → q_lo a b sg (Nat.add o q.1) ≤ z ∧ z ≤ q_hi a b sg (Nat.add o q.1) := by
      intro hge
      have e : (Nat.ble o r && Nat.ble (Nat.succ r) (Nat.add o q.1)) = false := by
        cases hx : Nat.ble (Nat.succ r) (Nat.add o q.1) with
        | false => rw [Bool.and_false]
        | true =>
          have hx : r + 1 ≤ o + q.1 := Nat.le_of_ble_eq_true hx
          omega
      rw [e] at hf
      exact q_fa_lo ha hb (sg := sg) hf hge (by show r < o + q.1 + q_pd sg; omega)
    by_cases hlt : r < o + q.1
    · have e1 : (Nat.ble o r && Nat.ble (Nat.succ r) (Nat.add o q.1)) = true := Bool.and_eq_true_iff.mpr ⟨Nat.ble_eq_true_of_le h1, Nat.ble_eq_true_of_le (show r + 1 ≤ o + q.1 by omega)⟩
      have e2 : (Nat.ble o b && Nat.ble (Nat.succ a) (Nat.add o q.1)) = true := Bool.and_eq_true_iff.mpr ⟨Nat.ble_eq_true_of_le (by omega), Nat.ble_eq_true_of_le (show a + 1 ≤ o + q.1 by omega)⟩
      rw [e1] at hf
      rw [e2]
      have hf : cond (q_le q.2.1 z && q_le z q.2.2) (q_fa z z r r sg (Nat.add o q.1)) false = true := hf
      cases hc : (q_le q.2.1 z && q_le z q.2.2) with
      | false => rw [hc] at hf; cases hf
      | true =>
        obtain ⟨c1, c2⟩ := Bool.and_eq_true_iff.mp hc
        have c1 := q_le_iff.mp c1
        have c2 := q_le_iff.mp c2
        show min q.2.1 _ ≤ z ∧ z ≤ max q.2.2 _
        omega
    · obtain ⟨r1, r2⟩ := rest (by omega)
      cases (Nat.ble o b && Nat.ble (Nat.succ a) (Nat.add o q.1)) with
      | true => show min q.2.1 _ ≤ z ∧ z ≤ max q.2.2 _; omega
      | false => exact ⟨r1, r2⟩
section QT
variable {ρ : List Int} {ex : Nat → Value} {as : List Nat} {g : qG} {o : List qO}
theorem q_ri_ok {sg : qS} {j : qV} {x : Int32} {l h : Int} {kk : Nat → Nat → qR} (hv : qy_v ρ ex as j (.int x)) (hl : l ≤ x.toInt) (hh : x.toInt ≤ h) (h0 : 0 ≤ l) (hk : q_ri sg j l h kk = some o) : ∃ a b, kk a b = some o ∧ 0 < q_pd sg ∧ a ≤ x.toInt.toNat % q_pd sg ∧ x.toInt.toNat % q_pd sg ≤ b := by
  unfold q_ri at hk
  rw [zx_n_eq] at hk
  rcases q_if hk with ⟨hb, hk⟩ | ⟨hb, hk⟩
  · cases hk
  have hP : 0 < q_pd sg := by
    rcases Nat.eq_zero_or_pos (q_pd sg) with z | z
    · rw [z] at hb; cases hb
    · exact z
  generalize hPe : q_pd sg = P at hk hP ⊢
  rcases q_if hk with ⟨hb1, hk⟩ | ⟨hb1, hk⟩
  · have e : P = 1 := Nat.eq_of_beq_eq_true hb1
    subst e
    exact ⟨0, 0, hk, by omega, Nat.zero_le _, by rw [Nat.mod_one]; exact Nat.le_refl _⟩
  · match j, hv, hk with
    | .inl z, ⟨x', h1, h2⟩, hk =>
      cases h1
      have hk : zx_n (Nat.mod (Int.toNat z) P) (fun r => kk r r) = some o := hk
      rw [zx_n_eq] at hk
      refine ⟨_, _, hk, hP, ?_, ?_⟩
      · show z.toNat % P ≤ _; rw [h2]; exact Nat.le_refl _
      · show _ ≤ z.toNat % P; rw [h2]; exact Nat.le_refl _
    | .inr (.inl (s, c, d)), ⟨x', r, h1, h2, h3⟩, hk =>
      cases h1
      have h3 : x.toInt = c * r + d := h3
      rcases q_if hk with ⟨hb2, hk⟩ | ⟨hb2, hk⟩
      · rw [zx_n_eq] at hk
        have hc : (c % (P : Int)).toNat = 0 := Nat.eq_of_beq_eq_true hb2
        have hc0 : c % (P : Int) = 0 := by
          have := Int.emod_nonneg c (b := (P : Int)) (by omega)
          omega
        have key : x.toInt % (P : Int) = d % (P : Int) := by
          obtain ⟨q, hq⟩ := Int.dvd_of_emod_eq_zero hc0
          rw [h3, hq, Int.mul_assoc, Int.add_comm, Int.add_mul_emod_self_left]
        have key2 : x.toInt.toNat % P = (d % (P : Int)).toNat := by
          rw [← key]
          have e : x.toInt = (x.toInt.toNat : Int) := by omega
          have e2 : x.toInt % (P : Int) = ((x.toInt.toNat % P : Nat) : Int) := by
            rw [e]; exact rfl
          rw [e2]; rfl
        refine ⟨_, _, hk, hP, ?_, ?_⟩
        · show (d % (P : Int)).toNat ≤ _; rw [key2]; exact Nat.le_refl _
        · show _ ≤ (d % (P : Int)).toNat; rw [key2]; exact Nat.le_refl _
      · rw [zx_n_eq, zx_n_eq] at hk
        have hm := Nat.mod_lt x.toInt.toNat hP
        rcases q_if hk with ⟨hb3, hk⟩ | ⟨hb3, hk⟩
        · obtain ⟨c1, c2⟩ := Bool.and_eq_true_iff.mp hb3
          have c1 : h.toNat - l.toNat + 1 ≤ P := Nat.le_of_ble_eq_true c1
          have c2 : l.toNat % P ≤ h.toNat % P := Nat.le_of_ble_eq_true c2
          refine ⟨_, _, hk, hP, ?_, ?_⟩
          · show l.toNat % P ≤ x.toInt.toNat % P
            have d1 := Nat.div_add_mod l.toNat P
            have d2 := Nat.div_add_mod h.toNat P
            have d3 := Nat.div_add_mod x.toInt.toNat P
            have m1 := Nat.mod_lt l.toNat hP
            have m2 := Nat.mod_lt h.toNat hP
            have e1 : l.toNat ≤ x.toInt.toNat := by omega
            have e2 : x.toInt.toNat ≤ h.toNat := by omega
            have q1 := Nat.div_le_div_right (c := P) e1
            have q2 := Nat.div_le_div_right (c := P) e2
            have q3 : h.toNat / P ≤ l.toNat / P := by
              apply Nat.le_of_lt_succ
              apply Nat.lt_of_mul_lt_mul_left (a := P)
              rw [Nat.mul_succ]
              omega
            have q4 : x.toInt.toNat / P = l.toNat / P := by omega
            rw [q4] at d3
            omega
          · show x.toInt.toNat % P ≤ h.toNat % P
            have d1 := Nat.div_add_mod l.toNat P
            have d2 := Nat.div_add_mod h.toNat P
            have d3 := Nat.div_add_mod x.toInt.toNat P
            have m1 := Nat.mod_lt l.toNat hP
            have m2 := Nat.mod_lt h.toNat hP
            have e1 : l.toNat ≤ x.toInt.toNat := by omega
            have e2 : x.toInt.toNat ≤ h.toNat := by omega
            have q1 := Nat.div_le_div_right (c := P) e1
            have q2 := Nat.div_le_div_right (c := P) e2
            have q3 : h.toNat / P ≤ l.toNat / P := by
              apply Nat.le_of_lt_succ
              apply Nat.lt_of_mul_lt_mul_left (a := P)
              rw [Nat.mul_succ]
              omega
            have q4 : x.toInt.toNat / P = h.toNat / P := by omega
            rw [q4] at d3
            omega
        · refine ⟨_, _, hk, hP, Nat.zero_le _, ?_⟩
          show _ ≤ P - 1
          omega
theorem q_ve_ok {a b : qV} {x : Int32} {v : Value} (ha : qy_v ρ ex as a (.int x)) (hb : qy_v ρ ex as b v) (h : q_ve a b = true) : v = .int x := by
  match a, b, ha, hb, h with
  | .inl z1, .inl z2, ⟨x1, h1, h2⟩, ⟨x2, h3, h4⟩, h =>
    have e := q_eq_iff.mp h
    cases h1
    rw [h3]
    congr 1
    exact Int32.toInt_inj.mp (by omega)
  | .inr (.inl (s, c, d)), .inr (.inl (s2, c2, d2)), ⟨x1, r1, h1, h2, h5⟩, ⟨x2, r2, h3, h4, h6⟩, h =>
    obtain ⟨b1, b2⟩ := Bool.and_eq_true_iff.mp h
    obtain ⟨b2, b3⟩ := Bool.and_eq_true_iff.mp b2
    have b1 : s = s2 := Nat.eq_of_beq_eq_true b1
    have b2 := q_eq_iff.mp b2
    have b3 := q_eq_iff.mp b3
    subst b1
    subst b2
    subst b3
    have h2 : ρ[s]? = some r1 := h2
    have h4 : ρ[s]? = some r2 := h4
    rw [h2] at h4
    cases h4
    cases h1
    rw [h3]
    congr 1
    have h5 : x.toInt = c * r1 + d := h5
    have h6 : x2.toInt = c * r1 + d := h6
    exact Int32.toInt_inj.mp (by omega)
theorem q_kn_ok {j : qV} {kk : qV → qR} {no : qR} : ∀ {l : List (qV × qV)}, q_kn j l kk no = some o → (∃ q ∈ l, q_ve j q.1 = true ∧ kk q.2 = some o) ∨ no = some o
  | [], h => Or.inr h
  | q :: r, h => by
    rcases q_if (show cond (q_ve j q.1) (kk q.2) (q_kn j r kk no) = some o from h) with ⟨hb, h1⟩ | ⟨hb, h1⟩
    · exact Or.inl ⟨q, List.mem_cons_self, hb, h1⟩
    · rcases q_kn_ok (l := r) h1 with ⟨u, u1, u2⟩ | u
      · exact Or.inl ⟨u, List.mem_cons_of_mem _ u1, u2⟩
      · exact Or.inr u
theorem q_t3_mem {l : List (qV × qV)} {q : qV × qV} (h : q ∈ q_t3 l) : q ∈ l := by
  unfold q_t3 at h
  split at h
  · simp only [List.mem_cons, List.not_mem_nil, or_false] at h
    rcases h with rfl | rfl | rfl <;> simp
  · exact h
theorem q_xl_ok : ∀ {vs : List qV} {j : Nat} {a : qV} {x : Int32}, vs[j]? = some a → qy_v ρ ex as a (.int x) → q_xl vs ≤ x.toInt ∧ x.toInt ≤ q_xh vs
  | [], j, a, x, h, _ => by simp at h
  | v :: vs, j, a, x, h, hv => by
    have hb := q_i32 x
    have ih : ∀ {i : Nat}, vs[i]? = some a → q_xl vs ≤ x.toInt ∧ x.toInt ≤ q_xh vs := fun hi => q_xl_ok hi hv
    match v, h with
    | .inl z, h =>
      show q_mni z (q_xl vs) ≤ x.toInt ∧ x.toInt ≤ q_mxi z (q_xh vs)
      rw [q_mni_eq, q_mxi_eq]
      cases j with
      | zero =>
        cases h
        obtain ⟨x', h1, h2⟩ := hv
        cases h1
        omega
      | succ j =>
        have := ih (i := j) h
        omega
    | .inr _, h => exact hb
theorem q_i0_ok {l h : Int} {n : Nat} (hb : q_i0 l h n = true) : 0 ≤ l ∧ h < n := by
  obtain ⟨b1, b2⟩ := Bool.and_eq_true_iff.mp hb
  have b1 := q_le_iff.mp b1
  have b2 : h + 1 ≤ (n : Int) := q_le_iff.mp b2
  omega
theorem q_vin {x : Int32} {n : Nat} (h1 : 0 ≤ x.toInt) (h2 : x.toInt < n) : vp_in x n ∧ x.toNatClampNeg = x.toInt.toNat := by
  refine ⟨?_, rfl⟩
  intro q
  rcases q with q | q
  · have := Int32.lt_iff_toInt_lt.mp q
    have e : (0 : Int32).toInt = 0 := rfl
    omega
  · have e : x.toNatClampNeg = x.toInt.toNat := rfl
    omega
end QT
