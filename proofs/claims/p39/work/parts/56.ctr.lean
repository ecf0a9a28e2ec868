/-! a whole match; what a contract's end is for the caller -/
section QZ
variable {ρ : List Int} {ex : Nat → Value} {fc : Nat → Nat → Int32} {as : List Nat} {tys : List (ClassId × FieldType)} {g : qG} {o : List qO} {p : Nat}
theorem q_rgv_ok (hg : qy_g ρ g) {x : qV} {z : Int} {kk : Int → Int → qR} (hv : q_val ρ x = some z) (h : q_rg g x kk = some o) : ∃ lo hi, lo ≤ z ∧ z ≤ hi ∧ kk lo hi = some o := by
  match x, hv, h with
  | .inl y, hv, h =>
    have e : y = z := Option.some.inj hv
    exact ⟨y, y, by omega, by omega, h⟩
  | .inr (.inl (s, c, d)), hv, h =>
    obtain ⟨u, h4, h5⟩ := q_at_ok h
    obtain ⟨r', h6, h7, h8⟩ := hg.2.1 s u h4
    have hv : (ρ[s]?).map (fun r => c * r + d) = some z := hv
    rw [h6] at hv
    have hz : c * r' + d = z := Option.some.inj hv
    rcases q_if h5 with ⟨hc, h9⟩ | ⟨hc, h9⟩
    · rw [zx_i_eq, zx_i_eq] at h9
      have hc := q_le_iff.mp hc
      have m1 := Int.mul_le_mul_of_nonneg_left h7 hc
      have m2 := Int.mul_le_mul_of_nonneg_left h8 hc
      exact ⟨c * u.1 + d, c * u.2 + d, by omega, by omega, h9⟩
    · rw [zx_i_eq, zx_i_eq] at h9
      have hc := q_le_no hc
      have m1 := Int.mul_le_mul_of_nonpos_left (a := c) (by omega) h7
      have m2 := Int.mul_le_mul_of_nonpos_left (a := c) (by omega) h8
      exact ⟨c * u.2 + d, c * u.1 + d, by omega, by omega, h9⟩
theorem q_tm_ok {a r lo hi : Int} (h1 : lo ≤ r) (h2 : r ≤ hi) : q_tm a lo hi ≤ a * r := by
  unfold q_tm
  cases hb : q_le 0 a with
  | true =>
    show a * lo ≤ a * r
    exact Int.mul_le_mul_of_nonneg_left h1 (q_le_iff.mp hb)
  | false =>
    have := q_le_no hb
    show a * hi ≤ a * r
    exact Int.mul_le_mul_of_nonpos_left (by omega) h2
/-- what a match gives: the pattern's own symbols and their values -/
def qM_fin (ρ : List Int) (sg : List qV) (vals : List Int) : Prop := sg.length = vals.length ∧ ∀ (i : Nat) (x : qV), sg[i]? = some x → ∃ z, vals[i]? = some z ∧ q_val ρ x = some z
theorem q_sy_ok (hp : p ≤ ρ.length) {sg : List qV} {vals : List Int} (hF : qM_fin ρ sg vals) {i : Nat} {k : qV → qR} (h : q_sy p sg i k = some o) : ∃ x z, k x = some o ∧ q_val ρ x = some z ∧ (ρ.take p ++ vals)[i]? = some z := by
  have l1 : (ρ.take p).length = p := by rw [List.length_take]; omega
  rcases q_if h with ⟨hb, h1⟩ | ⟨hb, h1⟩
  · have hi : i < p := Nat.le_of_ble_eq_true hb
    have hr : ρ[i]? = some (ρ[i]'(by omega)) := List.getElem?_eq_getElem (by omega)
    refine ⟨_, ρ[i]'(by omega), h1, ?_, ?_⟩
    · show (ρ[i]?).map (fun r => 1 * r + 0) = _
      rw [hr]
      show some (1 * _ + 0) = some _
      rw [Int.one_mul, Int.add_zero]
    · rw [List.getElem?_append_left (by omega), List.getElem?_take, if_pos hi]
      exact hr
  · have hi : ¬ i < p := fun hz => by rw [Nat.ble_eq_true_of_le hz] at hb; cases hb
    obtain ⟨x, x1, x2⟩ := q_at_ok h1
    obtain ⟨z, z1, z2⟩ := hF.2 _ x x1
    refine ⟨x, z, x2, z2, ?_⟩
    rw [List.getElem?_append_right (by omega), l1]
    exact z1
theorem q_hf_ok {a b c : Int} {i j : Nat} : ∀ {D : List qF}, q_hf a i b j c D = true → ∃ f ∈ D, f.2.1 = i ∧ f.2.2.2.1 = j ∧ f.1 = a ∧ f.2.2.1 = b ∧ c ≤ f.2.2.2.2
  | [], h => by cases h
  | f :: D, h => by
    have h : cond (Nat.beq f.2.1 i && (Nat.beq f.2.2.2.1 j && (q_eq f.1 a && (q_eq f.2.2.1 b && q_le c f.2.2.2.2)))) true (q_hf a i b j c D) = true := h
    cases hb : (Nat.beq f.2.1 i && (Nat.beq f.2.2.2.1 j && (q_eq f.1 a && (q_eq f.2.2.1 b && q_le c f.2.2.2.2)))) with
    | true =>
      simp only [Bool.and_eq_true] at hb
      obtain ⟨b1, b2, b3, b4, b5⟩ := hb
      exact ⟨f, List.mem_cons_self, Nat.eq_of_beq_eq_true b1, Nat.eq_of_beq_eq_true b2, q_eq_iff.mp b3, q_eq_iff.mp b4, q_le_iff.mp b5⟩
    | false =>
      rw [hb] at h
      obtain ⟨u, u1, u2⟩ := q_hf_ok (D := D) h
      exact ⟨u, List.mem_cons_of_mem _ u1, u2⟩
theorem q_trb_ok (hg : qy_g ρ g) {j : Nat} {rj : Int} (hj : ρ[j]? = some rj) : ∀ {n i : Nat} {m ri : Int}, q_trb g.2 j n i m = true → ρ[i]? = some ri → m ≤ ri - rj := by
  have base : ∀ {i : Nat} {m ri : Int}, (Nat.beq i j && q_le m 0) = true → ρ[i]? = some ri → m ≤ ri - rj := by
    intro i m ri h hi
    obtain ⟨h1, h2⟩ := Bool.and_eq_true_iff.mp h
    have h1 := Nat.eq_of_beq_eq_true h1
    have h2 := q_le_iff.mp h2
    subst h1
    rw [hj] at hi
    cases hi
    omega
  intro n
  induction n with
  | zero => intro i m ri h hi; exact base h hi
  | succ n ih =>
    intro i m ri h hi
    have h : cond (Nat.beq i j && q_le m 0) true (List.rec (motive := fun _ => Bool) false (fun f _ ihf => cond (Nat.beq f.2.1 i && (q_eq f.1 1 && q_eq f.2.2.1 (.negSucc 0))) (zx_i (Int.sub m f.2.2.2.2) fun m2 => cond (q_trb g.2 j n f.2.2.2.1 m2) true ihf) ihf) g.2) = true := h
    cases hb : (Nat.beq i j && q_le m 0) with
    | true => exact base hb hi
    | false =>
      rw [hb] at h
      have go : ∀ {D : List qF}, (∀ f ∈ D, f ∈ g.2) → List.rec (motive := fun _ => Bool) false (fun f _ ihf => cond (Nat.beq f.2.1 i && (q_eq f.1 1 && q_eq f.2.2.1 (.negSucc 0))) (zx_i (Int.sub m f.2.2.2.2) fun m2 => cond (q_trb g.2 j n f.2.2.2.1 m2) true ihf) ihf) D = true → m ≤ ri - rj := by
        intro D
        induction D with
        | nil => intro _ hh; cases hh
        | cons f D ihD =>
          intro hm hh
          have hh : cond (Nat.beq f.2.1 i && (q_eq f.1 1 && q_eq f.2.2.1 (.negSucc 0))) (zx_i (Int.sub m f.2.2.2.2) fun m2 => cond (q_trb g.2 j n f.2.2.2.1 m2) true (List.rec (motive := fun _ => Bool) false (fun f _ ihf => cond (Nat.beq f.2.1 i && (q_eq f.1 1 && q_eq f.2.2.1 (.negSucc 0))) (zx_i (Int.sub m f.2.2.2.2) fun m2 => cond (q_trb g.2 j n f.2.2.2.1 m2) true ihf) ihf) D)) (List.rec (motive := fun _ => Bool) false (fun f _ ihf => cond (Nat.beq f.2.1 i && (q_eq f.1 1 && q_eq f.2.2.1 (.negSucc 0))) (zx_i (Int.sub m f.2.2.2.2) fun m2 => cond (q_trb g.2 j n f.2.2.2.1 m2) true ihf) ihf) D) = true := hh
          have rest := ihD (fun f' hf' => hm f' (List.mem_cons_of_mem _ hf'))
          cases hc : (Nat.beq f.2.1 i && (q_eq f.1 1 && q_eq f.2.2.1 (.negSucc 0))) with
          | false => rw [hc] at hh; exact rest hh
          | true =>
            rw [hc, cond_true, zx_i_eq] at hh
            cases hd : q_trb g.2 j n f.2.2.2.1 (Int.sub m f.2.2.2.2) with
            | false => rw [hd] at hh; exact rest hh
            | true =>
              obtain ⟨c1, c2⟩ := Bool.and_eq_true_iff.mp hc
              obtain ⟨c2, c3⟩ := Bool.and_eq_true_iff.mp c2
              have c1 := Nat.eq_of_beq_eq_true c1
              have c2 := q_eq_iff.mp c2
              have c3 : f.2.2.1 = -1 := q_eq_iff.mp c3
              obtain ⟨x1, x2, y1, y2, y3⟩ := hg.2.2 f (hm f List.mem_cons_self)
              rw [c1, hi] at y1
              cases y1
              have := ih hd y2
              have this : m - f.2.2.2.2 ≤ x2 - rj := this
              rw [c2, c3] at y3
              omega
      exact go (fun _ hf => hf) h
theorem q_f1_ok (hp : p ≤ ρ.length) (hg : qy_g ρ g) {sg : List qV} {vals : List Int} (hF : qM_fin ρ sg vals) {f : qF} {k no : qR} (h : q_f1 p g sg f k no = some o) : ((∃ r1 r2, (ρ.take p ++ vals)[f.2.1]? = some r1 ∧ (ρ.take p ++ vals)[f.2.2.2.1]? = some r2 ∧ f.2.2.2.2 ≤ f.1 * r1 + f.2.2.1 * r2) ∧ k = some o) ∨ no = some o := by
  obtain ⟨x, z1, h, v1, i1⟩ := q_sy_ok hp hF h
  obtain ⟨y, z2, h, v2, i2⟩ := q_sy_ok hp hF h
  obtain ⟨l1, u1, a1, a2, h⟩ := q_rgv_ok hg v1 h
  obtain ⟨l2, u2, a3, a4, h⟩ := q_rgv_ok hg v2 h
  rcases q_if h with ⟨hb, h1⟩ | ⟨hb, h1⟩
  · have hb : f.2.2.2.2 ≤ q_tm f.1 l1 u1 + q_tm f.2.2.1 l2 u2 := q_le_iff.mp hb
    have t1 := q_tm_ok (a := f.1) a1 a2
    have t2 := q_tm_ok (a := f.2.2.1) a3 a4
    exact Or.inl ⟨⟨z1, z2, i1, i2, by omega⟩, h1⟩
  · match x, y, v1, v2, h1 with
    | .inr (.inl (s, c, d)), .inr (.inl (s2, c2, d2)), v1, v2, h1 =>
      rcases q_if h1 with ⟨hb2, h2⟩ | ⟨hb2, h2⟩
      · obtain ⟨b1, b2⟩ := Bool.and_eq_true_iff.mp hb2
        have b1 := q_eq_iff.mp b1
        have b2 := q_eq_iff.mp b2
        subst b1
        subst b2
        rw [zx_i_eq] at h2
        rcases q_if h2 with ⟨hb3, h3⟩ | ⟨hb3, h3⟩
        · rcases Bool.or_eq_true_iff.mp hb3 with hb3 | hb3
          rotate_left
          · obtain ⟨t1, t2⟩ := Bool.and_eq_true_iff.mp hb3
            obtain ⟨t2, t3⟩ := Bool.and_eq_true_iff.mp t2
            have t1 := q_eq_iff.mp t1
            have t2 : f.2.2.1 = -1 := q_eq_iff.mp t2
            have v1 : (ρ[s]?).map (fun r => 1 * r + d) = some z1 := v1
            have v2 : (ρ[s2]?).map (fun r => 1 * r + d2) = some z2 := v2
            cases w1 : ρ[s]? with
            | none => rw [w1] at v1; cases v1
            | some r1 =>
              cases w2 : ρ[s2]? with
              | none => rw [w2] at v2; cases v2
              | some r2 =>
                rw [w1] at v1
                rw [w2] at v2
                have e1 : 1 * r1 + d = z1 := Option.some.inj v1
                have e2 : 1 * r2 + d2 = z2 := Option.some.inj v2
                have t3 := q_trb_ok hg w2 t3 w1
                have t3 : f.2.2.2.2 - f.1 * d - f.2.2.1 * d2 ≤ r1 - r2 := t3
                refine Or.inl ⟨⟨z1, z2, i1, i2, ?_⟩, h3⟩
                rw [t1, t2] at t3 ⊢
                omega
          obtain ⟨u, u1, u2, u3, u4, u5, u6⟩ := q_hf_ok hb3
          obtain ⟨r1, r2, w1, w2, w3⟩ := hg.2.2 u u1
          rw [u2] at w1
          rw [u3] at w2
          rw [u4, u5] at w3
          have v1 : (ρ[s]?).map (fun r => 1 * r + d) = some z1 := v1
          have v2 : (ρ[s2]?).map (fun r => 1 * r + d2) = some z2 := v2
          rw [w1] at v1
          rw [w2] at v2
          have e1 : 1 * r1 + d = z1 := Option.some.inj v1
          have e2 : 1 * r2 + d2 = z2 := Option.some.inj v2
          have u6 : f.2.2.2.2 - f.1 * d - f.2.2.1 * d2 ≤ u.2.2.2.2 := u6
          refine Or.inl ⟨⟨z1, z2, i1, i2, ?_⟩, h3⟩
          rw [← e1, ← e2, Int.one_mul, Int.one_mul, Int.mul_add, Int.mul_add]
          omega
        · exact Or.inr h3
      · exact Or.inr h2
    | .inl _, _, _, _, h1 => exact Or.inr h1
    | .inr (.inr _), _, _, _, h1 => exact Or.inr h1
    | .inr (.inl _), .inl _, _, _, h1 => exact Or.inr h1
    | .inr (.inl _), .inr (.inr _), _, _, h1 => exact Or.inr h1
theorem q_fs_ok (hp : p ≤ ρ.length) (hg : qy_g ρ g) {sg : List qV} {vals : List Int} (hF : qM_fin ρ sg vals) {k no : qR} : ∀ {fs : List qF}, q_fs p g sg k no fs = some o → ((∀ f ∈ fs, ∃ r1 r2, (ρ.take p ++ vals)[f.2.1]? = some r1 ∧ (ρ.take p ++ vals)[f.2.2.2.1]? = some r2 ∧ f.2.2.2.2 ≤ f.1 * r1 + f.2.2.1 * r2) ∧ k = some o) ∨ no = some o
  | [], h => Or.inl ⟨(fun f hf => by cases hf), h⟩
  | f :: fs, h => by
    have h : q_f1 p g sg f (q_fs p g sg k no fs) no = some o := h
    rcases q_f1_ok hp hg hF h with ⟨h1, h2⟩ | h1
    · rcases q_fs_ok hp hg hF h2 with ⟨h3, h4⟩ | h3
      · refine Or.inl ⟨fun u hu => ?_, h4⟩
        rcases List.mem_cons.mp hu with rfl | hu
        · exact h1
        · exact h3 u hu
      · exact Or.inr h3
    · exact Or.inr h1
theorem q_rv_eq {α : Type} : ∀ (l acc : List α) (k : List α → qR), q_rv l acc k = k (l.reverse ++ acc)
  | [], acc, k => rfl
  | x :: l, acc, k => by
    show q_rv l (x :: acc) k = _
    rw [q_rv_eq l (x :: acc) k, List.reverse_cons, List.append_assoc]
    rfl
theorem q_dr_eq {α : Type} : ∀ (l : List α) (i : Nat), q_dr l i = l.drop i
  | [], i => by cases i <;> rfl
  | x :: l, 0 => rfl
  | x :: l, i + 1 => by show q_dr l i = l.drop i; exact q_dr_eq l i
theorem q_rr_ok : ∀ {ps : List (Int × Int)} {p : Nat} {as' : List (Int × Int)}, q_rr ps p as' = true → p ≤ ps.length ∧ ∀ (i : Nat) (q : Int × Int), i < p → ps[i]? = some q → ∃ a, as'[i]? = some a ∧ q.1 ≤ a.1 ∧ a.2 ≤ q.2
  | [], 0, as', _ => ⟨Nat.le_refl _, fun i q hi => absurd hi (Nat.not_lt_zero _)⟩
  | [], p + 1, as', h => by cases h
  | x :: ps, 0, as', _ => ⟨Nat.zero_le _, fun i q hi => absurd hi (Nat.not_lt_zero _)⟩
  | x :: ps, p + 1, [], h => by cases h
  | x :: ps, p + 1, a :: r, h => by
    have h : cond (q_le x.1 a.1 && q_le a.2 x.2) (q_rr ps p r) false = true := h
    cases hb : (q_le x.1 a.1 && q_le a.2 x.2) with
    | false => rw [hb] at h; cases h
    | true =>
      rw [hb] at h
      obtain ⟨b1, b2⟩ := Bool.and_eq_true_iff.mp hb
      obtain ⟨h1, h2⟩ := q_rr_ok (ps := ps) (p := p) (as' := r) h
      refine ⟨Nat.succ_le_succ h1, fun i q hi hq => ?_⟩
      cases i with
      | zero => cases hq; exact ⟨a, rfl, q_le_iff.mp b1, q_le_iff.mp b2⟩
      | succ i => exact h2 i q (by omega) hq
/-- what a whole match says -/
def qM_res (ρ : List Int) (ex : Nat → Value) (fc : Nat → Nat → Int32) (as : List Nat) (tys : List (ClassId × FieldType)) (p : Nat) (G0 : qG) (W0 : List qE) (lo0 : qL) (st0 : List qV) (rv0 : Option qV) (w : List qE) (lo : qL) (st : List qV) (rv : Option qV) (sg : List qV) (vals : List Int) : Prop :=
  qM_fin ρ sg vals ∧ qy_g (ρ.take p ++ vals) G0 ∧ (∀ ws, qy_w ρ ex fc tys as w ws → qy_w (ρ.take p ++ vals) ex fc tys as W0 ws) ∧ (∀ ls nL, qy_l ρ ex as ls nL lo → qy_l (ρ.take p ++ vals) ex as ls nL lo0) ∧ (∀ sv, qy_s ρ ex as st sv → qy_s (ρ.take p ++ vals) ex as st0 sv) ∧ ((rv0 = none ∧ rv = none) ∨ ∃ a b, rv0 = some a ∧ rv = some b ∧ ∀ v, qy_v ρ ex as b v → qy_v (ρ.take p ++ vals) ex as a v)
theorem q_mt_ok (hex : ∀ j, ex j = .null ∨ ∃ a, ex j = .ref a) (hp : p ≤ ρ.length) (hg : qy_g ρ g) {G0 : qG} {W0 : List qE} {lo0 : qL} {st0 : List qV} {rv0 : Option qV} {w : List qE} {lo : qL} {st : List qV} {rv : Option qV} {k : List qV → qR} {no : qR} (h : q_mt p G0 W0 lo0 st0 rv0 g w lo st rv k no = some o) :
    (∃ sg vals, qM_res ρ ex fc as tys p G0 W0 lo0 st0 rv0 w lo st rv sg vals ∧ k sg = some o) ∨ no = some o := by
  unfold q_mt at h
  have M0 : qM_ ρ p G0.1 p [] (q_dr G0.1 p) [] := ⟨by simp, rfl, by rw [q_dr_eq], (fun i x hx => by simp at hx), (fun i z hz => by simp at hz)⟩
  rcases q_mw_ok (fc := fc) (tys := tys) (as := as) hex hp hg M0 h with ⟨n1, s1, g1, v1, A1, A2, A3, h⟩ | h
  · rcases q_mlo_ok (as := as) hex hp hg A1 h with ⟨n2, s2, g2, v2, B1, B2, B3, h⟩ | h
    · rcases q_ml_ok (as := as) hex hp hg B1 h with ⟨n3, s3, g3, v3, C1, C2, C3, h⟩ | h
      · have fin : ∀ (n4 : Nat) (s4 : List qV) (g4 : List (Int × Int)) (v4 : List Int), qM_ ρ p G0.1 n4 s4 g4 v4 → qe (q_pt ρ p v3) (q_pt ρ p v4) → ((rv0 = none ∧ rv = none) ∨ ∃ a b, rv0 = some a ∧ rv = some b ∧ ∀ v, qy_v ρ ex as b v → qy_v (q_pt ρ p v4) ex as a v) → (match g4 with
            | [] => q_rv s4 [] fun sg => cond (q_rr G0.1 p g.1) (q_fs p g sg (k sg) no G0.2) no
            | _ :: _ => no) = some o → (∃ sg vals, qM_res ρ ex fc as tys p G0 W0 lo0 st0 rv0 w lo st rv sg vals ∧ k sg = some o) ∨ no = some o := by
          intro n4 s4 g4 v4 D1 D2 D3 h
          cases g4 with
          | cons _ _ => exact Or.inr h
          | nil =>
            have h : (q_rv s4 [] fun sg => cond (q_rr G0.1 p g.1) (q_fs p g sg (k sg) no G0.2) no) = some o := h
            rw [q_rv_eq, List.append_nil] at h
            rcases q_if h with ⟨hb, h⟩ | ⟨hb, h⟩
            · obtain ⟨r1, r2⟩ := q_rr_ok hb
              obtain ⟨m1, m2, m3, m4, m5⟩ := D1
              have hF : qM_fin ρ s4.reverse v4.reverse := by
                refine ⟨by rw [List.length_reverse, List.length_reverse, m2], fun i x hx => ?_⟩
                have hi := (List.getElem?_eq_some_iff.mp hx).1
                rw [List.length_reverse] at hi
                rw [List.getElem?_reverse hi] at hx
                obtain ⟨z, z1, z2⟩ := m4 _ x hx
                refine ⟨z, ?_, z2⟩
                rw [List.getElem?_reverse (by omega), ← m2]
                exact z1
              rcases q_fs_ok hp hg hF h with ⟨f1, f2⟩ | f1
              · have l1 : (ρ.take p).length = p := by rw [List.length_take]; omega
                have hlen : G0.1.length = p + v4.length := by
                  have h1 : G0.1.length ≤ n4 := by
                    have := m3.symm
                    rwa [List.drop_eq_nil_iff] at this
                  rcases Nat.eq_zero_or_pos v4.length with z | z
                  · omega
                  · have hz : v4.reverse[v4.length - 1]? = some (v4.reverse[v4.length - 1]'(by simp; omega)) := List.getElem?_eq_getElem _
                    obtain ⟨q, q1, -⟩ := m5 _ _ hz
                    have := (List.getElem?_eq_some_iff.mp q1).1
                    omega
                have e43 : qe (q_pt ρ p v3) (q_pt ρ p v4) := D2
                have e42 := C2.tr e43
                have e41 := B2.tr e42
                refine Or.inl ⟨s4.reverse, v4.reverse, ⟨hF, ⟨?_, fun i q hq => ?_, f1⟩, fun ws hw => ?_, fun ls nL hl => ?_, fun sv hs => ?_, D3⟩, f2⟩
                · rw [List.length_append, l1, List.length_reverse, hlen]
                · by_cases hi : i < p
                  · obtain ⟨a, a1, a2, a3⟩ := r2 i q hi hq
                    obtain ⟨r, b1, b2, b3⟩ := hg.2.1 i a a1
                    refine ⟨r, ?_, by omega, by omega⟩
                    rw [List.getElem?_append_left (by omega), List.getElem?_take, if_pos hi]
                    exact b1
                  · have hl := (List.getElem?_eq_some_iff.mp hq).1
                    have hz : v4.reverse[i - p]? = some (v4.reverse[i - p]'(by simp; omega)) := List.getElem?_eq_getElem _
                    obtain ⟨q', q1, q2, q3⟩ := m5 _ _ hz
                    rw [show p + (i - p) = i by omega, hq] at q1
                    cases q1
                    refine ⟨_, ?_, q2, q3⟩
                    rw [List.getElem?_append_right (by omega), l1]
                    exact hz
                · obtain ⟨w1, w2, w3⟩ := hw
                  refine ⟨by rw [w1]; exact A3.1, by rw [w2]; exact A3.1, fun j x hx => ?_⟩
                  have hj : j < w.length := by
                    have := (List.getElem?_eq_some_iff.mp hx).1
                    have := A3.1
                    omega
                  obtain ⟨q, a, b1, b2, b3⟩ := w3 j _ (List.getElem?_eq_getElem hj)
                  exact ⟨q, a, b1, b2, (A3.2 j x _ hx (List.getElem?_eq_getElem hj) q b3).mono e41⟩
                · refine ⟨hl.1, hl.2.1, fun q hq => ?_⟩
                  obtain ⟨a, a1, a2⟩ := B3 q hq
                  obtain ⟨v, b1, b2⟩ := hl.2.2 _ a1
                  exact ⟨v, b1, (a2 v b2).mono e42⟩
                · exact (C3.2.1 sv hs).mono e43
              · exact Or.inr f1
            · exact Or.inr h
        have h : q_mo p g no rv0 rv n3 s3 g3 (fun _ sg gs => match gs with
            | [] => q_rv sg [] fun sg => cond (q_rr G0.1 p g.1) (q_fs p g sg (k sg) no G0.2) no
            | _ :: _ => no) = some o := h
        match rv0, rv, h, fin with
        | none, none, h, fin => exact fin _ _ _ _ C1 qe.rf (Or.inl ⟨rfl, rfl⟩) h
        | none, some _, h, _ => exact Or.inr h
        | some _, none, h, _ => exact Or.inr h
        | some a, some b, h, fin =>
          have h : q_mv p g a b n3 s3 g3 (fun _ sg gs => match gs with
            | [] => q_rv sg [] fun sg => cond (q_rr G0.1 p g.1) (q_fs p g sg (k sg) no G0.2) no
            | _ :: _ => no) no = some o := h
          rcases q_mv_ok (as := as) hex hp hg C1 h with ⟨n4, s4, g4, v4, D1, D2, D3, h⟩ | h
          · exact fin _ _ _ _ D1 D2 (Or.inr ⟨a, b, rfl, rfl, D3⟩) h
          · exact Or.inr h
      · exact Or.inr h
    · exact Or.inr h
  · exact Or.inr h
end QZ
