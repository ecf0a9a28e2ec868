/-! a state against a pattern: what it says -/
def q_val (ρ : List Int) (a : qV) : Option Int := match a with
  | .inl z => some z
  | .inr (.inl q) => (ρ[q.1]?).map fun r => q.2.1 * r + q.2.2
  | .inr (.inr (.inr (.inr (.inl z)))) => some z
  | .inr (.inr (.inr (.inr (.inr (.inl s))))) => ρ[s]?
  | _ => none
/-- the pattern's symbols: the first p, and its own -/
def q_pt (ρ : List Int) (p : Nat) (vs : List Int) : List Int := ρ.take p ++ vs.reverse
/-- how far a match has come: symbols so far, their values (last first), ranges to come -/
def qM_ (ρ : List Int) (p : Nat) (G : List (Int × Int)) (n : Nat) (sg : List qV) (gs : List (Int × Int)) (vs : List Int) : Prop :=
  n = p + vs.length ∧ sg.length = vs.length ∧ gs = G.drop n ∧ (∀ (i : Nat) (x : qV), sg[i]? = some x → ∃ z, vs[i]? = some z ∧ q_val ρ x = some z) ∧ ∀ (i : Nat) (z : Int), vs.reverse[i]? = some z → ∃ q, G[p + i]? = some q ∧ q.1 ≤ z ∧ z ≤ q.2
section QX
variable {ρ : List Int} {ex : Nat → Value} {fc : Nat → Nat → Int32} {as : List Nat} {tys : List (ClassId × FieldType)} {g : qG} {o : List qO} {p : Nat} {G : List (Int × Int)}
theorem q_ve_eq {a b : qV} (h : q_ve a b = true) : a = b := by
  match a, b, h with
  | .inl z1, .inl z2, h => rw [q_eq_iff.mp h]
  | .inr (.inl (s, c, d)), .inr (.inl (s2, c2, d2)), h =>
    obtain ⟨b1, b2⟩ := Bool.and_eq_true_iff.mp h
    obtain ⟨b2, b3⟩ := Bool.and_eq_true_iff.mp b2
    rw [Nat.eq_of_beq_eq_true b1, q_eq_iff.mp b2, q_eq_iff.mp b3]
theorem q_pt_lt (hp : p ≤ ρ.length) {vs : List Int} {i : Nat} {r : Int} (hi : i < p) (h : ρ[i]? = some r) : (q_pt ρ p vs)[i]? = some r := by
  unfold q_pt
  rw [List.getElem?_append_left (by rw [List.length_take]; omega), List.getElem?_take, if_pos hi]
  exact h
theorem q_pt_new (hp : p ≤ ρ.length) {vs : List Int} {z : Int} : (q_pt ρ p (z :: vs))[p + vs.length]? = some z := by
  unfold q_pt
  have l1 : (ρ.take p).length = p := by rw [List.length_take]; omega
  rw [List.getElem?_append_right (by omega), l1, List.reverse_cons, List.getElem?_append_right (by simp)]
  simp
theorem q_pt_ext {vs : List Int} {z : Int} : qe (q_pt ρ p vs) (q_pt ρ p (z :: vs)) := ⟨[z], by unfold q_pt; rw [List.reverse_cons, List.append_assoc]⟩
theorem qM_push {n : Nat} {sg : List qV} {q : Int × Int} {r : List (Int × Int)} {vs : List Int} {x : qV} {z : Int} (hM : qM_ ρ p G n sg (q :: r) vs) (hx : q_val ρ x = some z) (h1 : q.1 ≤ z) (h2 : z ≤ q.2) : qM_ ρ p G (Nat.succ n) (x :: sg) r (z :: vs) := by
  obtain ⟨m1, m2, m3, m4, m5⟩ := hM
  have hG : G[n]? = some q := by
    have : (G.drop n)[0]? = some q := by rw [← m3]; rfl
    rw [List.getElem?_drop] at this
    exact this
  refine ⟨by rw [List.length_cons]; omega, by rw [List.length_cons, List.length_cons, m2], ?_, fun i y hy => ?_, fun i y hy => ?_⟩
  · have : (G.drop n).drop 1 = r := by rw [← m3]; rfl
    rw [List.drop_drop] at this
    exact this.symm
  · cases i with
    | zero => cases hy; exact ⟨z, rfl, hx⟩
    | succ i => exact m4 i y hy
  · rw [List.reverse_cons] at hy
    by_cases hi : i < vs.reverse.length
    · rw [List.getElem?_append_left hi] at hy
      exact m5 i y hy
    · have hl := (List.getElem?_eq_some_iff.mp hy).1
      simp at hl hi
      have e : i = vs.length := by omega
      subst e
      rw [List.getElem?_append_right (by simp)] at hy
      simp at hy
      subst hy
      exact ⟨q, by rw [← m1]; exact hG, h1, h2⟩
/-- where a step of a match leads -/
def qM_st (ρ : List Int) (p : Nat) (G : List (Int × Int)) (vs : List Int) (P : List Int → Prop) (k : qK) (no : qR) (o : List qO) : Prop := (∃ n' sg' gs' vs', qM_ ρ p G n' sg' gs' vs' ∧ qe (q_pt ρ p vs) (q_pt ρ p vs') ∧ P (q_pt ρ p vs') ∧ k n' sg' gs' = some o) ∨ no = some o
theorem qM_st.same {n : Nat} {sg : List qV} {gs : List (Int × Int)} {vs : List Int} {P : List Int → Prop} {k : qK} {no : qR} (hM : qM_ ρ p G n sg gs vs) (hP : P (q_pt ρ p vs)) (h : k n sg gs = some o) : qM_st ρ p G vs P k no o := Or.inl ⟨n, sg, gs, vs, hM, qe.rf, hP, h⟩
theorem q_tx_ok {b r lo hi : Int} (h1 : lo ≤ r) (h2 : r ≤ hi) : b * r ≤ q_tx b lo hi := by
  unfold q_tx
  cases hb : q_le 0 b with
  | true =>
    show b * r ≤ b * hi
    exact Int.mul_le_mul_of_nonneg_left h2 (q_le_iff.mp hb)
  | false =>
    have := q_le_no hb
    show b * r ≤ b * lo
    exact Int.mul_le_mul_of_nonpos_left (by omega) h1
theorem q_r1_ok (hg : qy_g ρ g) {a b rs rj m d lo hi z : Int} {j : Nat} {kk : Int → Int → qR} (hj : ρ[j]? = some rj) (hf : m ≤ a * rs + b * rj) (hz : z = rs + d) (h1 : lo ≤ z) (h2 : z ≤ hi) (h : q_r1 g a b j m d lo hi kk = some o) : ∃ lo' hi', lo' ≤ z ∧ z ≤ hi' ∧ kk lo' hi' = some o := by
  obtain ⟨u, h4, h5⟩ := q_at_ok h
  obtain ⟨r', h6, h7, h8⟩ := hg.2.1 j u h4
  rw [hj] at h6
  cases h6
  have hx := q_tx_ok (b := b) h7 h8
  rcases q_if h5 with ⟨hb, h9⟩ | ⟨hb, h9⟩
  · have e := q_eq_iff.mp hb
    subst e
    rw [zx_i_eq, q_mxi_eq] at h9
    refine ⟨_, _, ?_, h2, h9⟩
    show max lo (m - q_tx b u.1 u.2 + d) ≤ z
    omega
  · rcases q_if h9 with ⟨hb, h9⟩ | ⟨hb, h9⟩
    · have e : a = -1 := q_eq_iff.mp hb
      subst e
      rw [zx_i_eq, q_mni_eq] at h9
      refine ⟨_, _, h1, ?_, h9⟩
      show z ≤ min hi (q_tx b u.1 u.2 - m + d)
      omega
    · exact ⟨lo, hi, h1, h2, h9⟩
theorem q_rd_ok (hg : qy_g ρ g) {v : qV} {z lo hi : Int} {kk : Int → Int → qR} (hv : q_val ρ v = some z) (h1 : lo ≤ z) (h2 : z ≤ hi) (h : q_rd g v lo hi kk = some o) : ∃ lo' hi', lo' ≤ z ∧ z ≤ hi' ∧ kk lo' hi' = some o := by
  match v, hv, h with
  | .inl _, _, h => exact ⟨lo, hi, h1, h2, h⟩
  | .inr (.inr _), _, h => exact ⟨lo, hi, h1, h2, h⟩
  | .inr (.inl (s, c, d)), hv, h =>
    rcases q_if h with ⟨hb, h3⟩ | ⟨hb, h3⟩
    · have e := q_eq_iff.mp hb
      subst e
      have hv : (ρ[s]?).map (fun r => 1 * r + d) = some z := hv
      cases hs : ρ[s]? with
      | none => rw [hs] at hv; cases hv
      | some rs =>
        rw [hs] at hv
        have hz : 1 * rs + d = z := Option.some.inj hv
        have key : ∀ {D : List qF} {lo hi : Int}, (∀ f ∈ D, ∃ r1 r2, ρ[f.2.1]? = some r1 ∧ ρ[f.2.2.2.1]? = some r2 ∧ f.2.2.2.2 ≤ f.1 * r1 + f.2.2.1 * r2) → lo ≤ z → z ≤ hi → (List.rec (motive := fun _ => Int → Int → qR) (fun lo hi => kk lo hi) (fun f _ ih lo hi => cond (Nat.beq f.2.1 s) (q_r1 g f.1 f.2.2.1 f.2.2.2.1 f.2.2.2.2 d lo hi ih) (cond (Nat.beq f.2.2.2.1 s) (q_r1 g f.2.2.1 f.1 f.2.1 f.2.2.2.2 d lo hi ih) (ih lo hi))) D lo hi : qR) = some o → ∃ lo' hi', lo' ≤ z ∧ z ≤ hi' ∧ kk lo' hi' = some o := by
          intro D
          induction D with
          | nil => intro lo hi _ a b hh; exact ⟨lo, hi, a, b, hh⟩
          | cons f D ih =>
            intro lo hi hD a b hh
            have hD2 : ∀ f ∈ D, ∃ r1 r2, ρ[f.2.1]? = some r1 ∧ ρ[f.2.2.2.1]? = some r2 ∧ f.2.2.2.2 ≤ f.1 * r1 + f.2.2.1 * r2 := fun f hf => hD f (List.mem_cons_of_mem _ hf)
            obtain ⟨r1, r2, f1, f2, f3⟩ := hD f List.mem_cons_self
            rcases q_if hh with ⟨hb, h4⟩ | ⟨hb, h4⟩
            · have e := Nat.eq_of_beq_eq_true hb
              rw [e, hs] at f1
              cases f1
              obtain ⟨l', h', c1, c2, c3⟩ := q_r1_ok hg (z := z) f2 f3 (by omega) a b h4
              exact ih hD2 c1 c2 c3
            · rcases q_if h4 with ⟨hb, h4⟩ | ⟨hb, h4⟩
              · have e := Nat.eq_of_beq_eq_true hb
                rw [e, hs] at f2
                cases f2
                obtain ⟨l', h', c1, c2, c3⟩ := q_r1_ok hg (z := z) f1 (by rw [Int.add_comm]; exact f3) (by omega) a b h4
                exact ih hD2 c1 c2 c3
              · exact ih hD2 a b h4
        exact key hg.2.2 h1 h2 h3
    · exact ⟨lo, hi, h1, h2, h3⟩
theorem q_mv_ok (hex : ∀ j, ex j = .null ∨ ∃ a, ex j = .ref a) (hp : p ≤ ρ.length) (hg : qy_g ρ g) {pat act : qV} {n : Nat} {sg : List qV} {gs : List (Int × Int)} {vs : List Int} {k : qK} {no : qR} (hM : qM_ ρ p G n sg gs vs) (h : q_mv p g pat act n sg gs k no = some o) :
    qM_st ρ p G vs (fun r => ∀ v, qy_v ρ ex as act v → qy_v r ex as pat v) k no o := by
  match pat, h with
  | .inl z, h =>
    -- a literal
    have h : (q_nm g act fun a => (match a with
      | .inl y => cond (q_eq z y) (k n sg gs) no
      | _ => no)) = some o := h
    have lit : ∀ {a : qV}, (∀ v, qy_v ρ ex as act v → qy_v ρ ex as a v) → (match a with
      | .inl y => cond (q_eq z y) (k n sg gs) no
      | _ => no) = some o → qM_st ρ p G vs (fun r => ∀ v, qy_v ρ ex as act v → qy_v r ex as (.inl z) v) k no o := by
      intro a ha h
      match a, ha, h with
      | .inl y, ha, h =>
        rcases q_if h with ⟨hb, h1⟩ | ⟨hb, h1⟩
        · have e := q_eq_iff.mp hb
          subst e
          exact .same hM (fun v hv => ha v hv) h1
        · exact Or.inr h1
      | .inr _, ha, h => exact Or.inr h
    match act, h with
    | .inl y, h => exact lit (fun v hv => hv) h
    | .inr (.inl (s, c, d)), h =>
      obtain ⟨q, h4, h5⟩ := q_at_ok h
      obtain ⟨r', h6, h7, h8⟩ := hg.2.1 s q h4
      rcases q_if h5 with ⟨hb, h9⟩ | ⟨hb, h9⟩
      · rw [zx_i_eq] at h9
        have he := q_eq_iff.mp hb
        refine lit (a := .inl (c * q.1 + d)) (fun v hv => ?_) h9
        obtain ⟨x, r, e1, e2, e3⟩ := hv
        have e2 : ρ[s]? = some r := e2
        rw [h6] at e2
        cases e2
        have e3 : x.toInt = c * r' + d := e3
        refine ⟨x, e1, ?_⟩
        rw [e3, show r' = q.1 by omega]
      · exact lit (a := .inr (.inl (s, c, d))) (fun v hv => hv) h9
    | .inr (.inr _), h => exact Or.inr h
  | .inr (.inl (i, c, d)), h =>
    rcases q_if h with ⟨hb, h1⟩ | ⟨hb, h1⟩
    · have hi : i < p := Nat.le_of_ble_eq_true hb
      rcases q_if h1 with ⟨hb2, h2⟩ | ⟨hb2, h2⟩
      · have e := q_ve_eq hb2
        subst e
        refine .same hM (fun v hv => ?_) h2
        obtain ⟨x, r, e1, e2, e3⟩ := hv
        exact ⟨x, r, e1, q_pt_lt hp hi e2, e3⟩
      · exact Or.inr h2
    · rcases q_if h1 with ⟨hb2, h2⟩ | ⟨hb2, h2⟩
      · obtain ⟨b1, b2⟩ := Bool.and_eq_true_iff.mp hb2
        obtain ⟨b2, b3⟩ := Bool.and_eq_true_iff.mp b2
        obtain ⟨b3, b4⟩ := Bool.and_eq_true_iff.mp b3
        have hin : i = n := Nat.eq_of_beq_eq_true b2
        have b3 := q_eq_iff.mp b3
        have b4 := q_eq_iff.mp b4
        subst b3
        subst b4
        cases gs with
        | nil => exact Or.inr h2
        | cons q r =>
          -- the symbol's value
          have hval : ∃ z, q_val ρ act = some z ∧ (∀ v, qy_v ρ ex as act v → ∃ x : Int32, v = .int x ∧ x.toInt = z) ∧ ∀ {kk : Int → Int → qR}, q_rg g act kk = some o → ∃ lo hi, lo ≤ z ∧ z ≤ hi ∧ kk lo hi = some o := by
            match act, b1, h2 with
            | .inl y, _, _ => exact ⟨y, rfl, fun v hv => hv, fun hh => ⟨y, y, Int.le_refl _, Int.le_refl _, hh⟩⟩
            | .inr (.inl (s, c, d)), _, h2 =>
              obtain ⟨u, h4, -⟩ := q_at_ok h2
              obtain ⟨r', h6, h7, h8⟩ := hg.2.1 s u h4
              refine ⟨c * r' + d, by show (ρ[s]?).map _ = _; rw [h6]; rfl, fun v hv => ?_, fun {kk} hh => ?_⟩
              · obtain ⟨x, r2, e1, e2, e3⟩ := hv
                have e2 : ρ[s]? = some r2 := e2
                rw [h6] at e2
                cases e2
                exact ⟨x, e1, e3⟩
              · obtain ⟨u', g4, g5⟩ := q_at_ok hh
                rw [h4] at g4
                cases g4
                rcases q_if g5 with ⟨hc, h9⟩ | ⟨hc, h9⟩
                · rw [zx_i_eq, zx_i_eq] at h9
                  have hc := q_le_iff.mp hc
                  have m1 := Int.mul_le_mul_of_nonneg_left h7 hc
                  have m2 := Int.mul_le_mul_of_nonneg_left h8 hc
                  exact ⟨c * u.1 + d, c * u.2 + d, by omega, by omega, h9⟩
                · rw [zx_i_eq, zx_i_eq] at h9
                  have hc := q_le_no hc
                  have m1 := Int.mul_le_mul_of_nonpos_left (a := c) (by omega) h7
                  have m2 := Int.mul_le_mul_of_nonpos_left (a := c) (by omega) h8
                  exact ⟨c * u.2 + d, c * u.1 + d, by omega, by omega, h9⟩
          obtain ⟨z, z1, z2, z3⟩ := hval
          have push : q.1 ≤ z → z ≤ q.2 → zx_n (Nat.succ n) (fun m => k m (act :: sg) r) = some o → qM_st ρ p G vs (fun r => ∀ v, qy_v ρ ex as act v → qy_v r ex as (.inr (.inl (i, 1, 0))) v) k no o := by
            intro l1 l2 hh
            rw [zx_n_eq] at hh
            refine Or.inl ⟨_, _, _, z :: vs, qM_push hM z1 l1 l2, q_pt_ext, fun v hv => ?_, hh⟩
            obtain ⟨x, e1, e2⟩ := z2 v hv
            refine ⟨x, z, e1, ?_, by show _ = 1 * z + 0; omega⟩
            show (q_pt ρ p (z :: vs))[i]? = some z
            rw [hin, hM.1]
            exact q_pt_new hp
          obtain ⟨lo, hi, l1, l2, h3⟩ := z3 h2
          rcases q_if h3 with ⟨hb5, h4⟩ | ⟨hb5, h4⟩
          · obtain ⟨c1, c2⟩ := Bool.and_eq_true_iff.mp hb5
            have c1 := q_le_iff.mp c1
            have c2 := q_le_iff.mp c2
            exact push (by omega) (by omega) h4
          · obtain ⟨lo', hi', l1', l2', h5⟩ := q_rd_ok hg z1 l1 l2 h4
            rcases q_if h5 with ⟨hb6, h6⟩ | ⟨hb6, h6⟩
            · obtain ⟨c1, c2⟩ := Bool.and_eq_true_iff.mp hb6
              have c1 := q_le_iff.mp c1
              have c2 := q_le_iff.mp c2
              exact push (by omega) (by omega) h6
            · exact Or.inr h6
      · exact Or.inr h2
  | .inr (.inr (.inl none)), h =>
    match act, h with
    | .inr (.inr (.inl none)), h => exact .same hM (fun v hv => hv) h
    | .inr (.inr (.inl (some _))), h => exact Or.inr h
    | .inl _, h => exact Or.inr h
    | .inr (.inl _), h => exact Or.inr h
    | .inr (.inr (.inr _)), h => exact Or.inr h
  | .inr (.inr (.inl (some a))), h =>
    match act, h with
    | .inr (.inr (.inl (some b))), h =>
      rcases q_if h with ⟨hb, h1⟩ | ⟨hb, h1⟩
      · have e := Nat.eq_of_beq_eq_true hb
        subst e
        exact .same hM (fun v hv => hv) h1
      · exact Or.inr h1
    | .inr (.inr (.inl none)), h => exact Or.inr h
    | .inl _, h => exact Or.inr h
    | .inr (.inl _), h => exact Or.inr h
    | .inr (.inr (.inr _)), h => exact Or.inr h
  | .inr (.inr (.inr (.inl a))), h =>
    match act, h with
    | .inr (.inr (.inr (.inl b))), h =>
      rcases q_if h with ⟨hb, h1⟩ | ⟨hb, h1⟩
      · have e := Nat.eq_of_beq_eq_true hb
        subst e
        exact .same hM (fun v hv => hv) h1
      · exact Or.inr h1
    | .inl _, h => exact Or.inr h
    | .inr (.inl _), h => exact Or.inr h
    | .inr (.inr (.inl _)), h => exact Or.inr h
    | .inr (.inr (.inr (.inr _))), h => exact Or.inr h
  | .inr (.inr (.inr (.inr (.inl x)))), h =>
    match act, h with
    | .inr (.inr (.inr (.inr (.inl y)))), h =>
      rcases q_if h with ⟨hb, h1⟩ | ⟨hb, h1⟩
      · have e := q_eq_iff.mp hb
        subst e
        exact .same hM (fun v hv => hv) h1
      · exact Or.inr h1
    | .inl _, h => exact Or.inr h
    | .inr (.inl _), h => exact Or.inr h
    | .inr (.inr (.inl _)), h => exact Or.inr h
    | .inr (.inr (.inr (.inl _))), h => exact Or.inr h
    | .inr (.inr (.inr (.inr (.inr _)))), h => exact Or.inr h
  | .inr (.inr (.inr (.inr (.inr (.inl i))))), h =>
    rcases q_if h with ⟨hb, h1⟩ | ⟨hb, h1⟩
    · have hi : i < p := Nat.le_of_ble_eq_true hb
      match act, h1 with
      | .inr (.inr (.inr (.inr (.inr (.inl j))))), h1 =>
        rcases q_if h1 with ⟨hb2, h2⟩ | ⟨hb2, h2⟩
        · have e := Nat.eq_of_beq_eq_true hb2
          subst e
          refine .same hM (fun v hv => ?_) h2
          obtain ⟨x, r, e1, e2, e3⟩ := hv
          exact ⟨x, r, e1, q_pt_lt hp hi e2, e3⟩
        · exact Or.inr h2
      | .inl _, h => exact Or.inr h
      | .inr (.inl _), h => exact Or.inr h
      | .inr (.inr (.inl _)), h => exact Or.inr h
      | .inr (.inr (.inr (.inl _))), h => exact Or.inr h
      | .inr (.inr (.inr (.inr (.inl _)))), h => exact Or.inr h
      | .inr (.inr (.inr (.inr (.inr (.inr _))))), h => exact Or.inr h
    · rcases q_if h1 with ⟨hb2, h2⟩ | ⟨hb2, h2⟩
      · have b2 : i = n := Nat.eq_of_beq_eq_true hb2
        cases gs with
        | nil => exact Or.inr h2
        | cons q r =>
          have push : ∀ (z : Int), q_val ρ act = some z → (∀ v, qy_v ρ ex as act v → ∃ x : Int64, v = .long x ∧ x.toInt = z) → q.1 ≤ z → z ≤ q.2 → zx_n (Nat.succ n) (fun m => k m (act :: sg) r) = some o → qM_st ρ p G vs (fun r => ∀ v, qy_v ρ ex as act v → qy_v r ex as (.inr (.inr (.inr (.inr (.inr (.inl i)))))) v) k no o := by
            intro z z1 z2 l1 l2 hh
            rw [zx_n_eq] at hh
            refine Or.inl ⟨_, _, _, z :: vs, qM_push hM z1 l1 l2, q_pt_ext, fun v hv => ?_, hh⟩
            obtain ⟨x, e1, e2⟩ := z2 v hv
            refine ⟨x, z, e1, ?_, e2⟩
            rw [b2, hM.1]
            exact q_pt_new hp
          match act, push, h2 with
          | .inr (.inr (.inr (.inr (.inl y)))), push, h2 =>
            rcases q_if h2 with ⟨hb5, h4⟩ | ⟨hb5, h4⟩
            · obtain ⟨c1, c2⟩ := Bool.and_eq_true_iff.mp hb5
              exact push y rfl (fun v hv => hv) (q_le_iff.mp c1) (q_le_iff.mp c2) h4
            · exact Or.inr h4
          | .inr (.inr (.inr (.inr (.inr (.inl j))))), push, h2 =>
            obtain ⟨u, h4, h5⟩ := q_at_ok h2
            obtain ⟨r', h6, h7, h8⟩ := hg.2.1 j u h4
            rcases q_if h5 with ⟨hb5, h4⟩ | ⟨hb5, h4⟩
            · obtain ⟨c1, c2⟩ := Bool.and_eq_true_iff.mp hb5
              have c1 := q_le_iff.mp c1
              have c2 := q_le_iff.mp c2
              refine push r' h6 (fun v hv => ?_) (by omega) (by omega) h4
              obtain ⟨x, r2, e1, e2, e3⟩ := hv
              rw [h6] at e2
              cases e2
              exact ⟨x, e1, e3⟩
            · exact Or.inr h4
          | .inl _, _, h => exact Or.inr h
          | .inr (.inl _), _, h => exact Or.inr h
          | .inr (.inr (.inl _)), _, h => exact Or.inr h
          | .inr (.inr (.inr (.inl _))), _, h => exact Or.inr h
          | .inr (.inr (.inr (.inr (.inr (.inr _))))), _, h => exact Or.inr h
      · exact Or.inr h2
  | .inr (.inr (.inr (.inr (.inr (.inr (.inl _)))))), h =>
    have int : ∀ (a : qV), a = act → cond (q_isI a) (k n sg gs) no = some o → qM_st ρ p G vs (fun r => ∀ v, qy_v ρ ex as act v → qy_v r ex as (.inr (.inr (.inr (.inr (.inr (.inr (.inl ()))))))) v) k no o := by
      intro a e hh
      subst e
      rcases q_if hh with ⟨hb, h1⟩ | ⟨hb, h1⟩
      · exact .same hM (fun v hv => qy_isI hb hv) h1
      · exact Or.inr h1
    match act, int, h with
    | .inr (.inr (.inr (.inr (.inr (.inr (.inl _)))))), _, h => exact .same hM (fun v hv => hv) h
    | .inl _, int, h => exact int _ rfl h
    | .inr (.inl _), int, h => exact int _ rfl h
    | .inr (.inr (.inl _)), int, h => exact int _ rfl h
    | .inr (.inr (.inr (.inl _))), int, h => exact int _ rfl h
    | .inr (.inr (.inr (.inr (.inl _)))), int, h => exact int _ rfl h
    | .inr (.inr (.inr (.inr (.inr (.inl _))))), int, h => exact int _ rfl h
    | .inr (.inr (.inr (.inr (.inr (.inr (.inr _)))))), int, h => exact int _ rfl h
  | .inr (.inr (.inr (.inr (.inr (.inr (.inr _)))))), h =>
    rcases q_if h with ⟨hb, h1⟩ | ⟨hb, h1⟩
    · exact .same hM (fun v hv => qy_isA hex hb hv) h1
    · exact Or.inr h1
theorem q_ml_ok (hex : ∀ j, ex j = .null ∨ ∃ a, ex j = .ref a) (hp : p ≤ ρ.length) (hg : qy_g ρ g) {no : qR} : ∀ {ps as' : List qV} {n : Nat} {sg : List qV} {gs : List (Int × Int)} {vs : List Int} {k : qK}, qM_ ρ p G n sg gs vs → q_ml p g no ps as' n sg gs k = some o →
    qM_st ρ p G vs (fun r => as'.length = ps.length ∧ (∀ t, qy_s ρ ex as as' t → qy_s r ex as ps t) ∧ ∀ (j : Nat) (x a : qV), ps[j]? = some x → as'[j]? = some a → ∀ v, qy_v ρ ex as a v → qy_v r ex as x v) k no o
  | [], [], n, sg, gs, vs, k, hM, h => by
    refine .same hM ⟨rfl, fun t ht => ?_, fun j x a hx => ?_⟩ h
    · cases t with
      | nil => trivial
      | cons _ _ => cases ht
    · simp at hx
  | [], _ :: _, n, sg, gs, vs, k, hM, h => Or.inr h
  | _ :: _, [], n, sg, gs, vs, k, hM, h => Or.inr h
  | x :: ps, a :: as', n, sg, gs, vs, k, hM, h => by
    have h : q_mv p g x a n sg gs (fun n sg gs => q_ml p g no ps as' n sg gs k) no = some o := h
    rcases q_mv_ok hex hp hg hM h with ⟨n', sg', gs', vs', m1, m2, m3, m4⟩ | h1
    · rcases q_ml_ok hex hp hg m1 m4 with ⟨n2, sg2, gs2, vs2, k1, k2, ⟨k3, k4, k5⟩, k6⟩ | h1
      · refine Or.inl ⟨n2, sg2, gs2, vs2, k1, m2.tr k2, ⟨by simp [k3], fun t ht => ?_, fun j y b hy hb v hv => ?_⟩, k6⟩
        · cases t with
          | nil => cases ht
          | cons v t => exact ⟨(m3 v ht.1).mono k2, k4 t ht.2⟩
        · cases j with
          | zero => cases hy; cases hb; exact (m3 v hv).mono k2
          | succ j => exact k5 j y b hy hb v hv
      · exact Or.inr h1
    · exact Or.inr h1
theorem q_isN_ok {α : Type} {l : List α} (h : q_isN l = true) : l = [] := by
  cases l with
  | nil => rfl
  | cons _ _ => cases h
theorem q_tl_ok {t P : Nat} {sg : qS} (hP : P = q_pd sg) (ht : t < 3) : ∀ {vs : List qV} {i : Nat}, q_tl t P sg vs i = true → i = i % P ∨ vs = [] → ∀ (j : Nat) (a : qV), vs[j]? = some a → ∃ z, a = .inl z ∧ q_fa z z ((i + j) % P) ((i + j) % P) sg 0 = true
  | [], i, _, _, j, a, ha => by simp at ha
  | .inr v :: vs, i, h, hi, j, a, ha => by
    have hb : Nat.beq t 3 = false := by
      cases hz : Nat.beq t 3 with
      | false => rfl
      | true => exact absurd (Nat.eq_of_beq_eq_true hz) (by omega)
    have h : cond (Nat.beq t 3) (cond (q_isL (.inr v)) (q_tl t P sg vs i) false) false = true := h
    rw [hb] at h
    cases h
  | .inl z :: vs, i, h, hi, j, a, ha => by
    have hb : Nat.beq t 3 = false := by
      cases hz : Nat.beq t 3 with
      | false => rfl
      | true => exact absurd (Nat.eq_of_beq_eq_true hz) (by omega)
    have hi : i = i % P := by
      rcases hi with z | z
      · exact z
      · cases z
    have h : cond (Nat.beq t 3) (cond (q_isL (.inl z)) (q_tl t P sg vs i) false) (cond (q_fa z z i i sg 0) (zx_n (Nat.mod (Nat.succ i) P) fun i => q_tl t P sg vs i) false) = true := h
    rw [hb] at h
    have h2 : cond (q_fa z z i i sg 0) (zx_n (Nat.mod (Nat.succ i) P) fun i => q_tl t P sg vs i) false = true := h
    cases hf : q_fa z z i i sg 0 with
    | false => rw [hf] at h2; cases h2
    | true =>
      rw [hf] at h2
      have h3 : zx_n (Nat.mod (Nat.succ i) P) (fun i => q_tl t P sg vs i) = true := h2
      rw [zx_n_eq] at h3
      cases j with
      | zero => cases ha; exact ⟨z, rfl, by rw [Nat.add_zero, ← hi]; exact hf⟩
      | succ j =>
        have h4 : q_tl t P sg vs ((i + 1) % P) = true := h3
        obtain ⟨z', e1, e2⟩ := q_tl_ok hP ht h4 (Or.inl (by rw [Nat.mod_mod])) j a ha
        refine ⟨z', e1, ?_⟩
        rw [Nat.mod_add_mod, show i + 1 + j = i + (j + 1) by omega] at e2
        exact e2
/-- cells -/
theorem q_mk_one (hex : ∀ j, ex j = .null ∨ ∃ a, ex j = .ref a) (hp : p ≤ ρ.length) (hg : qy_g ρ g) {no : qR} {u b : qV × qV} {n : Nat} {sg : List qV} {gs : List (Int × Int)} {vs : List Int} {k : qK} (hM : qM_ ρ p G n sg gs vs) (h : q_mv p g u.1 b.1 n sg gs (fun n sg gs => q_mv p g u.2 b.2 n sg gs k no) no = some o) :
    qM_st ρ p G vs (fun r => (∀ v, qy_v ρ ex as b.1 v → qy_v r ex as u.1 v) ∧ ∀ v, qy_v ρ ex as b.2 v → qy_v r ex as u.2 v) k no o := by
  rcases q_mv_ok hex hp hg hM h with ⟨n', sg', gs', vs', m1, m2, m3, m4⟩ | h1
  · rcases q_mv_ok hex hp hg m1 m4 with ⟨n2, sg2, gs2, vs2, k1, k2, k3, k4⟩ | h1
    · exact Or.inl ⟨n2, sg2, gs2, vs2, k1, m2.tr k2, ⟨fun v hv => (m3 v hv).mono k2, k3⟩, k4⟩
    · exact Or.inr h1
  · exact Or.inr h1
theorem q_mk_ok (hex : ∀ j, ex j = .null ∨ ∃ a, ex j = .ref a) (hp : p ≤ ρ.length) (hg : qy_g ρ g) {no : qR} : ∀ {ps as' : List (qV × qV)} {n : Nat} {sg : List qV} {gs : List (Int × Int)} {vs : List Int} {k : qK}, qM_ ρ p G n sg gs vs → q_mk p g no ps as' n sg gs k = some o →
    qM_st ρ p G vs (fun r => (∀ u l b m, ps = u :: l → as' = b :: m → (∀ v, qy_v ρ ex as b.1 v → qy_v r ex as u.1 v) ∧ ∀ v, qy_v ρ ex as b.2 v → qy_v r ex as u.2 v) ∧ ∀ u ∈ ps, ∃ b ∈ as', (∀ v, qy_v ρ ex as b.1 v → qy_v r ex as u.1 v) ∧ ∀ v, qy_v ρ ex as b.2 v → qy_v r ex as u.2 v) k no o
  | [], as', n, sg, gs, vs, k, hM, h => .same hM ⟨fun u l b m e => (by cases e), fun u hu => (by cases hu)⟩ h
  | x :: ps, [], n, sg, gs, vs, k, hM, h => Or.inr h
  | x :: ps, a :: as', n, sg, gs, vs, k, hM, h => by
    have h : q_mv p g x.1 a.1 n sg gs (fun n sg gs => q_mv p g x.2 a.2 n sg gs (fun n sg gs => q_mk p g no ps as' n sg gs k) no) no = some o := h
    rcases q_mk_one hex hp hg hM h with ⟨n', sg', gs', vs', m1, m2, ⟨m3, m5⟩, m4⟩ | h1
    · rcases q_mk_ok hex hp hg m1 m4 with ⟨n2, sg2, gs2, vs2, k1, k2, ⟨-, k3⟩, k6⟩ | h1
      · refine Or.inl ⟨n2, sg2, gs2, vs2, k1, m2.tr k2, ⟨fun u l b m e1 e2 => ?_, fun u hu => ?_⟩, k6⟩
        · cases e1
          cases e2
          exact ⟨fun v hv => (m3 v hv).mono k2, fun v hv => (m5 v hv).mono k2⟩
        · rcases List.mem_cons.mp hu with rfl | hu
          · exact ⟨a, List.mem_cons_self, fun v hv => (m3 v hv).mono k2, fun v hv => (m5 v hv).mono k2⟩
          · obtain ⟨b, b1, b2⟩ := k3 u hu
            exact ⟨b, List.mem_cons_of_mem _ b1, b2⟩
      · exact Or.inr h1
    · exact Or.inr h1
theorem q_mkk_ok (hex : ∀ j, ex j = .null ∨ ∃ a, ex j = .ref a) (hp : p ≤ ρ.length) (hg : qy_g ρ g) {no : qR} {kn : List (qV × qV)} : ∀ {ps : List qV} {j n : Nat} {sg : List qV} {gs : List (Int × Int)} {vs : List Int} {k : qK}, qM_ ρ p G n sg gs vs → q_mkk p g no kn ps j n sg gs k = some o →
    qM_st ρ p G vs (fun r => ∀ (i : Nat) (x : qV), ps[i]? = some x → ∃ u ∈ kn, q_ve (.inl (Int.ofNat (j + i))) u.1 = true ∧ ∀ v, qy_v ρ ex as u.2 v → qy_v r ex as x v) k no o
  | [], j, n, sg, gs, vs, k, hM, h => .same hM (fun i x hx => by simp at hx) h
  | x :: ps, j, n, sg, gs, vs, k, hM, h => by
    have h : q_kn (.inl (Int.ofNat j)) kn (fun v => q_mv p g x v n sg gs (fun n sg gs => zx_n (Nat.succ j) fun j => q_mkk p g no kn ps j n sg gs k) no) no = some o := h
    rcases q_kn_ok h with ⟨u, u1, u2, u3⟩ | h1
    · rcases q_mv_ok (as := as) hex hp hg hM u3 with ⟨n', sg', gs', vs', m1, m2, m3, m4⟩ | h1
      · have m4 : zx_n j.succ (fun j => q_mkk p g no kn ps j n' sg' gs' k) = some o := m4
        rw [zx_n_eq] at m4
        rcases q_mkk_ok hex hp hg m1 m4 with ⟨n2, sg2, gs2, vs2, k1, k2, k3, k6⟩ | h1
        · refine Or.inl ⟨n2, sg2, gs2, vs2, k1, m2.tr k2, fun i y hy => ?_, k6⟩
          cases i with
          | zero => cases hy; exact ⟨u, u1, u2, fun v hv => (m3 v hv).mono k2⟩
          | succ i =>
            obtain ⟨z, z1, z2, z3⟩ := k3 i y hy
            exact ⟨z, z1, by rw [show j + (i + 1) = j.succ + i by omega]; exact z2, z3⟩
        · exact Or.inr h1
      · exact Or.inr h1
    · exact Or.inr h1
theorem q_mc_ok (hex : ∀ j, ex j = .null ∨ ∃ a, ex j = .ref a) (hp : p ≤ ρ.length) (hg : qy_g ρ g) {no : qR} {x a : qE} {n : Nat} {sg : List qV} {gs : List (Int × Int)} {vs : List Int} {k : qK} (hM : qM_ ρ p G n sg gs vs) (h : q_mc p g no x a n sg gs k = some o) :
    qM_st ρ p G vs (fun r => ∀ e, qy_e ρ ex fc tys as a e → qy_e r ex fc tys as x e) k no o := by
  match x, a, h with
  | .inl (t, ps), .inl (t2, us), h =>
    rcases q_if h with ⟨hb, h1⟩ | ⟨hb, h1⟩
    · have e : t = t2 := Nat.eq_of_beq_eq_true hb
      subst e
      rcases q_ml_ok hex hp hg hM h1 with ⟨n2, sg2, gs2, vs2, k1, k2, ⟨k3, k4, k5⟩, k6⟩ | h1
      · refine Or.inl ⟨n2, sg2, gs2, vs2, k1, k2, fun e he => ?_, k6⟩
        match e, he with
        | .inl (cA, nn, .inl f), ⟨e1, e2, e3, e4⟩ =>
          refine ⟨e1, e2, by rw [e3]; exact k3, fun j y hy => ?_⟩
          have hj : j < us.length := by
            have hj := (List.getElem?_eq_some_iff.mp hy).1
            have k3 : us.length = ps.length := k3
            omega
          exact k5 j y _ hy (List.getElem?_eq_getElem hj) _ (e4 j _ (List.getElem?_eq_getElem hj))
      · exact Or.inr h1
    · exact Or.inr h1
  | .inl (t, ps), .inr (.inr (.inr (t2, N2, κ2, kn2, ov2))), h =>
    rcases q_if h with ⟨hb, h1⟩ | ⟨hb, h1⟩
    · obtain ⟨b1, b2⟩ := Bool.and_eq_true_iff.mp hb
      obtain ⟨b2, b3⟩ := Bool.and_eq_true_iff.mp b2
      have d1 : t = t2 := Nat.eq_of_beq_eq_true b1
      have d2 : zx_len ps = N2 := Nat.eq_of_beq_eq_true b2
      rw [zx_len_eq] at d2
      have d3 : ov2 = [] := q_isN_ok b3
      subst d1
      subst d2
      subst d3
      rcases q_mkk_ok (ex := ex) (as := as) hex hp hg hM h1 with ⟨n2, sg2, gs2, vs2, m1, m2, m3, m4⟩ | h2
      · refine Or.inl ⟨n2, sg2, gs2, vs2, m1, m2, fun e he => ?_, m4⟩
        match e, he with
        | .inl (cA, nn, .inl f), ⟨a1, a2, a3, a4, a5⟩ =>
          refine ⟨a1, a2, a3, fun j y hy => ?_⟩
          have hj := (List.getElem?_eq_some_iff.mp hy).1
          obtain ⟨u, u1, u2, u3⟩ := m3 j y hy
          obtain ⟨x, x1, x2, x3, x4⟩ := a4 u u1
          obtain ⟨x0, e1, e2⟩ : qy_v ρ ex as (.inl (Int.ofNat (0 + j))) (.int x) := by rw [q_ve_eq u2]; exact x1
          cases e1
          have e3 : x.toInt.toNat = j := by rw [e2]; simp
          rw [e3] at x4
          rw [a5 j hj]
          exact u3 _ x4
      · exact Or.inr h2
    · exact Or.inr h1
  | .inr (.inl (t, ps)), .inr (.inl (t2, us)), h =>
    rcases q_if h with ⟨hb, h1⟩ | ⟨hb, h1⟩
    · have e : t = t2 := Nat.eq_of_beq_eq_true hb
      subst e
      rcases q_ml_ok hex hp hg hM h1 with ⟨n2, sg2, gs2, vs2, k1, k2, ⟨k3, k4, k5⟩, k6⟩ | h1
      · refine Or.inl ⟨n2, sg2, gs2, vs2, k1, k2, fun e he => ?_, k6⟩
        match e, he with
        | .inr (c', fs), ⟨e1, e2⟩ => exact ⟨e1, k4 _ e2⟩
      · exact Or.inr h1
    · exact Or.inr h1
  | .inr (.inr (.inl (t, N, s1, kn))), .inr (.inr (.inl (t2, N2, s2, kn2))), h0 =>
    rcases q_if h0 with ⟨hb, h1⟩ | ⟨hb, h1⟩
    · obtain ⟨b1, b2⟩ := Bool.and_eq_true_iff.mp hb
      obtain ⟨b2, b3⟩ := Bool.and_eq_true_iff.mp b2
      have d1 : t = t2 := Nat.eq_of_beq_eq_true b1
      have d2 : N = N2 := Nat.eq_of_beq_eq_true b2
      have d3 : s1 = s2 := q_se_ok b3
      subst d1
      subst d2
      subst d3
      rcases q_mk_ok (ex := ex) (as := as) hex hp hg hM h1 with ⟨n2, sg2, gs2, vs2, m1, m2, m3, m4⟩ | h2
      · refine Or.inl ⟨n2, sg2, gs2, vs2, m1, m2, fun e he => ?_, m4⟩
        match e, he with
        | .inl (cA, nn, .inl f), ⟨e1, e2, e3, e4, e5⟩ =>
          refine ⟨e1, e2, e3, e4, fun u hu => ?_⟩
          obtain ⟨b, b1, b2, b3⟩ := m3.2 u hu
          obtain ⟨x, x1, x2, x3, x4⟩ := e5 b b1
          exact ⟨x, b2 _ x1, x2, x3, b3 _ x4⟩
        | .inl (cA, nn, .inr (.inl f)), ⟨e1, e2, e3, e4⟩ =>
          refine ⟨e1, e2, e3, ?_⟩
          match kn, m3 with
          | [], _ => rfl
          | u :: l, m3 =>
            obtain ⟨b, b1, -⟩ := m3.2 u List.mem_cons_self
            rw [e4] at b1
            cases b1
      · exact Or.inr h2
    · exact Or.inr h1
  | .inr (.inr (.inl (t, N, s1, kn))), .inl (t2, us), h0 =>
    rcases q_if h0 with ⟨hb, h1⟩ | ⟨hb, h1⟩
    · obtain ⟨hb0, hb⟩ := Bool.and_eq_true_iff.mp hb
      have hkn : kn = [] := q_isN_ok hb0
      subst hkn
      obtain ⟨b1, b2⟩ := Bool.and_eq_true_iff.mp hb
      obtain ⟨b2, b3⟩ := Bool.and_eq_true_iff.mp b2
      have d1 : t = t2 := Nat.eq_of_beq_eq_true b1
      have d2 : N = zx_len us := Nat.eq_of_beq_eq_true b2
      rw [zx_len_eq] at d2
      subst d1
      subst d2
      refine .same hM (fun e he => ?_) h1
      match e, he with
      | .inl (cA, nn, .inl f), ⟨e1, e2, e3, e4⟩ =>
        refine ⟨e1, e2, e3, fun j hj => ?_, fun u hu => by cases hu⟩
        obtain ⟨z, z1, z2⟩ := q_tl_ok rfl e1 b3 (Or.inl (Nat.zero_mod _).symm) j _ (List.getElem?_eq_getElem hj)
        obtain ⟨x, x1, x2⟩ := (z1 ▸ e4 j _ (List.getElem?_eq_getElem hj) : qy_v ρ ex as (.inl z) (.int (f j)))
        cases x1
        rw [Nat.zero_add] at z2
        unfold qy_i
        rw [x2]
        exact z2
    · exact Or.inr h1
  | .inr (.inr (.inl _)), .inr (.inl _), h0 => exact Or.inr h0
  | .inr (.inr (.inl _)), .inr (.inr (.inr _)), h0 => exact Or.inr h0
  | .inr (.inr (.inr (t, N, κ, kn, ov))), .inr (.inr (.inr (t2, N2, κ2, kn2, ov2))), h =>
    rcases q_if h with ⟨hb, h1⟩ | ⟨hb, h1⟩
    · obtain ⟨b1, b2⟩ := Bool.and_eq_true_iff.mp hb
      obtain ⟨b2, b3⟩ := Bool.and_eq_true_iff.mp b2
      have d1 : t = t2 := Nat.eq_of_beq_eq_true b1
      have d2 : N = N2 := Nat.eq_of_beq_eq_true b2
      have d3 : κ = κ2 := Nat.eq_of_beq_eq_true b3
      subst d1
      subst d2
      subst d3
      rcases q_mk_ok (ex := ex) (as := as) hex hp hg hM h1 with ⟨n2, sg2, gs2, vs2, m1, m2, m3, m4⟩ | h2
      · rcases q_if m4 with ⟨c1, c2⟩ | ⟨c1, c2⟩
        · have e1 : ov = [] := q_isN_ok c1
          subst e1
          rcases q_if c2 with ⟨c3, c4⟩ | ⟨c3, c4⟩
          · have e2 : ov2 = [] := q_isN_ok c3
            subst e2
            refine Or.inl ⟨n2, sg2, gs2, vs2, m1, m2, fun e he => ?_, c4⟩
            match e, he with
            | .inl (cA, nn, .inl f), ⟨a1, a2, a3, a4, a5⟩ =>
              refine ⟨a1, a2, a3, fun u hu => ?_, a5⟩
              obtain ⟨b, b1, b2, b3⟩ := m3.2 u hu
              obtain ⟨x, x1, x2, x3, x4⟩ := a4 b b1
              exact ⟨x, b2 _ x1, x2, x3, b3 _ x4⟩
          · exact Or.inr c4
        · match ov, c1, c2 with
          | u0 :: or, c1, c2 =>
            match ov2, c2 with
            | [], c2 => exact Or.inr c2
            | b0 :: br, c2 =>
              rcases q_mk_ok (ex := ex) (as := as) hex hp hg m1 (show q_mk p g no (u0 :: or) (b0 :: br) n2 sg2 gs2 k = some o from c2) with ⟨n3, sg3, gs3, vs3, l1, l2, l3, l4⟩ | h2
              · refine Or.inl ⟨n3, sg3, gs3, vs3, l1, m2.tr l2, fun e he => ?_, l4⟩
                match e, he with
                | .inl (cA, nn, .inl f), ⟨a1, a2, a3, a4, x, y, a5, a6, a7, a8, a9⟩ =>
                  refine ⟨a1, a2, a3, fun u hu => ?_, ?_⟩
                  · obtain ⟨b, b1, b2, b3⟩ := m3.2 u hu
                    obtain ⟨x, x1, x2, x3, x4⟩ := a4 b b1
                    exact ⟨x, (b2 _ x1).mono l2, x2, x3, (b3 _ x4).mono l2⟩
                  · obtain ⟨b2, b3⟩ := l3.1 u0 or b0 br rfl rfl
                    exact ⟨x, y, b2 _ a5, a6, a7, b3 _ a8, a9⟩
              · exact Or.inr h2
      · exact Or.inr h2
    · exact Or.inr h1
  | .inl _, .inr (.inl _), h => exact Or.inr h
  | .inl _, .inr (.inr (.inl _)), h => exact Or.inr h
  | .inr (.inl _), .inl _, h => exact Or.inr h
  | .inr (.inl _), .inr (.inr _), h => exact Or.inr h
  | .inr (.inr (.inr _)), .inl _, h => exact Or.inr h
  | .inr (.inr (.inr _)), .inr (.inl _), h => exact Or.inr h
  | .inr (.inr (.inr _)), .inr (.inr (.inl _)), h => exact Or.inr h
theorem q_mw_ok (hex : ∀ j, ex j = .null ∨ ∃ a, ex j = .ref a) (hp : p ≤ ρ.length) (hg : qy_g ρ g) {no : qR} : ∀ {xs w : List qE} {n : Nat} {sg : List qV} {gs : List (Int × Int)} {vs : List Int} {k : qK}, qM_ ρ p G n sg gs vs → q_mw p g no xs w n sg gs k = some o →
    qM_st ρ p G vs (fun r => w.length = xs.length ∧ ∀ (j : Nat) (x a : qE), xs[j]? = some x → w[j]? = some a → ∀ e, qy_e ρ ex fc tys as a e → qy_e r ex fc tys as x e) k no o
  | [], [], n, sg, gs, vs, k, hM, h => by
    refine .same hM ⟨rfl, fun j x a hx => ?_⟩ h
    simp at hx
  | [], _ :: _, n, sg, gs, vs, k, hM, h => Or.inr h
  | _ :: _, [], n, sg, gs, vs, k, hM, h => Or.inr h
  | x :: xs, a :: w, n, sg, gs, vs, k, hM, h => by
    have h : q_mc p g no x a n sg gs (fun n sg gs => q_mw p g no xs w n sg gs k) = some o := h
    rcases q_mc_ok (fc := fc) (tys := tys) hex hp hg hM h with ⟨n', sg', gs', vs', m1, m2, m3, m4⟩ | h1
    · rcases q_mw_ok hex hp hg m1 m4 with ⟨n2, sg2, gs2, vs2, k1, k2, ⟨k3, k4⟩, k6⟩ | h1
      · refine Or.inl ⟨n2, sg2, gs2, vs2, k1, m2.tr k2, ⟨by simp [k3], fun j y b hy hb e he => ?_⟩, k6⟩
        cases j with
        | zero => cases hy; cases hb; exact (m3 e he).mono k2
        | succ j => exact k4 j y b hy hb e he
      · exact Or.inr h1
    · exact Or.inr h1
theorem q_gt_ok {k : qV → qR} {no : qR} {i : Nat} : ∀ {l : qL}, q_gt l i k no = some o → (∃ v, (i, v) ∈ l ∧ k v = some o) ∨ no = some o
  | [], h => Or.inr h
  | q :: r, h => by
    rcases q_if (show cond (Nat.beq q.1 i) (k q.2) (q_gt r i k no) = some o from h) with ⟨hb, h1⟩ | ⟨hb, h1⟩
    · exact Or.inl ⟨q.2, by rw [← Nat.eq_of_beq_eq_true hb]; exact List.mem_cons_self, h1⟩
    · rcases q_gt_ok (l := r) h1 with ⟨v, h2, h3⟩ | h2
      · exact Or.inl ⟨v, List.mem_cons_of_mem _ h2, h3⟩
      · exact Or.inr h2
theorem q_mlo_ok (hex : ∀ j, ex j = .null ∨ ∃ a, ex j = .ref a) (hp : p ≤ ρ.length) (hg : qy_g ρ g) {no : qR} {lo : qL} : ∀ {ps : qL} {n : Nat} {sg : List qV} {gs : List (Int × Int)} {vs : List Int} {k : qK}, qM_ ρ p G n sg gs vs → q_mlo p g no lo ps n sg gs k = some o →
    qM_st ρ p G vs (fun r => ∀ q ∈ ps, ∃ a, (q.1, a) ∈ lo ∧ ∀ v, qy_v ρ ex as a v → qy_v r ex as q.2 v) k no o
  | [], n, sg, gs, vs, k, hM, h => .same hM (fun q hq => by cases hq) h
  | x :: ps, n, sg, gs, vs, k, hM, h => by
    have h : q_gt lo x.1 (fun a => q_mv p g x.2 a n sg gs (fun n sg gs => q_mlo p g no lo ps n sg gs k) no) no = some o := h
    rcases q_gt_ok h with ⟨a, a1, a2⟩ | h1
    · rcases q_mv_ok hex hp hg hM a2 with ⟨n', sg', gs', vs', m1, m2, m3, m4⟩ | h1
      · rcases q_mlo_ok hex hp hg m1 m4 with ⟨n2, sg2, gs2, vs2, k1, k2, k3, k6⟩ | h1
        · refine Or.inl ⟨n2, sg2, gs2, vs2, k1, m2.tr k2, fun q hq => ?_, k6⟩
          rcases List.mem_cons.mp hq with rfl | hq
          · exact ⟨a, a1, fun v hv => (m3 v hv).mono k2⟩
          · exact k3 q hq
        · exact Or.inr h1
      · exact Or.inr h1
    · exact Or.inr h1
end QX
