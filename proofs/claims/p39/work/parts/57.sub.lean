/-! a contract's end, told in the caller's symbols -/
section QS1
variable {ρ vals fr : List Int} {ex : Nat → Value} {fc : Nat → Nat → Int32} {as : List Nat} {tys : List (ClassId × FieldType)} {o : List qO} {p n : Nat} {sg : List qV}
theorem q_ap_lt {a b : List Int} {i : Nat} (h : i < a.length) : (a ++ b)[i]? = a[i]? := List.getElem?_append_left h
theorem q_ap_ge {a b : List Int} {i : Nat} (h : a.length ≤ i) : (a ++ b)[i]? = b[i - a.length]? := List.getElem?_append_right h
/-- a symbol of the contract's, in the caller's words -/
theorem q_sv_ok (hF : qM_fin ρ sg vals) (hp : p = vals.length) (hn : n = ρ.length) {a : qV} {k : qV → qR} (h : q_sv sg p n a k = some o) : ∃ b, k b = some o ∧ ∀ v, qy_v (vals ++ fr) ex as a v → qy_v (ρ ++ fr) ex as b v := by
  subst hp
  subst hn
  match a, h with
  | .inl _, h => exact ⟨_, h, fun v hv => hv⟩
  | .inr (.inr (.inl none)), h => exact ⟨_, h, fun v hv => hv⟩
  | .inr (.inr (.inl (some _))), h => exact ⟨_, h, fun v hv => hv⟩
  | .inr (.inr (.inr (.inl _))), h => exact ⟨_, h, fun v hv => hv⟩
  | .inr (.inr (.inr (.inr (.inl _)))), h => exact ⟨_, h, fun v hv => hv⟩
  | .inr (.inr (.inr (.inr (.inr (.inr (.inl _)))))), h => exact ⟨_, h, fun v hv => hv⟩
  | .inr (.inr (.inr (.inr (.inr (.inr (.inr _)))))), h => exact ⟨_, h, fun v hv => hv⟩
  | .inr (.inl (i, c, d)), h =>
    rcases q_if h with ⟨hb, h1⟩ | ⟨hb, h1⟩
    · have hi : i < vals.length := Nat.le_of_ble_eq_true hb
      obtain ⟨t, t1, t2⟩ := q_at_ok h1
      obtain ⟨z, z1, z2⟩ := hF.2 i t t1
      have key : ∀ v, qy_v (vals ++ fr) ex as (.inr (.inl (i, c, d))) v → ∃ x : Int32, v = .int x ∧ x.toInt = c * z + d := by
        intro v hv
        obtain ⟨x, r, e1, e2, e3⟩ := hv
        have e2 : (vals ++ fr)[i]? = some r := e2
        rw [q_ap_lt hi, z1] at e2
        cases e2
        exact ⟨x, e1, e3⟩
      match t, t2, z2 with
      | .inl y, t2, z2 =>
        have t2 : zx_i (Int.add (Int.mul c y) d) (fun z => k (.inl z)) = some o := t2
        rw [zx_i_eq] at t2
        have e : y = z := Option.some.inj z2
        subst e
        exact ⟨_, t2, key⟩
      | .inr (.inl (s, c2, d2)), t2, z2 =>
        have t2 : zx_i (Int.mul c c2) (fun c3 => zx_i (Int.add (Int.mul c d2) d) fun d3 => k (.inr (.inl (s, c3, d3)))) = some o := t2
        rw [zx_i_eq, zx_i_eq] at t2
        have z2 : (ρ[s]?).map (fun r => c2 * r + d2) = some z := z2
        cases hs : ρ[s]? with
        | none => rw [hs] at z2; cases z2
        | some r =>
          rw [hs] at z2
          have e : c2 * r + d2 = z := Option.some.inj z2
          refine ⟨_, t2, fun v hv => ?_⟩
          obtain ⟨x, e1, e2⟩ := key v hv
          refine ⟨x, r, e1, ?_, ?_⟩
          · show (ρ ++ fr)[s]? = some r
            rw [q_ap_lt (List.getElem?_eq_some_iff.mp hs).1]
            exact hs
          · show x.toInt = c * c2 * r + (c * d2 + d)
            rw [e2, ← e, Int.mul_add, Int.mul_assoc]
            omega
    · have hi : ¬ i < vals.length := fun hz => by rw [Nat.ble_eq_true_of_le hz] at hb; cases hb
      rw [zx_n_eq] at h1
      refine ⟨_, h1, fun v hv => ?_⟩
      obtain ⟨x, r, e1, e2, e3⟩ := hv
      have e2 : (vals ++ fr)[i]? = some r := e2
      rw [q_ap_ge (by omega)] at e2
      refine ⟨x, r, e1, ?_, e3⟩
      show (ρ ++ fr)[ρ.length + (i - vals.length)]? = some r
      rw [q_ap_ge (by omega), show ρ.length + (i - vals.length) - ρ.length = i - vals.length by omega]
      exact e2
  | .inr (.inr (.inr (.inr (.inr (.inl i))))), h =>
    rcases q_if h with ⟨hb, h1⟩ | ⟨hb, h1⟩
    · have hi : i < vals.length := Nat.le_of_ble_eq_true hb
      obtain ⟨t, t1, t2⟩ := q_at_ok h1
      obtain ⟨z, z1, z2⟩ := hF.2 i t t1
      obtain ⟨t3, t4⟩ := q_cond t2
      have key : ∀ v, qy_v (vals ++ fr) ex as (.inr (.inr (.inr (.inr (.inr (.inl i)))))) v → ∃ x : Int64, v = .long x ∧ x.toInt = z := by
        intro v hv
        obtain ⟨x, r, e1, e2, e3⟩ := hv
        rw [q_ap_lt hi, z1] at e2
        cases e2
        exact ⟨x, e1, e3⟩
      match t, t3, t4, z2 with
      | .inr (.inr (.inr (.inr (.inl y)))), _, t4, z2 =>
        have e : y = z := Option.some.inj z2
        subst e
        exact ⟨_, t4, key⟩
      | .inr (.inr (.inr (.inr (.inr (.inl s))))), _, t4, z2 =>
        have z2 : ρ[s]? = some z := z2
        refine ⟨_, t4, fun v hv => ?_⟩
        obtain ⟨x, e1, e2⟩ := key v hv
        refine ⟨x, z, e1, ?_, e2⟩
        rw [q_ap_lt (List.getElem?_eq_some_iff.mp z2).1]
        exact z2
    · have hi : ¬ i < vals.length := fun hz => by rw [Nat.ble_eq_true_of_le hz] at hb; cases hb
      rw [zx_n_eq] at h1
      refine ⟨_, h1, fun v hv => ?_⟩
      obtain ⟨x, r, e1, e2, e3⟩ := hv
      rw [q_ap_ge (by omega)] at e2
      refine ⟨x, r, e1, ?_, e3⟩
      show (ρ ++ fr)[ρ.length + (i - vals.length)]? = some r
      rw [q_ap_ge (by omega), show ρ.length + (i - vals.length) - ρ.length = i - vals.length by omega]
      exact e2
theorem q_svl_ok (hF : qM_fin ρ sg vals) (hp : p = vals.length) (hn : n = ρ.length) : ∀ {l : List qV} {k : List qV → qR}, q_svl sg p n l k = some o → ∃ m, k m = some o ∧ m.length = l.length ∧ (∀ t, qy_s (vals ++ fr) ex as l t → qy_s (ρ ++ fr) ex as m t) ∧ ∀ (j : Nat) (b : qV), m[j]? = some b → ∃ a, l[j]? = some a ∧ ∀ v, qy_v (vals ++ fr) ex as a v → qy_v (ρ ++ fr) ex as b v
  | [], k, h => by
    refine ⟨[], h, rfl, fun t ht => ?_, fun j b hb => ?_⟩
    · cases t with
      | nil => trivial
      | cons _ _ => cases ht
    · simp at hb
  | x :: l, k, h => by
    have h : q_sv sg p n x (fun y => q_svl sg p n l fun r => k (y :: r)) = some o := h
    obtain ⟨y, h1, h2⟩ := q_sv_ok (fr := fr) (ex := ex) (as := as) hF hp hn h
    obtain ⟨m, m1, m2, m3, m4⟩ := q_svl_ok hF hp hn (l := l) h1
    refine ⟨y :: m, m1, by simp [m2], fun t ht => ?_, fun j b hb => ?_⟩
    · cases t with
      | nil => cases ht
      | cons v t => exact ⟨h2 v ht.1, m3 t ht.2⟩
    · cases j with
      | zero => cases hb; exact ⟨x, rfl, h2⟩
      | succ j => exact m4 j b hb
theorem q_svw_ok (hF : qM_fin ρ sg vals) (hp : p = vals.length) (hn : n = ρ.length) : ∀ {l : List qE} {k : List qE → qR}, q_svw sg p n l k = some o → ∃ m, k m = some o ∧ m.length = l.length ∧ ∀ (j : Nat) (b : qE), m[j]? = some b → ∃ a, l[j]? = some a ∧ ∀ e, qy_e (vals ++ fr) ex fc tys as a e → qy_e (ρ ++ fr) ex fc tys as b e
  | [], k, h => by
    refine ⟨[], h, rfl, fun j b hb => ?_⟩
    simp at hb
  | x :: l, k, h => by
    have cons : ∀ (y : qE), (∀ e, qy_e (vals ++ fr) ex fc tys as x e → qy_e (ρ ++ fr) ex fc tys as y e) → (q_svw sg p n l fun r => k (y :: r)) = some o → ∃ m, k m = some o ∧ m.length = (x :: l).length ∧ ∀ (j : Nat) (b : qE), m[j]? = some b → ∃ a, (x :: l)[j]? = some a ∧ ∀ e, qy_e (vals ++ fr) ex fc tys as a e → qy_e (ρ ++ fr) ex fc tys as b e := by
      intro y hy hh
      obtain ⟨m, m1, m2, m4⟩ := q_svw_ok hF hp hn (l := l) hh
      refine ⟨y :: m, m1, by simp [m2], fun j b hb => ?_⟩
      cases j with
      | zero => cases hb; exact ⟨x, rfl, hy⟩
      | succ j => exact m4 j b hb
    match x, h, cons with
    | .inl (t, us), h, cons =>
      have h : q_svl sg p n us (fun vs => q_svw sg p n l fun r => k (.inl (t, vs) :: r)) = some o := h
      obtain ⟨m, m1, m2, m3, m4⟩ := q_svl_ok (fr := fr) (ex := ex) (as := as) hF hp hn h
      refine cons (.inl (t, m)) (fun e he => ?_) m1
      match e, he with
      | .inl (cA, nn, .inl f), ⟨e1, e2, e3, e4⟩ =>
        refine ⟨e1, e2, by rw [m2]; exact e3, fun j b hb => ?_⟩
        obtain ⟨a, a1, a2⟩ := m4 j b hb
        exact a2 _ (e4 j a a1)
    | .inr (.inl (t, us)), h, cons =>
      have h : q_svl sg p n us (fun vs => q_svw sg p n l fun r => k (.inr (.inl (t, vs)) :: r)) = some o := h
      obtain ⟨m, m1, m2, m3, m4⟩ := q_svl_ok (fr := fr) (ex := ex) (as := as) hF hp hn h
      refine cons (.inr (.inl (t, m))) (fun e he => ?_) m1
      match e, he with
      | .inr (c', fs), ⟨e1, e2⟩ => exact ⟨e1, m3 _ e2⟩
    | .inr (.inr (.inl (t, N, s1, kn))), h, cons =>
      obtain ⟨hb, h⟩ := q_cond h
      have hkn : kn = [] := q_isN_ok hb
      subst hkn
      refine cons _ (fun e he => ?_) h
      match e, he with
      | .inl (cA, nn, .inl f), ⟨e1, e2, e3, e4, e5⟩ => exact ⟨e1, e2, e3, e4, fun u hu => (by cases hu)⟩
      | .inl (cA, nn, .inr (.inl f)), he => exact he
    | .inr (.inr (.inr (t, N, κ, kn, ov))), h, cons =>
      obtain ⟨hb, h⟩ := q_cond h
      obtain ⟨hb1, hb2⟩ := Bool.and_eq_true_iff.mp hb
      have hkn : kn = [] := q_isN_ok hb1
      have hov : ov = [] := q_isN_ok hb2
      subst hkn
      subst hov
      refine cons _ (fun e he => ?_) h
      match e, he with
      | .inl (cA, nn, .inl f), ⟨e1, e2, e3, e4, e5⟩ => exact ⟨e1, e2, e3, fun u hu => (by cases hu), e5⟩
theorem q_svv_ok (hF : qM_fin ρ sg vals) (hp : p = vals.length) (hn : n = ρ.length) {i : Nat} {r : Int} {k : qV → qR} (hr : (vals ++ fr)[i]? = some r) (h : q_sv sg p n (.inr (.inl (i, 1, 0))) k = some o) : ∃ b, k b = some o ∧ q_val (ρ ++ fr) b = some r := by
  subst hp
  subst hn
  rcases q_if h with ⟨hb, h1⟩ | ⟨hb, h1⟩
  · have hi : i < vals.length := Nat.le_of_ble_eq_true hb
    obtain ⟨t, t1, t2⟩ := q_at_ok h1
    obtain ⟨z, z1, z2⟩ := hF.2 i t t1
    rw [q_ap_lt hi, z1] at hr
    have hzr : z = r := Option.some.inj hr
    rw [← hzr]
    match t, t2, z2 with
    | .inl y, t2, z2 =>
      have t2 : zx_i (Int.add (Int.mul 1 y) 0) (fun z => k (.inl z)) = some o := t2
      rw [zx_i_eq] at t2
      have e : y = z := Option.some.inj z2
      refine ⟨.inl (1 * y + 0), t2, ?_⟩
      show some (1 * y + 0) = some z
      rw [Int.one_mul, Int.add_zero, e]
    | .inr (.inl (s, c2, d2)), t2, z2 =>
      have t2 : zx_i (Int.mul 1 c2) (fun c3 => zx_i (Int.add (Int.mul 1 d2) 0) fun d3 => k (.inr (.inl (s, c3, d3)))) = some o := t2
      rw [zx_i_eq, zx_i_eq] at t2
      have z2 : (ρ[s]?).map (fun r => c2 * r + d2) = some z := z2
      cases hs : ρ[s]? with
      | none => rw [hs] at z2; cases z2
      | some r0 =>
        rw [hs] at z2
        have e : c2 * r0 + d2 = z := Option.some.inj z2
        refine ⟨_, t2, ?_⟩
        show ((ρ ++ fr)[s]?).map (fun r => 1 * c2 * r + (1 * d2 + 0)) = some z
        rw [q_ap_lt (List.getElem?_eq_some_iff.mp hs).1, hs]
        show some (1 * c2 * r0 + (1 * d2 + 0)) = some z
        rw [Int.one_mul, Int.one_mul, Int.add_zero, e]
  · have hi : ¬ i < vals.length := fun hz => by rw [Nat.ble_eq_true_of_le hz] at hb; cases hb
    rw [zx_n_eq] at h1
    refine ⟨_, h1, ?_⟩
    show ((ρ ++ fr)[ρ.length + (i - vals.length)]?).map (fun r => 1 * r + 0) = some r
    rw [q_ap_ge (by omega)] at hr
    rw [q_ap_ge (by omega), show ρ.length + (i - vals.length) - ρ.length = i - vals.length by omega, hr]
    show some (1 * r + 0) = some r
    rw [Int.one_mul, Int.add_zero]
theorem q_svf_ok (hF : qM_fin ρ sg vals) (hp : p = vals.length) (hn : n = ρ.length) : ∀ {l acc : List qF} {k : List qF → qR}, q_svf sg p n l acc k = some o → (∀ f ∈ l, ∃ r1 r2, (vals ++ fr)[f.2.1]? = some r1 ∧ (vals ++ fr)[f.2.2.2.1]? = some r2 ∧ f.2.2.2.2 ≤ f.1 * r1 + f.2.2.1 * r2) → (∀ f ∈ acc, ∃ r1 r2, (ρ ++ fr)[f.2.1]? = some r1 ∧ (ρ ++ fr)[f.2.2.2.1]? = some r2 ∧ f.2.2.2.2 ≤ f.1 * r1 + f.2.2.1 * r2) → ∃ D, k D = some o ∧ ∀ f ∈ D, ∃ r1 r2, (ρ ++ fr)[f.2.1]? = some r1 ∧ (ρ ++ fr)[f.2.2.2.1]? = some r2 ∧ f.2.2.2.2 ≤ f.1 * r1 + f.2.2.1 * r2
  | [], acc, k, h, _, hacc => ⟨acc, h, hacc⟩
  | f :: l, acc, k, h, hl, hacc => by
    have hl2 : ∀ f ∈ l, ∃ r1 r2, (vals ++ fr)[f.2.1]? = some r1 ∧ (vals ++ fr)[f.2.2.2.1]? = some r2 ∧ f.2.2.2.2 ≤ f.1 * r1 + f.2.2.1 * r2 := fun f hf => hl f (List.mem_cons_of_mem _ hf)
    have skip : q_svf sg p n l acc k = some o → ∃ D, k D = some o ∧ ∀ f ∈ D, ∃ r1 r2, (ρ ++ fr)[f.2.1]? = some r1 ∧ (ρ ++ fr)[f.2.2.2.1]? = some r2 ∧ f.2.2.2.2 ≤ f.1 * r1 + f.2.2.1 * r2 := fun hh => q_svf_ok hF hp hn hh hl2 hacc
    obtain ⟨r1, r2, w1, w2, w3⟩ := hl f List.mem_cons_self
    rcases q_if h with ⟨hb, h1⟩ | ⟨hb, h1⟩
    · exact skip h1
    · obtain ⟨x, h2, v1⟩ := q_svv_ok hF hp hn w1 h1
      obtain ⟨y, h3, v2⟩ := q_svv_ok hF hp hn w2 h2
      match x, y, v1, v2, h3 with
      | .inr (.inl (s, c, d)), .inr (.inl (s2, c2, d2)), v1, v2, h3 =>
        rcases q_if h3 with ⟨hb2, h4⟩ | ⟨hb2, h4⟩
        · obtain ⟨b1, b2⟩ := Bool.and_eq_true_iff.mp hb2
          have b1 := q_eq_iff.mp b1
          have b2 := q_eq_iff.mp b2
          subst b1
          subst b2
          rw [zx_i_eq] at h4
          refine q_svf_ok hF hp hn h4 hl2 (fun u hu => ?_)
          rcases List.mem_cons.mp hu with rfl | hu
          · have v1 : ((ρ ++ fr)[s]?).map (fun r => 1 * r + d) = some r1 := v1
            have v2 : ((ρ ++ fr)[s2]?).map (fun r => 1 * r + d2) = some r2 := v2
            cases hs : (ρ ++ fr)[s]? with
            | none => rw [hs] at v1; cases v1
            | some t1 =>
              cases hs2 : (ρ ++ fr)[s2]? with
              | none => rw [hs2] at v2; cases v2
              | some t2 =>
                rw [hs] at v1
                rw [hs2] at v2
                have e1 : 1 * t1 + d = r1 := Option.some.inj v1
                have e2 : 1 * t2 + d2 = r2 := Option.some.inj v2
                refine ⟨t1, t2, rfl, rfl, ?_⟩
                show f.2.2.2.2 - f.1 * d - f.2.2.1 * d2 ≤ f.1 * t1 + f.2.2.1 * t2
                rw [← e1, ← e2, Int.one_mul, Int.one_mul, Int.mul_add, Int.mul_add] at w3
                omega
          · exact hacc u hu
        · exact skip h4
      | .inl _, _, _, _, h3 => exact skip h3
      | .inr (.inr _), _, _, _, h3 => exact skip h3
      | .inr (.inl _), .inl _, _, _, h3 => exact skip h3
      | .inr (.inl _), .inr (.inr _), _, _, h3 => exact skip h3
theorem q_cat_eq {α : Type} : ∀ (l m : List α) (k : List α → qR), q_cat l m k = k (l ++ m)
  | [], m, k => rfl
  | x :: l, m, k => q_cat_eq l m fun r => k (x :: r)
/-- an end of the contract's, told in the caller's symbols -/
theorem q_out_ok {g : qG} (hF : qM_fin ρ sg vals) (hp : p = vals.length) (hn : n = ρ.length) (hg : qy_g ρ g) {c : qG × List qE × Option qV} {k : qG → List qE → Option qV → qR} (h : q_out sg p n g c k = some o) (hc : qy_g (vals ++ fr) c.1) : ∃ g' w' rv', k g' w' rv' = some o ∧ qy_g (ρ ++ fr) g' ∧ (∀ ws, qy_w (vals ++ fr) ex fc tys as c.2.1 ws → qy_w (ρ ++ fr) ex fc tys as w' ws) ∧ ((c.2.2 = none ∧ rv' = none) ∨ ∃ a b, c.2.2 = some a ∧ rv' = some b ∧ ∀ v, qy_v (vals ++ fr) ex as a v → qy_v (ρ ++ fr) ex as b v) := by
  unfold q_out at h
  rw [q_cat_eq, q_dr_eq] at h
  obtain ⟨D, h, hD⟩ := q_svf_ok hF hp hn h hc.2.2 (fun f hf => by
    obtain ⟨r1, r2, a1, a2, a3⟩ := hg.2.2 f hf
    have hq : qe ρ (ρ ++ fr) := ⟨fr, rfl⟩
    exact ⟨r1, r2, hq.at a1, hq.at a2, a3⟩)
  obtain ⟨m, h, hm1, hm2⟩ := q_svw_ok (fr := fr) (ex := ex) (fc := fc) (tys := tys) (as := as) hF hp hn h
  have hG : qy_g (ρ ++ fr) (g.1 ++ c.1.1.drop p, D) := by
    refine ⟨?_, fun i q hq => ?_, hD⟩
    · have h1 := hc.1
      rw [List.length_append] at h1
      rw [List.length_append, List.length_append, List.length_drop, hg.1]
      omega
    · have hq : (g.1 ++ c.1.1.drop p)[i]? = some q := hq
      by_cases hi : i < g.1.length
      · rw [List.getElem?_append_left hi] at hq
        obtain ⟨r, r1, r2⟩ := hg.2.1 i q hq
        have hq' : qe ρ (ρ ++ fr) := ⟨fr, rfl⟩
        exact ⟨r, hq'.at r1, r2⟩
      · rw [List.getElem?_append_right (by omega), List.getElem?_drop] at hq
        obtain ⟨r, r1, r2⟩ := hc.2.1 _ q hq
        refine ⟨r, ?_, r2⟩
        have e1 := hg.1
        rw [q_ap_ge (by omega)] at r1
        rw [q_ap_ge (by omega)]
        rw [show i - ρ.length = p + (i - g.1.length) - vals.length by omega]
        exact r1
  have hW : ∀ ws, qy_w (vals ++ fr) ex fc tys as c.2.1 ws → qy_w (ρ ++ fr) ex fc tys as m ws := by
    intro ws hw
    refine ⟨by rw [hm1]; exact hw.1, by rw [hm1]; exact hw.2.1, fun j b hb => ?_⟩
    obtain ⟨a, a1, a2⟩ := hm2 j b hb
    obtain ⟨q, x, x1, x2, x3⟩ := hw.2.2 j a a1
    exact ⟨q, x, x1, x2, a2 q x3⟩
  cases hr : c.2.2 with
  | none =>
    rw [hr] at h
    exact ⟨_, m, none, h, hG, hW, Or.inl ⟨rfl, rfl⟩⟩
  | some a =>
    rw [hr] at h
    obtain ⟨b, h, hb⟩ := q_sv_ok (fr := fr) (ex := ex) (as := as) hF hp hn h
    exact ⟨_, m, some b, h, hG, hW, Or.inr ⟨a, b, rfl, rfl, hb⟩⟩
theorem q_outs_ok {g : qG} (hF : qM_fin ρ sg vals) (hp : p = vals.length) (hn : n = ρ.length) (hg : qy_g ρ g) : ∀ {l : List (qG × List qE × Option qV)} {o : List qO}, q_outs sg p n g l = some o → ∀ c ∈ l, qy_g (vals ++ fr) c.1 → ∃ z ∈ o, ∃ rv', z.2.2 = .inl rv' ∧ qy_g (ρ ++ fr) z.1 ∧ (∀ ws, qy_w (vals ++ fr) ex fc tys as c.2.1 ws → qy_w (ρ ++ fr) ex fc tys as z.2.1 ws) ∧ ((c.2.2 = none ∧ rv' = none) ∨ ∃ a b, c.2.2 = some a ∧ rv' = some b ∧ ∀ v, qy_v (vals ++ fr) ex as a v → qy_v (ρ ++ fr) ex as b v)
  | [], o, h, c, hc, _ => by cases hc
  | x :: l, o, h, c, hc, hgc => by
    obtain ⟨l1, m1, p1, p2, p3, p4⟩ := q_app_ok (show q_app (q_out sg p n g x fun g w v => some [(g, w, .inl v)]) (q_outs sg p n g l) = some o from h)
    rcases List.mem_cons.mp hc with rfl | hc
    · obtain ⟨g', w', rv', e1, e2, e3, e4⟩ := q_out_ok (fr := fr) (ex := ex) (fc := fc) (tys := tys) (as := as) hF hp hn hg p1 hgc
      cases e1
      exact ⟨_, p3 _ List.mem_cons_self, rv', rfl, e2, e3, e4⟩
    · obtain ⟨z, z1, z2⟩ := q_outs_ok hF hp hn hg p2 c hc hgc
      exact ⟨z, p4 z z1, z2⟩
end QS1
