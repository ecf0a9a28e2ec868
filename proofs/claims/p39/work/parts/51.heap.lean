/-! fields and arrays -/
section QJ
variable {ex : Nat → Value} {fc : Nat → Nat → Int32} {Γ : qΓ} {D : va_G} {as : List Nat} {tys : List (ClassId × FieldType)} {k pc : Nat}
theorem qy_obj {ρ : List Int} {w : List qE} {ws : va_W} {a ci : Nat} {fs : List qV} {v : Value} (hw : qy_w ρ ex fc tys as w ws) (h : w[a]? = some (.inr (.inl (ci, fs)))) (hv : qy_v ρ ex as (.inr (.inr (.inl (some a)))) v) : ∃ (q : Nat) (gs : List Value), v = .ref q ∧ as[a]? = some q ∧ ws[a]? = some (q, .inr (ci, gs)) ∧ qy_s ρ ex as fs gs := by
  obtain ⟨q, h1, h2⟩ := hv
  obtain ⟨e, b, h3, h4, h5⟩ := hw.2.2 a _ h
  rw [h1] at h3
  cases h3
  match e, h5, h4 with
  | .inr (cj, gs), ⟨e1, e2⟩, h4 => cases e1; exact ⟨q, gs, h2, h1, h4, e2⟩
theorem qy_arr {ρ : List Int} {w : List qE} {ws : va_W} {a : Nat} {c : qE} {v : Value} (hw : qy_w ρ ex fc tys as w ws) (h : w[a]? = some c) (hv : qy_v ρ ex as (.inr (.inr (.inl (some a)))) v) : ∃ (q : Nat) (e : va_E), v = .ref q ∧ as[a]? = some q ∧ ws[a]? = some (q, e) ∧ qy_e ρ ex fc tys as c e := by
  obtain ⟨q, h1, h2⟩ := hv
  obtain ⟨e, b, h3, h4, h5⟩ := hw.2.2 a _ h
  rw [h1] at h3
  cases h3
  exact ⟨q, e, h2, h1, h4, h5⟩
theorem qy_wset {ρ : List Int} {w : List qE} {ws : va_W} {a q : Nat} {e : qE} {f : va_E} (hw : qy_w ρ ex fc tys as w ws) (ha : as[a]? = some q) (he : qy_e ρ ex fc tys as e f) : qy_w ρ ex fc tys as (w.set a e) (ws.set a (q, f)) := by
  obtain ⟨h1, h2, h3⟩ := hw
  refine ⟨by rw [List.length_set]; exact h1, by rw [List.length_set, List.length_set]; exact h2, fun k e' hk => ?_⟩
  rw [List.getElem?_set] at hk
  split at hk
  · rename_i e1
    subst e1
    split at hk
    · rename_i hlt
      cases hk
      refine ⟨f, q, ha, ?_, he⟩
      rw [List.getElem?_set_self (by omega)]
    · cases hk
  · rename_i hne
    obtain ⟨x, b, e1, e2, e3⟩ := h3 k e' hk
    refine ⟨x, b, e1, ?_, e3⟩
    rw [List.getElem?_set_ne hne]
    exact e2
/-- the world stays, the picture of one cell is another one -/
theorem qy_wsame {ρ : List Int} {w : List qE} {ws : va_W} {a q : Nat} {e : qE} {f : va_E} (hw : qy_w ρ ex fc tys as w ws) (ha : as[a]? = some q) (hf : ws[a]? = some (q, f)) (he : qy_e ρ ex fc tys as e f) : qy_w ρ ex fc tys as (w.set a e) ws := by
  obtain ⟨h1, h2, h3⟩ := hw
  refine ⟨by rw [List.length_set]; exact h1, by rw [List.length_set]; exact h2, fun k e' hk => ?_⟩
  rw [List.getElem?_set] at hk
  split at hk
  · rename_i e1
    subst e1
    split at hk
    · cases hk
      exact ⟨f, q, ha, hf, he⟩
    · cases hk
  · exact h3 k e' hk
theorem qh_gf {ci j nx idx : Nat} {C : String} {T : u_T} {N : Nat} (hc : zx_cl[ci]? = some (C, T, N)) (hK0 : zk_cl ci) (hj : j < N) (hlink : Jvm.Cond.fieldLink (zx_name k).cls idx (T j).1 (T j).2.1 (T j).2.2.1 ∈ zx_tb) (hd : decode (zx_bys k) pc = .ok (.getfield idx, 3)) (hn : nx = pc + 3) : qy_Hok ex Γ D as tys k pc (q_gf ci j nx) := by
  intro rec hr fr g w lo st outs hk h _ fc ρ p l e R s m args below meth cd A ws H locs cs sl ls sv Q Cx Dy hl hs hret
  subst hk; subst hn
  match st, sv, hs, h with
  | .inr (.inr (.inl (some a))) :: r, v :: t, ⟨h1, h2⟩, h =>
    obtain ⟨x, h3, h4⟩ := q_at_ok h
    match x, h3, h4 with
    | .inr (.inl (cj, fs)), h3, h4 =>
      obtain ⟨h5, h6⟩ := q_cond h4
      have e : cj = ci := Nat.eq_of_beq_eq_true h5
      subst e
      obtain ⟨u, h7, h8⟩ := q_at_ok h6
      obtain ⟨q, gs, rfl, -, h9, h10⟩ := qy_obj Dy.2.2.2.2.1 h3 h1
      obtain ⟨v', h11, h12⟩ := h10.at j u h7
      exact va_get (own := (zx_name fr.2.1).cls) Cx.1 Cx.2.1 Cx.2.2.2.2.1 (hK0 C T N hc).1 Cx.2.2.2.1 Dy.1 Dy.2.1 a h9 hc j hj (Cx.2.2.2.2.1 _ hlink) (fun _ z => z) h11 hd (hr _ _ _ _ _ _ _ h8 () Cx Dy hl ⟨h12, h2⟩ hret)
theorem q_fit_ok {ρ : List Int} (hex : ∀ j, ex j = .null ∨ ∃ a, ex j = .ref a) {g : qG} {ty : FieldType} {t : Nat} {a : qV} {v : Value} {kk : qR} {o : List qO} (hg : qy_g ρ g) (ht : zx_tk ty t) (hv : qy_v ρ ex as a v) (h : q_fit t g a kk = some o) : narrow ty v = v ∧ fits ty v = true ∧ kk = some o := by
  have sm : ∀ {x : Int32} {n : Int}, n ≤ 127 → 0 ≤ x.toInt → x.toInt ≤ n → ∃ i : Nat, i ≤ n.toNat ∧ x = Int32.ofNat i := by
    intro x n h0 h1 h2
    refine ⟨x.toInt.toNat, by omega, ?_⟩
    apply Int32.toInt_inj.mp
    rw [zy_toInt]
    unfold zx_s zx_bs
    simp only [Int.ofNat_eq_natCast]
    omega
  rcases ht with ⟨rfl, rfl⟩ | ⟨rfl, rfl⟩ | ⟨rfl, ht⟩ | ⟨rfl, rfl⟩ | ⟨rfl, rfl⟩ | ⟨rfl, rfl⟩
  · obtain ⟨h1, h2⟩ := q_cond h
    obtain ⟨x, rfl⟩ := qy_isI h1 hv
    exact ⟨rfl, rfl, h2⟩
  · obtain ⟨x, lo, hi, rfl, h2, h3, h4⟩ := q_rg_ok hg hv (show q_rg g a (fun lo hi => cond (q_le 0 lo && q_le hi 1) kk none) = some o from h)
    obtain ⟨h5, h6⟩ := q_cond h4
    obtain ⟨b1, b2⟩ := Bool.and_eq_true_iff.mp h5
    have b1 := q_le_iff.mp b1
    have b2 := q_le_iff.mp b2
    obtain ⟨i, hi1, rfl⟩ := sm (x := x) (n := 1) (by omega) (by omega) (by omega)
    have hi1 : i ≤ 1 := hi1
    rcases Nat.le_one_iff_eq_zero_or_eq_one.mp hi1 with rfl | rfl <;> exact ⟨by decide, by decide, h6⟩
  · obtain ⟨h1, h2⟩ := q_cond h
    rcases qy_isA hex h1 hv with rfl | ⟨q, rfl⟩ <;> rcases ht with ⟨n, rfl⟩ | ⟨n, rfl⟩ <;> exact ⟨rfl, rfl, h2⟩
  · obtain ⟨h1, h2⟩ := q_cond h
    obtain ⟨x, rfl⟩ := qy_isL h1 hv
    exact ⟨rfl, rfl, h2⟩
  · obtain ⟨x, lo, hi, rfl, h2, h3, h4⟩ := q_rg_ok hg hv (show q_rg g a (fun lo hi => cond (q_le 0 lo && q_le hi 127) kk none) = some o from h)
    obtain ⟨h5, h6⟩ := q_cond h4
    obtain ⟨b1, b2⟩ := Bool.and_eq_true_iff.mp h5
    have b1 := q_le_iff.mp b1
    have b2 := q_le_iff.mp b2
    obtain ⟨i, hi1, rfl⟩ := sm (x := x) (n := 127) (by omega) (by omega) (by omega)
    have hi1 : i ≤ 127 := hi1
    have z := zy_small i (by omega)
    exact ⟨z.1, z.2.2.1, h6⟩
  · obtain ⟨x, lo, hi, rfl, h2, h3, h4⟩ := q_rg_ok hg hv (show q_rg g a (fun lo hi => cond (q_le 0 lo && q_le hi 127) kk none) = some o from h)
    obtain ⟨h5, h6⟩ := q_cond h4
    obtain ⟨b1, b2⟩ := Bool.and_eq_true_iff.mp h5
    have b1 := q_le_iff.mp b1
    have b2 := q_le_iff.mp b2
    obtain ⟨i, hi1, rfl⟩ := sm (x := x) (n := 127) (by omega) (by omega) (by omega)
    have hi1 : i ≤ 127 := hi1
    have z := zy_small i (by omega)
    exact ⟨z.2.1, z.2.2.2, h6⟩
theorem qh_pf {ci j t nx idx : Nat} {C : String} {T : u_T} {N : Nat} {ty : FieldType} (hc : zx_cl[ci]? = some (C, T, N)) (hK0 : zk_cl ci) (hj : j < N) (hlink : Jvm.Cond.fieldLink (zx_name k).cls idx (T j).1 (T j).2.1 (T j).2.2.1 ∈ zx_tb) (hty : parseFieldDescriptor (T j).2.2.1 = some ty) (htk : zx_tk ty t) (hfin : (T j).2.2.2 = false ∨ ((T j).2.2.2 = true ∧ (zx_name k).name = "<init>" ∧ (T j).1 = (zx_name k).cls)) (hd : decode (zx_bys k) pc = .ok (.putfield idx, 3)) (hn : nx = pc + 3) : qy_Hok ex Γ D as tys k pc (q_pf ci j t nx) := by
  intro rec hr fr g w lo st outs hk h _ fc ρ p l e R s m args below meth cd A ws H locs cs sl ls sv Q Cx Dy hl hs hret
  subst hk; subst hn
  match st, sv, hs, h with
  | x :: .inr (.inr (.inl (some a))) :: r, vx :: v :: tt, ⟨h0, h1, h2⟩, h =>
    obtain ⟨hnr, hfi, h⟩ := q_fit_ok Cx.2.2.2.2.2.2.1.1 Dy.2.2.2.2.2 htk h0 h
    obtain ⟨z, h3, h4⟩ := q_at_ok h
    match z, h3, h4 with
    | .inr (.inl (cj, fs)), h3, h4 =>
      obtain ⟨h5, h6⟩ := q_cond h4
      have e : cj = ci := Nat.eq_of_beq_eq_true h5
      subst e
      obtain ⟨h7, h8⟩ := q_set_ok h6
      obtain ⟨-, h8⟩ := q_set_ok h8
      obtain ⟨q, gs, rfl, haq, h9, h10⟩ := qy_obj Dy.2.2.2.2.1 h3 h1
      obtain ⟨k1, k2, ty0, k3, -⟩ := hK0 C T N hc
      have hlen : j < gs.length := by rw [h10.len]; exact h7
      have fin : ∀ (H1 : Heap) (locs1 : List Loc), va_P D zx_cl (ws.set a (q, .inr (cj, gs.set j vx))) H1 → va_D A (ws.set a (q, .inr (cj, gs.set j vx))) → va_S A s.heap H1 locs1 → W p l e R s m args below meth cd H1 locs1 cs sl Q (F0 m (pc + 3) ls tt) := fun H1 locs1 p1 d1 s1 =>
        hr _ _ _ _ _ _ _ h8 () Cx ⟨Dy.1, p1, d1, s1, qy_wset Dy.2.2.2.2.1 haq ⟨rfl, h10.set j h0⟩, Dy.2.2.2.2.2⟩ hl h2 hret
      rcases hfin with hf | ⟨hf, hi, ho⟩
      · exact va_put (own := (zx_name fr.2.1).cls) (ty := ty) Cx.1 Cx.2.1 Cx.2.2.2.2.1 k1 ty0 k3 k2 Cx.2.2.2.1 Dy.1 Dy.2.1 Dy.2.2.1 Dy.2.2.2.1 a h9 hc j hj (Cx.2.2.2.2.1 _ hlink) (fun _ z => z) hf hty hnr hfi hlen hd fin
      · exact va_putF (own := (zx_name fr.2.1).cls) (ty := ty) Cx.1 Cx.2.1 Cx.2.2.2.2.1 k1 ty0 k3 k2 Cx.2.2.2.1 Dy.1 Dy.2.1 Dy.2.2.1 Dy.2.2.2.1 a h9 hc j hj (Cx.2.2.2.2.1 _ hlink) (fun _ z => z) hf (Cx.2.2.2.2.2.2.2.2.2.2.2 hi) ho hty hnr hfi hlen hd fin
theorem qy_str {A : Nat → Prop} {s : State} {H : Heap} (hX : zy_X zx_xa0 q_ρ0 ex A s H) {j : Nat} (hj : j = 2 ∨ j = 3 ∨ j = 8) : ∃ a, ex j = .ref a ∧ va_O "java/lang/String" a A s H ∧ va_OF "java/lang/String" "value" "[B" (ex (j + 2)) a A s H ∧ va_OF "java/lang/String" "coder" "B" (.int 0) a A s H := by
  rcases hj with rfl | rfl | rfl
  · exact hX.2.2.2.1 2 (Or.inl rfl)
  · exact hX.2.2.2.1 3 (Or.inr rfl)
  · obtain ⟨a, tx, f1, f2, f3, f4, -⟩ := hX.2.2.2.2.2.2.2
    exact ⟨a, f1, f2, f3, f4⟩
theorem q_str3 {a : Nat} (h : (Nat.beq a 2 || Nat.beq a 3 || Nat.beq a 8) = true) : a = 2 ∨ a = 3 ∨ a = 8 := by
  simp only [Bool.or_eq_true] at h
  rcases h with (h | h) | h
  · exact Or.inl (Nat.eq_of_beq_eq_true h)
  · exact Or.inr (Or.inl (Nat.eq_of_beq_eq_true h))
  · exact Or.inr (Or.inr (Nat.eq_of_beq_eq_true h))
theorem qh_xgf {t nx idx : Nat} (hlink : (t = 0 ∧ Jvm.Cond.fieldLink (zx_name k).cls idx "java/lang/String" "value" "[B" ∈ zx_tb) ∨ (t ≠ 0 ∧ Jvm.Cond.fieldLink (zx_name k).cls idx "java/lang/String" "coder" "B" ∈ zx_tb)) (hd : decode (zx_bys k) pc = .ok (.getfield idx, 3)) (hn : nx = pc + 3) : qy_Hok ex Γ D as tys k pc (q_xgf t nx) := by
  intro rec hr fr g w lo st outs hk h _ fc ρ p l e R s m args below meth cd A ws H locs cs sl ls sv Q Cx Dy hl hs hret
  subst hk; subst hn
  match st, sv, hs, h with
  | .inr (.inr (.inr (.inl a))) :: r, v :: tt, ⟨h1, h2⟩, h =>
    obtain ⟨h3, h4⟩ := q_cond h
    have ha := q_str3 h3
    obtain ⟨q, e1, e2, e3, e4⟩ := qy_str Cx.2.2.2.2.2.2.1 ha
    rw [show v = ex a from h1, e1]
    rcases hlink with ⟨rfl, hlink⟩ | ⟨ht, hlink⟩
    · have h4 : zx_n (Nat.succ (Nat.succ a)) (fun b => rec fr g w lo (.inr (.inr (.inr (.inl b))) :: r) (pc + 3)) = some outs := h4
      rw [zx_n_eq] at h4
      exact vk_getf (own := (zx_name fr.2.1).cls) Cx.1 Cx.2.1 e3 Dy.2.2.2.1 Cx.2.2.2.1 (Cx.2.2.2.2.1 _ hlink) (fun _ z => z) hd (hr _ _ _ _ _ _ _ h4 () Cx Dy hl ⟨rfl, h2⟩ hret)
    · have hb : Nat.beq t 0 = false := by
        cases hz : Nat.beq t 0 with
        | false => rfl
        | true => exact absurd (Nat.eq_of_beq_eq_true hz) ht
      rw [hb] at h4
      exact vk_getf (own := (zx_name fr.2.1).cls) Cx.1 Cx.2.1 e4 Dy.2.2.2.1 Cx.2.2.2.1 (Cx.2.2.2.2.1 _ hlink) (fun _ z => z) hd (hr _ _ _ _ _ _ _ h4 () Cx Dy hl ⟨qy_lit rfl, h2⟩ hret)
end QJ
