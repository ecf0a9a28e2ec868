/-! beach() of the reference, as the law sees it, by program (wip/p44/embeach.py) -/
section HLB
variable {ex : Nat → Value} {D : va_G} {as : List Nat} {tys : List (ClassId × FieldType)}
theorem hl_conv (hex : ∀ j, ex j = .null ∨ ∃ a, ex j = .ref a) {G : qG} {W : List qE} {I : qG × List qE} {lk : qLk} (h : (match q_lde 0 (G, W, .inl none) [((I.1, I.2, .inl none), lk)] with
    | some _ => true
    | none => false) = true) {fc : Nat → Nat → Int32} {ρ : List Int} (hg : qy_g ρ G) : ∃ ρ2, q_L lk ρ ρ2 ∧ qy_g ρ2 I.1 ∧ ∀ ws, qy_w ρ ex fc tys as W ws → qy_w ρ2 ex fc tys as I.2 ws := by
  cases hl : q_lde 0 (G, W, .inl none) [((I.1, I.2, .inl none), lk)] with
  | none => rw [hl] at h; cases h
  | some x =>
    obtain ⟨E, hE, vals, hL, sg, r⟩ := q_lde_ok (fc := fc) (tys := tys) (as := as) hex (Nat.zero_le _) (qe.rf (ρ := ρ)) (z := (G, W, .inl none)) hg hl
    rcases List.mem_cons.mp hE with e | e
    · rw [e] at hL r
      rw [List.take_zero, List.nil_append] at hL
      rcases r with ⟨rv0, rv1, e1, e2, r1, r2, r3, r4, r5, r6⟩ | ⟨q0, q, e1, e2, _⟩
      · rw [List.take_zero, List.nil_append] at r2 r3
        exact ⟨vals, hL, r2, r3⟩
      · cases e1
    · cases e
/-- the ghosts' names behind beach() are the old ones again -/
def hw_r (κ : Nat) : Nat := match κ with
  | 10 => 0
  | 12 => 2
  | 13 => 3
  | 20 => 0
  | 22 => 2
  | 23 => 3
  | k => k
theorem hw_post (hex : ∀ j, ex j = .null ∨ ∃ a, ex j = .ref a) {T : qG × List qE × Option qV} {I : qG × List qE} {a0 a1 : qV} {fc' fcN : Nat → Nat → Int32} {ρ' : List Int} {t : Int} (htold : (T.2.1.map (q_ren hw_r))[8]? = some (.inl (0, [a0, a1]))) (hren : ∀ t N κ kn ov, (.inr (.inr (.inr (t, N, κ, kn, ov))) : qE) ∈ T.2.1 → fcN (hw_r κ) = fc' κ) (h0 : ∀ x, qy_v ρ' ex as a0 (.int x) → x = fcN 4 0) (h1 : ∀ x, qy_v ρ' ex as a1 (.int x) → x = fcN 4 1)
    (hcv : (match q_lde 0 (T.1, (T.2.1.map (q_ren hw_r)).set 8 (.inr (.inr (.inr (0, 2, 4, [], [])))), .inl none) [((I.1, I.2, .inl none), [(23, .inr (.inl (23, 1, 0)))], [])] with
    | some _ => true
    | none => false) = true) (hg : qy_g ρ' T.1) (ht : ρ'[23]? = some t) : ∃ ρ2, qy_g ρ2 I.1 ∧ ρ2[23]? = some t ∧ ∀ ws, qy_w ρ' ex fc' tys as T.2.1 ws → qy_w ρ2 ex fcN tys as I.2 ws := by
  obtain ⟨ρ2, hL, g2, w2⟩ := hl_conv (fc := fcN) (tys := tys) (as := as) hex hcv hg
  refine ⟨ρ2, g2, ?_, fun ws h => w2 ws ?_⟩
  · rw [hL.n (i := 23) (s := 23) (d := 0) List.mem_cons_self ht]; exact congrArg some (by omega)
  · have h2 := h.ren (r := hw_r) (fc' := fcN) hren
    refine h2.chg htold (fun q hq => ?_)
    match q, hq with
    | .inl (cA, n, .inl f), ⟨k1, k2, k3, k4⟩ =>
      refine ⟨k1, k2, k3, fun u hu => (by cases hu), fun j hj => ?_⟩
      match j, hj with
      | 0, _ => exact h0 _ (k4 0 a0 rfl)
      | 1, _ => exact h1 _ (k4 1 a1 rfl)
      | j + 2, hj => omega
/-- the ghosts that beach() begins with: a rule of no step stands ready -/
def hw_fc (fc : Nat → Nat → Int32) (a rb : Nat) : Nat → Nat → Int32 := fun κ => if κ = 10 then fc 0 else if κ = 12 then (fun j => if j = rb then Int32.ofInt a else fc 2 j) else if κ = 13 then (fun j => if j = rb then Int32.ofInt a else fc 3 j) else if κ = 20 then fc 0 else if κ = 22 then fc 2 else if κ = 23 then fc 3 else fc κ
/-- what is true of the ghosts all through beach() -/
def hw_Γ (fc0 : Nat → Nat → Int32) (a b rb : Nat) (f : Nat → Nat → Int32) : Prop := (∀ κ, κ ≤ 4 → f κ = fc0 κ) ∧ (∃ M : Nat, M ≤ 280 ∧ hc_w (f 10) a M ∧ (f 12 rb).toInt = a ∧ (f 13 rb).toInt = a + M ∧ (∀ j, (j < a ∨ a + 560 ≤ j) → f 10 j = fc0 0 j) ∧ f 12 b = fc0 2 b ∧ f 13 b = fc0 3 b) ∧ (∀ j, (j < a ∨ a + 560 ≤ j) → f 20 j = fc0 0 j) ∧ f 22 b = fc0 2 b ∧ f 23 b = fc0 3 b
theorem hw_Γ0 {fc : Nat → Nat → Int32} {a b rb : Nat} (hb : b ≠ rb) (ha : a ≤ 560) : hw_Γ fc a b rb (hw_fc fc a rb) := by
  have ea : (Int32.ofInt (a : Int)).toInt = (a : Int) := q_i32of (by omega) (by omega)
  refine ⟨fun κ hκ => ?_, ⟨0, by omega, fun i hi => absurd hi (Nat.not_lt_zero i), ?_, ?_, fun _ _ => rfl, ?_, ?_⟩, fun _ _ => rfl, rfl, rfl⟩
  · unfold hw_fc
    rw [if_neg (by omega), if_neg (by omega), if_neg (by omega), if_neg (by omega), if_neg (by omega), if_neg (by omega)]
  · show (if rb = rb then Int32.ofInt (a : Int) else fc 2 rb).toInt = a
    rw [if_pos rfl]; exact ea
  · show (if rb = rb then Int32.ofInt (a : Int) else fc 3 rb).toInt = a + ((0 : Nat) : Int)
    rw [if_pos rfl, ea]; omega
  · show (if b = rb then Int32.ofInt (a : Int) else fc 2 b) = fc 2 b
    rw [if_neg hb]
  · show (if b = rb then Int32.ofInt (a : Int) else fc 3 b) = fc 3 b
    rw [if_neg hb]
theorem hw_Γ1 {fc0 : Nat → Nat → Int32} {a b rb : Nat} : ∀ f f', hw_Γ fc0 a b rb f → hr_new a b rb f f' → hw_Γ fc0 a b rb f' := by
  rintro f f' ⟨h1, h2, h3, h4, h5⟩ ⟨k1, k2⟩
  refine ⟨fun κ hκ => (k1 κ hκ).trans (h1 κ hκ), ?_⟩
  have e0 := h1 0 (by omega)
  have e2 := h1 2 (by omega)
  have e3 := h1 3 (by omega)
  rcases k2 with ⟨M, m1, m2, m3, m4, m5, m6, m7, m8, m9, m10⟩ | ⟨m1, m2, m3, m4, m5, m6⟩
  · refine ⟨⟨M, m1, m2, m3, m4, fun j hj => by rw [m5 j hj, e0], by rw [m6, e2], by rw [m7, e3]⟩, fun j hj => by rw [m8]; exact h3 j hj, by rw [m9]; exact h4, by rw [m10]; exact h5⟩
  · refine ⟨?_, fun j hj => by rw [m1 j hj, e0], by rw [m2, e2], by rw [m3, e3]⟩
    rw [m4, m5, m6]
    exact h2
/-- the ghosts behind beach(): program, from, to, what was told -/
def hw_N (f : Nat → Nat → Int32) (c r s : Nat) (T : Nat → Int32) : Nat → Nat → Int32 := fun κ => if κ = 0 then f c else if κ = 2 then f r else if κ = 3 then f s else if κ = 4 then T else f κ
theorem hw_keep {fc f : Nat → Nat → Int32} {c r s b a : Nat} {T : Nat → Int32} (h : hp_g fc b) (hT : ∀ j, j < 2 → 0 ≤ (T j).toInt ∧ (T j).toInt ≤ 7) (hTb : T b = fc 4 b) (hc : ∀ j, (j < a ∨ a + 560 ≤ j) → f c j = fc 0 j) (hr : f r b = fc 2 b) (hs : f s b = fc 3 b) (hab : ∀ j, 560 * b ≤ j → j < 560 * b + 560 → (j < a ∨ a + 560 ≤ j)) : hp_g (hw_N f c r s T) b := by
  refine ⟨hT, fun ho => ?_⟩
  have ho : (T b).toInt % 2 = 1 := ho
  rw [hTb] at ho
  obtain ⟨g1, g2, g3, g4⟩ := h.2 ho
  have e2 : hw_N f c r s T 2 b = fc 2 b := hr
  have e3 : hw_N f c r s T 3 b = fc 3 b := hs
  refine ⟨by rw [e2]; exact g1, by rw [e3]; exact g2, by rw [e3]; exact g3, ?_⟩
  rw [e3]
  refine hc_w_up (C := fc 0) (fun i hi => ?_) g4
  exact hc _ (hab _ (by omega) (by omega))
theorem hw_new {f : Nat → Nat → Int32} {c r s b M : Nat} {T : Nat → Int32} (hT : ∀ j, j < 2 → 0 ≤ (T j).toInt ∧ (T j).toInt ≤ 7) (hM : M ≤ 280) (hw : hc_w (f c) (560 * b) M) (h2 : (f r b).toInt = ((560 * b : Nat) : Int)) (h3 : (f s b).toInt = ((560 * b : Nat) : Int) + M) : hp_g (hw_N f c r s T) b := by
  refine ⟨hT, fun _ => ?_⟩
  have e2 : hw_N f c r s T 2 b = f r b := rfl
  have e3 : hw_N f c r s T 3 b = f s b := rfl
  refine ⟨by rw [e2, h2]; omega, by rw [e3, h3]; omega, by rw [e3, h3]; omega, ?_⟩
  rw [e3, h3]
  have em : (((560 * b : Nat) : Int) + (M : Int) - 560 * (b : Int)).toNat = M := by omega
  rw [em]
  exact hw
theorem hw_even {f : Nat → Nat → Int32} {c r s b : Nat} {T : Nat → Int32} (hT : ∀ j, j < 2 → 0 ≤ (T j).toInt ∧ (T j).toInt ≤ 7) (he : ¬ (T b).toInt % 2 = 1) : hp_g (hw_N f c r s T) b := ⟨hT, fun ho => absurd ho he⟩
theorem hw_ren {f : Nat → Nat → Int32} {c r s : Nat} {T : Nat → Int32} {w : List qE} (h : w.all (q_ghs fun κ => Nat.beq κ c || (Nat.beq κ r || (Nat.beq κ s || (Nat.beq κ 5 || Nat.beq κ 6)))) = true) (hc : hw_r c = 0) (hr : hw_r r = 2) (hs : hw_r s = 3) : ∀ t N κ kn ov, (.inr (.inr (.inr (t, N, κ, kn, ov))) : qE) ∈ w → hw_N f c r s T (hw_r κ) = f κ := by
  intro t N κ kn ov hm
  have := q_ghs_ok h hm
  simp only [Bool.or_eq_true] at this
  rcases this with z | z | z | z | z <;> (have z := Nat.eq_of_beq_eq_true z; rw [z])
  · rw [hc]; rfl
  · rw [hr]; rfl
  · rw [hs]; rfl
  · rfl
  · rfl
end HLB
section zPBEACH
variable {ex : Nat → Value} {D : va_G} {as : List Nat} {tys : List (ClassId × FieldType)} {t : Int} {ax : Nat}
noncomputable def zPb (j : Nat) : qG × List qE × Option qV := zPk30.2.2.2.2.2.getD j (([], []), [], none)
set_option maxRecDepth 100000 in
theorem zPcv : (match q_lde 0 ((zI0.1.1 ++ [(0, 7), (0, 7)], zI0.1.2), zI0.2.set 8 (.inl (0, [qa 44, qa 45])), .inl none) [((zPk30.2.2.1, zPk30.2.2.2.1, .inl none), [(23, qa 23), (34, qa 44), (35, qa 45)], [])] with | some _ => true | none => false) = true := by decide +kernel
set_option maxRecDepth 100000 in
theorem zPcv0 : (match q_lde 0 ((zPb 0).1, ((zPb 0).2.1.map (q_ren hw_r)).set 8 (.inr (.inr (.inr (0, 2, 4, [], [])))), .inl none) [((zI1.1, zI1.2, .inl none), [(23, .inr (.inl (23, 1, 0)))], [])] with | some _ => true | none => false) = true := by decide +kernel
set_option maxRecDepth 100000 in
theorem zPcv1 : (match q_lde 0 ((zPb 1).1, ((zPb 1).2.1.map (q_ren hw_r)).set 8 (.inr (.inr (.inr (0, 2, 4, [], [])))), .inl none) [((zI0.1, zI0.2, .inl none), [(23, .inr (.inl (23, 1, 0)))], [])] with | some _ => true | none => false) = true := by decide +kernel
set_option maxRecDepth 100000 in
theorem zPcv2 : (match q_lde 0 ((zPb 2).1, ((zPb 2).2.1.map (q_ren hw_r)).set 8 (.inr (.inr (.inr (0, 2, 4, [], [])))), .inl none) [((zI0.1, zI0.2, .inl none), [(23, .inr (.inl (23, 1, 0)))], [])] with | some _ => true | none => false) = true := by decide +kernel
set_option maxRecDepth 100000 in
theorem zPcv3 : (match q_lde 0 ((zPb 3).1, ((zPb 3).2.1.map (q_ren hw_r)).set 8 (.inr (.inr (.inr (0, 2, 4, [], [])))), .inl none) [((zI1.1, zI1.2, .inl none), [(23, .inr (.inl (23, 1, 0)))], [])] with | some _ => true | none => false) = true := by decide +kernel
set_option maxRecDepth 100000 in
theorem zPcv4 : (match q_lde 0 ((zPb 4).1, ((zPb 4).2.1.map (q_ren hw_r)).set 8 (.inr (.inr (.inr (0, 2, 4, [], [])))), .inl none) [((zI0.1, zI0.2, .inl none), [(23, .inr (.inl (23, 1, 0)))], [])] with | some _ => true | none => false) = true := by decide +kernel
set_option maxRecDepth 100000 in
theorem zPcv5 : (match q_lde 0 ((zPb 5).1, ((zPb 5).2.1.map (q_ren hw_r)).set 8 (.inr (.inr (.inr (0, 2, 4, [], [])))), .inl none) [((zI0.1, zI0.2, .inl none), [(23, .inr (.inl (23, 1, 0)))], [])] with | some _ => true | none => false) = true := by decide +kernel
set_option maxRecDepth 100000 in
theorem zPcv6 : (match q_lde 0 ((zPb 6).1, ((zPb 6).2.1.map (q_ren hw_r)).set 8 (.inr (.inr (.inr (0, 2, 4, [], [])))), .inl none) [((zI0.1, zI0.2, .inl none), [(23, .inr (.inl (23, 1, 0)))], [])] with | some _ => true | none => false) = true := by decide +kernel
set_option maxRecDepth 100000 in
theorem zPcv7 : (match q_lde 0 ((zPb 7).1, ((zPb 7).2.1.map (q_ren hw_r)).set 8 (.inr (.inr (.inr (0, 2, 4, [], [])))), .inl none) [((zI1.1, zI1.2, .inl none), [(23, .inr (.inl (23, 1, 0)))], [])] with | some _ => true | none => false) = true := by decide +kernel
set_option maxRecDepth 100000 in
theorem zPcv8 : (match q_lde 0 ((zPb 8).1, ((zPb 8).2.1.map (q_ren hw_r)).set 8 (.inr (.inr (.inr (0, 2, 4, [], [])))), .inl none) [((zI0.1, zI0.2, .inl none), [(23, .inr (.inl (23, 1, 0)))], [])] with | some _ => true | none => false) = true := by decide +kernel
set_option maxRecDepth 100000 in
theorem zPcv9 : (match q_lde 0 ((zPb 9).1, ((zPb 9).2.1.map (q_ren hw_r)).set 8 (.inr (.inr (.inr (0, 2, 4, [], [])))), .inl none) [((zI1.1, zI1.2, .inl none), [(23, .inr (.inl (23, 1, 0)))], [])] with | some _ => true | none => false) = true := by decide +kernel
set_option maxRecDepth 100000 in
theorem zPcv10 : (match q_lde 0 ((zPb 10).1, ((zPb 10).2.1.map (q_ren hw_r)).set 8 (.inr (.inr (.inr (0, 2, 4, [], [])))), .inl none) [((zI0.1, zI0.2, .inl none), [(23, .inr (.inl (23, 1, 0)))], [])] with | some _ => true | none => false) = true := by decide +kernel
set_option maxRecDepth 100000 in
theorem zPcv11 : (match q_lde 0 ((zPb 11).1, ((zPb 11).2.1.map (q_ren hw_r)).set 8 (.inr (.inr (.inr (0, 2, 4, [], [])))), .inl none) [((zI1.1, zI1.2, .inl none), [(23, .inr (.inl (23, 1, 0)))], [])] with | some _ => true | none => false) = true := by decide +kernel
set_option maxRecDepth 100000 in
theorem zPcv12 : (match q_lde 0 ((zPb 12).1, ((zPb 12).2.1.map (q_ren hw_r)).set 8 (.inr (.inr (.inr (0, 2, 4, [], [])))), .inl none) [((zI0.1, zI0.2, .inl none), [(23, .inr (.inl (23, 1, 0)))], [])] with | some _ => true | none => false) = true := by decide +kernel
set_option maxRecDepth 100000 in
theorem zPcv13 : (match q_lde 0 ((zPb 13).1, ((zPb 13).2.1.map (q_ren hw_r)).set 8 (.inr (.inr (.inr (0, 2, 4, [], [])))), .inl none) [((zI1.1, zI1.2, .inl none), [(23, .inr (.inl (23, 1, 0)))], [])] with | some _ => true | none => false) = true := by decide +kernel
set_option maxRecDepth 100000 in
theorem zPcv14 : (match q_lde 0 ((zPb 14).1, ((zPb 14).2.1.map (q_ren hw_r)).set 8 (.inr (.inr (.inr (0, 2, 4, [], [])))), .inl none) [((zI1.1, zI1.2, .inl none), [(23, .inr (.inl (23, 1, 0)))], [])] with | some _ => true | none => false) = true := by decide +kernel
set_option maxRecDepth 100000 in
theorem zPcv15 : (match q_lde 0 ((zPb 15).1, ((zPb 15).2.1.map (q_ren hw_r)).set 8 (.inr (.inr (.inr (0, 2, 4, [], [])))), .inl none) [((zI0.1, zI0.2, .inl none), [(23, .inr (.inl (23, 1, 0)))], [])] with | some _ => true | none => false) = true := by decide +kernel
set_option maxRecDepth 100000 in
theorem zPcv16 : (match q_lde 0 ((zPb 16).1, ((zPb 16).2.1.map (q_ren hw_r)).set 8 (.inr (.inr (.inr (0, 2, 4, [], [])))), .inl none) [((zI1.1, zI1.2, .inl none), [(23, .inr (.inl (23, 1, 0)))], [])] with | some _ => true | none => false) = true := by decide +kernel
set_option maxRecDepth 100000 in
theorem zPcv17 : (match q_lde 0 ((zPb 17).1, ((zPb 17).2.1.map (q_ren hw_r)).set 8 (.inr (.inr (.inr (0, 2, 4, [], [])))), .inl none) [((zI0.1, zI0.2, .inl none), [(23, .inr (.inl (23, 1, 0)))], [])] with | some _ => true | none => false) = true := by decide +kernel
set_option maxRecDepth 100000 in
theorem zPcv18 : (match q_lde 0 ((zPb 18).1, ((zPb 18).2.1.map (q_ren hw_r)).set 8 (.inr (.inr (.inr (0, 2, 4, [], [])))), .inl none) [((zI0.1, zI0.2, .inl none), [(23, .inr (.inl (23, 1, 0)))], [])] with | some _ => true | none => false) = true := by decide +kernel
set_option maxRecDepth 100000 in
theorem zPcv19 : (match q_lde 0 ((zPb 19).1, ((zPb 19).2.1.map (q_ren hw_r)).set 8 (.inr (.inr (.inr (0, 2, 4, [], [])))), .inl none) [((zI0.1, zI0.2, .inl none), [(23, .inr (.inl (23, 1, 0)))], [])] with | some _ => true | none => false) = true := by decide +kernel
set_option maxRecDepth 100000 in
theorem zM0_beach (hT : zk_t) (hA : zk_a) (hex : ∀ j, ex j = .null ∨ ∃ a, ex j = .ref a) (hax : as[0]? = some ax) : hl_M ex D as tys 69 12 186 (hl_I ex as tys zΦ0 zI0 23 t) [.ref ax] (fun _ ws => hl_I ex as tys zΦ0 zI0 23 t ws ∨ hl_I ex as tys zΦ1 zI1 23 t ws) := by
  rintro ws ⟨fc, ρ, hΦ, h1, h2, h3⟩
  have hN : ρ.length = 44 := h2.1.symm
  have t0 := hΦ.1 0 (by omega)
  have t1 := hΦ.1 1 (by omega)
  have hw1 : qy_w ρ ex (hw_fc fc 560 1) tys as zI0.2 ws := h1.ren (r := fun κ => κ) (fc' := hw_fc fc 560 1) (fun t N κ kn ov hm => by
    have hk := Nat.le_of_ble_eq_true (q_ghs_ok (f := fun κ => Nat.ble κ 6) (by decide +kernel) hm)
    show hw_fc fc 560 1 κ = fc κ
    unfold hw_fc
    rw [if_neg (by omega), if_neg (by omega), if_neg (by omega), if_neg (by omega), if_neg (by omega), if_neg (by omega)])
  have he : qe ρ (ρ ++ [(fc 4 0).toInt, (fc 4 1).toInt]) := ⟨_, rfl⟩
  have e4 : hw_fc fc 560 1 4 = fc 4 := rfl
  have hw2 : qy_w (ρ ++ [(fc 4 0).toInt, (fc 4 1).toInt]) ex (hw_fc fc 560 1) tys as (zI0.2.set 8 (.inl (0, [qa 44, qa 45]))) ws := by
    refine (hw1.mono he).chg (i := 8) (e := .inr (.inr (.inr (0, 2, 4, [], [])))) rfl (fun q hq => ?_)
    match q, hq with
    | .inl (cA, n, .inl f), ⟨k1, k2, k3, k4, k5⟩ =>
      have k5 : ∀ j, j < 2 → f j = fc 4 j := k5
      refine ⟨k1, k2, k3, fun j a ha => ?_⟩
      match j, ha with
      | 0, ha => cases ha; rw [k5 0 (by omega)]; exact qy_kns (q_ap0 hN)
      | 1, ha => cases ha; rw [k5 1 (by omega)]; exact qy_kns (q_ap1 hN)
      | j + 2, ha => cases ha
  have hg2 : qy_g (ρ ++ [(fc 4 0).toInt, (fc 4 1).toInt]) (zI0.1.1 ++ [(0, 7), (0, 7)], zI0.1.2) := qy_g.ext h2 rfl (fun j r hj => by
    match j, hj with
    | 0, hj => cases hj; exact ⟨_, rfl, t0⟩
    | 1, hj => cases hj; exact ⟨_, rfl, t1⟩
    | j + 2, hj => cases hj)
  obtain ⟨ρ2, hL, hg3, hw3⟩ := hl_conv (fc := hw_fc fc 560 1) (tys := tys) (as := as) (I := (zPk30.2.2.1, zPk30.2.2.2.1)) (W := zI0.2.set 8 (.inl (0, [qa 44, qa 45]))) (lk := ([(23, qa 23), (34, qa 44), (35, qa 45)], [])) hex zPcv hg2
  have l23 : ρ2[23]? = some t := by rw [hL.n (i := 23) (s := 23) (d := 0) List.mem_cons_self (he.at h3)]; exact congrArg some (by omega)
  have l34 : ρ2[34]? = some (fc 4 0).toInt := by rw [hL.n (i := 34) (s := 44) (d := 0) (List.mem_cons_of_mem _ List.mem_cons_self) (q_ap0 hN)]; exact congrArg some (by omega)
  have l35 : ρ2[35]? = some (fc 4 1).toInt := by rw [hL.n (i := 35) (s := 45) (d := 0) (List.mem_cons_of_mem _ (List.mem_cons_of_mem _ List.mem_cons_self)) (q_ap1 hN)]; exact congrArg some (by omega)
  have hV := zPh30 ex (hw_Γ fc 560 0 1, fun κ => κ ≤ 4) D as tys hT hA (zPhand hT hA (fun f f' => hw_Γ1 f f') (fun κ hκ => hκ))
  have hVT : qy_T ex (hw_Γ fc 560 0 1, fun κ => κ ≤ 4) D as tys (zPk30.2.1, zPk30.1, []) zPk30.2.2.1 zPk30.2.2.2.1 zPk30.2.2.2.2.1 [] 0 (q_po zPk30) := hV
  obtain ⟨hM, -, -⟩ := qs_vc (ex := ex) hT hA (k := 0) (pc := 336) rfl
  refine ⟨hw_fc fc 560 1, ρ2, zPk30.2.2.1, zPk30.2.2.2.1, zPk30.2.2.2.2.1, _, (hVT.TP (ρ := ρ2) (fc := hw_fc fc 560 1) (hw_Γ0 (by decide) (by decide))).dep (by decide), hw3 ws hw2, hg3, ⟨⟨ax, hax, rfl⟩, trivial⟩, ⟨_, hM, rfl⟩, ⟨0, 0, _, _, rfl, rfl⟩, fun fc' ρ' o ho => ?_⟩
  obtain ⟨hmem, hq, hγ⟩ := ho
  obtain ⟨f1, ⟨M, hM1, hM2, hM3, hM4, hM5, hM6, hM7⟩, f3, f4, f5⟩ := hγ.1
  obtain ⟨T, hTm, e⟩ := List.mem_map.mp hmem
  have m23 := hq.at l23
  have m34 := hq.at l34
  have m35 := hq.at l35
  have f10 : fc' 0 = fc 0 := f1 0 (by omega)
  have f12 : fc' 2 = fc 2 := f1 2 (by omega)
  have f13 : fc' 3 = fc 3 := f1 3 (by omega)
  have hTm : T ∈ [zPb 0, zPb 1, zPb 2, zPb 3, zPb 4, zPb 5, zPb 6, zPb 7, zPb 8, zPb 9, zPb 10, zPb 11, zPb 12, zPb 13, zPb 14, zPb 15, zPb 16, zPb 17, zPb 18, zPb 19] := hTm
  rw [← e]
  have hT0 : ∀ j, j < 2 → 0 ≤ ((fun j => if j = 0 then fc 4 0 else 0 : Nat → Int32) j).toInt ∧ ((fun j => if j = 0 then fc 4 0 else 0 : Nat → Int32) j).toInt ≤ 7 := by
    intro j hj
    show 0 ≤ (if j = 0 then fc 4 0 else (0 : Int32)).toInt ∧ (if j = 0 then fc 4 0 else (0 : Int32)).toInt ≤ 7
    split
    · exact t0
    · exact ⟨by decide, by decide⟩
  have hT1 : ∀ j, j < 2 → 0 ≤ ((fun j => if j = 0 then fc 4 0 else 1 : Nat → Int32) j).toInt ∧ ((fun j => if j = 0 then fc 4 0 else 1 : Nat → Int32) j).toInt ≤ 7 := by
    intro j hj
    show 0 ≤ (if j = 0 then fc 4 0 else (1 : Int32)).toInt ∧ (if j = 0 then fc 4 0 else (1 : Int32)).toInt ≤ 7
    split
    · exact t0
    · exact ⟨by decide, by decide⟩
  have hT2 : ∀ j, j < 2 → 0 ≤ ((fun j => if j = 0 then fc 4 0 else 2 : Nat → Int32) j).toInt ∧ ((fun j => if j = 0 then fc 4 0 else 2 : Nat → Int32) j).toInt ≤ 7 := by
    intro j hj
    show 0 ≤ (if j = 0 then fc 4 0 else (2 : Int32)).toInt ∧ (if j = 0 then fc 4 0 else (2 : Int32)).toInt ≤ 7
    split
    · exact t0
    · exact ⟨by decide, by decide⟩
  have hT3 : ∀ j, j < 2 → 0 ≤ ((fun j => if j = 0 then fc 4 0 else 3 : Nat → Int32) j).toInt ∧ ((fun j => if j = 0 then fc 4 0 else 3 : Nat → Int32) j).toInt ≤ 7 := by
    intro j hj
    show 0 ≤ (if j = 0 then fc 4 0 else (3 : Int32)).toInt ∧ (if j = 0 then fc 4 0 else (3 : Int32)).toInt ≤ 7
    split
    · exact t0
    · exact ⟨by decide, by decide⟩
  have hT4 : ∀ j, j < 2 → 0 ≤ ((fun j => if j = 0 then fc 4 0 else 4 : Nat → Int32) j).toInt ∧ ((fun j => if j = 0 then fc 4 0 else 4 : Nat → Int32) j).toInt ≤ 7 := by
    intro j hj
    show 0 ≤ (if j = 0 then fc 4 0 else (4 : Int32)).toInt ∧ (if j = 0 then fc 4 0 else (4 : Int32)).toInt ≤ 7
    split
    · exact t0
    · exact ⟨by decide, by decide⟩
  have hT5 : ∀ j, j < 2 → 0 ≤ ((fun j => if j = 0 then fc 4 0 else 5 : Nat → Int32) j).toInt ∧ ((fun j => if j = 0 then fc 4 0 else 5 : Nat → Int32) j).toInt ≤ 7 := by
    intro j hj
    show 0 ≤ (if j = 0 then fc 4 0 else (5 : Int32)).toInt ∧ (if j = 0 then fc 4 0 else (5 : Int32)).toInt ≤ 7
    split
    · exact t0
    · exact ⟨by decide, by decide⟩
  have hT6 : ∀ j, j < 2 → 0 ≤ ((fun j => if j = 0 then fc 4 0 else 6 : Nat → Int32) j).toInt ∧ ((fun j => if j = 0 then fc 4 0 else 6 : Nat → Int32) j).toInt ≤ 7 := by
    intro j hj
    show 0 ≤ (if j = 0 then fc 4 0 else (6 : Int32)).toInt ∧ (if j = 0 then fc 4 0 else (6 : Int32)).toInt ≤ 7
    split
    · exact t0
    · exact ⟨by decide, by decide⟩
  have hT7 : ∀ j, j < 2 → 0 ≤ ((fun j => if j = 0 then fc 4 0 else 7 : Nat → Int32) j).toInt ∧ ((fun j => if j = 0 then fc 4 0 else 7 : Nat → Int32) j).toInt ≤ 7 := by
    intro j hj
    show 0 ≤ (if j = 0 then fc 4 0 else (7 : Int32)).toInt ∧ (if j = 0 then fc 4 0 else (7 : Int32)).toInt ≤ 7
    split
    · exact t0
    · exact ⟨by decide, by decide⟩
  rcases List.mem_cons.mp hTm with hj | hTm
  · rw [hj]
    refine ⟨_, rfl, fun ws' v q1 q2 q3 => ?_⟩
    obtain ⟨x, hx⟩ := hl_int_ok (a := _) rfl q3
    obtain ⟨ρ3, g3, l3, w3⟩ := hw_post (tys := tys) (as := as) (I := zI1) (fcN := hw_N fc' 0 2 3 (fun j => if j = 0 then fc 4 0 else 0)) hex (T := zPb 0) rfl (hw_ren (by decide +kernel) rfl rfl rfl) (fun x hx => by
      obtain ⟨y, r, y1, y2, y3⟩ := hx
      cases y1
      have y2 : ρ'[34]? = some r := y2
      rw [m34] at y2
      cases y2
      apply Int32.toInt_inj.mp
      rw [y3]
      show 1 * (fc 4 0).toInt + 0 = (fc 4 0).toInt
      omega) (fun x hx => by
      obtain ⟨y, y1, y2⟩ := hx
      cases y1
      apply Int32.toInt_inj.mp
      rw [y2]
      rfl) zPcv0 q2 m23
    exact ⟨x, hx, Or.inr ⟨_, ρ3, hw_even hT0 (by show ¬ ((0 : Int32)).toInt % 2 = 1; decide), w3 ws' q1, g3, l3⟩⟩
  rcases List.mem_cons.mp hTm with hj | hTm
  · rw [hj]
    refine ⟨_, rfl, fun ws' v q1 q2 q3 => ?_⟩
    obtain ⟨x, hx⟩ := hl_int_ok (a := _) rfl q3
    obtain ⟨ρ3, g3, l3, w3⟩ := hw_post (tys := tys) (as := as) (I := zI0) (fcN := hw_N fc' 0 2 3 (fun j => if j = 0 then fc 4 0 else 0)) hex (T := zPb 1) rfl (hw_ren (by decide +kernel) rfl rfl rfl) (fun x hx => by
      obtain ⟨y, r, y1, y2, y3⟩ := hx
      cases y1
      have y2 : ρ'[34]? = some r := y2
      rw [m34] at y2
      cases y2
      apply Int32.toInt_inj.mp
      rw [y3]
      show 1 * (fc 4 0).toInt + 0 = (fc 4 0).toInt
      omega) (fun x hx => by
      obtain ⟨y, y1, y2⟩ := hx
      cases y1
      apply Int32.toInt_inj.mp
      rw [y2]
      rfl) zPcv1 q2 m23
    exact ⟨x, hx, Or.inl ⟨_, ρ3, hw_keep (a := 560) hΦ hT0 rfl (fun j _ => by rw [f10]) (by rw [f12]) (by rw [f13]) (fun j h1 h2 => by omega), w3 ws' q1, g3, l3⟩⟩
  rcases List.mem_cons.mp hTm with hj | hTm
  · rw [hj]
    refine ⟨_, rfl, fun ws' v q1 q2 q3 => ?_⟩
    obtain ⟨x, hx⟩ := hl_int_ok (a := _) rfl q3
    obtain ⟨ρ3, g3, l3, w3⟩ := hw_post (tys := tys) (as := as) (I := zI0) (fcN := hw_N fc' 20 22 23 (fun j => if j = 0 then fc 4 0 else 1)) hex (T := zPb 2) rfl (hw_ren (by decide +kernel) rfl rfl rfl) (fun x hx => by
      obtain ⟨y, r, y1, y2, y3⟩ := hx
      cases y1
      have y2 : ρ'[34]? = some r := y2
      rw [m34] at y2
      cases y2
      apply Int32.toInt_inj.mp
      rw [y3]
      show 1 * (fc 4 0).toInt + 0 = (fc 4 0).toInt
      omega) (fun x hx => by
      obtain ⟨y, y1, y2⟩ := hx
      cases y1
      apply Int32.toInt_inj.mp
      rw [y2]
      rfl) zPcv2 q2 m23
    exact ⟨x, hx, Or.inl ⟨_, ρ3, hw_keep (a := 560) hΦ hT1 rfl (f3) (f4) (f5) (fun j h1 h2 => by omega), w3 ws' q1, g3, l3⟩⟩
  rcases List.mem_cons.mp hTm with hj | hTm
  · rw [hj]
    refine ⟨_, rfl, fun ws' v q1 q2 q3 => ?_⟩
    obtain ⟨x, hx⟩ := hl_int_ok (a := _) rfl q3
    obtain ⟨ρ3, g3, l3, w3⟩ := hw_post (tys := tys) (as := as) (I := zI1) (fcN := hw_N fc' 10 12 13 (fun j => if j = 0 then fc 4 0 else 1)) hex (T := zPb 3) rfl (hw_ren (by decide +kernel) rfl rfl rfl) (fun x hx => by
      obtain ⟨y, r, y1, y2, y3⟩ := hx
      cases y1
      have y2 : ρ'[34]? = some r := y2
      rw [m34] at y2
      cases y2
      apply Int32.toInt_inj.mp
      rw [y3]
      show 1 * (fc 4 0).toInt + 0 = (fc 4 0).toInt
      omega) (fun x hx => by
      obtain ⟨y, y1, y2⟩ := hx
      cases y1
      apply Int32.toInt_inj.mp
      rw [y2]
      rfl) zPcv3 q2 m23
    exact ⟨x, hx, Or.inr ⟨_, ρ3, hw_new hT1 hM1 hM2 hM3 hM4, w3 ws' q1, g3, l3⟩⟩
  rcases List.mem_cons.mp hTm with hj | hTm
  · rw [hj]
    refine ⟨_, rfl, fun ws' v q1 q2 q3 => ?_⟩
    obtain ⟨x, hx⟩ := hl_int_ok (a := _) rfl q3
    obtain ⟨ρ3, g3, l3, w3⟩ := hw_post (tys := tys) (as := as) (I := zI0) (fcN := hw_N fc' 10 12 13 (fun j => if j = 0 then fc 4 0 else 1)) hex (T := zPb 4) rfl (hw_ren (by decide +kernel) rfl rfl rfl) (fun x hx => by
      obtain ⟨y, r, y1, y2, y3⟩ := hx
      cases y1
      have y2 : ρ'[34]? = some r := y2
      rw [m34] at y2
      cases y2
      apply Int32.toInt_inj.mp
      rw [y3]
      show 1 * (fc 4 0).toInt + 0 = (fc 4 0).toInt
      omega) (fun x hx => by
      obtain ⟨y, y1, y2⟩ := hx
      cases y1
      apply Int32.toInt_inj.mp
      rw [y2]
      rfl) zPcv4 q2 m23
    exact ⟨x, hx, Or.inl ⟨_, ρ3, hw_keep (a := 560) hΦ hT1 rfl (hM5) (hM6) (hM7) (fun j h1 h2 => by omega), w3 ws' q1, g3, l3⟩⟩
  rcases List.mem_cons.mp hTm with hj | hTm
  · rw [hj]
    refine ⟨_, rfl, fun ws' v q1 q2 q3 => ?_⟩
    obtain ⟨x, hx⟩ := hl_int_ok (a := _) rfl q3
    obtain ⟨ρ3, g3, l3, w3⟩ := hw_post (tys := tys) (as := as) (I := zI0) (fcN := hw_N fc' 0 2 3 (fun j => if j = 0 then fc 4 0 else 4)) hex (T := zPb 5) rfl (hw_ren (by decide +kernel) rfl rfl rfl) (fun x hx => by
      obtain ⟨y, r, y1, y2, y3⟩ := hx
      cases y1
      have y2 : ρ'[34]? = some r := y2
      rw [m34] at y2
      cases y2
      apply Int32.toInt_inj.mp
      rw [y3]
      show 1 * (fc 4 0).toInt + 0 = (fc 4 0).toInt
      omega) (fun x hx => by
      obtain ⟨y, y1, y2⟩ := hx
      cases y1
      apply Int32.toInt_inj.mp
      rw [y2]
      rfl) zPcv5 q2 m23
    exact ⟨x, hx, Or.inl ⟨_, ρ3, hw_keep (a := 560) hΦ hT4 rfl (fun j _ => by rw [f10]) (by rw [f12]) (by rw [f13]) (fun j h1 h2 => by omega), w3 ws' q1, g3, l3⟩⟩
  rcases List.mem_cons.mp hTm with hj | hTm
  · rw [hj]
    refine ⟨_, rfl, fun ws' v q1 q2 q3 => ?_⟩
    obtain ⟨x, hx⟩ := hl_int_ok (a := _) rfl q3
    obtain ⟨ρ3, g3, l3, w3⟩ := hw_post (tys := tys) (as := as) (I := zI0) (fcN := hw_N fc' 0 2 3 (fun j => if j = 0 then fc 4 0 else 2)) hex (T := zPb 6) rfl (hw_ren (by decide +kernel) rfl rfl rfl) (fun x hx => by
      obtain ⟨y, r, y1, y2, y3⟩ := hx
      cases y1
      have y2 : ρ'[34]? = some r := y2
      rw [m34] at y2
      cases y2
      apply Int32.toInt_inj.mp
      rw [y3]
      show 1 * (fc 4 0).toInt + 0 = (fc 4 0).toInt
      omega) (fun x hx => by
      obtain ⟨y, y1, y2⟩ := hx
      cases y1
      apply Int32.toInt_inj.mp
      rw [y2]
      rfl) zPcv6 q2 m23
    exact ⟨x, hx, Or.inl ⟨_, ρ3, hw_keep (a := 560) hΦ hT2 rfl (fun j _ => by rw [f10]) (by rw [f12]) (by rw [f13]) (fun j h1 h2 => by omega), w3 ws' q1, g3, l3⟩⟩
  rcases List.mem_cons.mp hTm with hj | hTm
  · rw [hj]
    refine ⟨_, rfl, fun ws' v q1 q2 q3 => ?_⟩
    obtain ⟨x, hx⟩ := hl_int_ok (a := _) rfl q3
    obtain ⟨ρ3, g3, l3, w3⟩ := hw_post (tys := tys) (as := as) (I := zI1) (fcN := hw_N fc' 10 12 13 (fun j => if j = 0 then fc 4 0 else 5)) hex (T := zPb 7) rfl (hw_ren (by decide +kernel) rfl rfl rfl) (fun x hx => by
      obtain ⟨y, r, y1, y2, y3⟩ := hx
      cases y1
      have y2 : ρ'[34]? = some r := y2
      rw [m34] at y2
      cases y2
      apply Int32.toInt_inj.mp
      rw [y3]
      show 1 * (fc 4 0).toInt + 0 = (fc 4 0).toInt
      omega) (fun x hx => by
      obtain ⟨y, y1, y2⟩ := hx
      cases y1
      apply Int32.toInt_inj.mp
      rw [y2]
      rfl) zPcv7 q2 m23
    exact ⟨x, hx, Or.inr ⟨_, ρ3, hw_new hT5 hM1 hM2 hM3 hM4, w3 ws' q1, g3, l3⟩⟩
  rcases List.mem_cons.mp hTm with hj | hTm
  · rw [hj]
    refine ⟨_, rfl, fun ws' v q1 q2 q3 => ?_⟩
    obtain ⟨x, hx⟩ := hl_int_ok (a := _) rfl q3
    obtain ⟨ρ3, g3, l3, w3⟩ := hw_post (tys := tys) (as := as) (I := zI0) (fcN := hw_N fc' 10 12 13 (fun j => if j = 0 then fc 4 0 else 5)) hex (T := zPb 8) rfl (hw_ren (by decide +kernel) rfl rfl rfl) (fun x hx => by
      obtain ⟨y, r, y1, y2, y3⟩ := hx
      cases y1
      have y2 : ρ'[34]? = some r := y2
      rw [m34] at y2
      cases y2
      apply Int32.toInt_inj.mp
      rw [y3]
      show 1 * (fc 4 0).toInt + 0 = (fc 4 0).toInt
      omega) (fun x hx => by
      obtain ⟨y, y1, y2⟩ := hx
      cases y1
      apply Int32.toInt_inj.mp
      rw [y2]
      rfl) zPcv8 q2 m23
    exact ⟨x, hx, Or.inl ⟨_, ρ3, hw_keep (a := 560) hΦ hT5 rfl (hM5) (hM6) (hM7) (fun j h1 h2 => by omega), w3 ws' q1, g3, l3⟩⟩
  rcases List.mem_cons.mp hTm with hj | hTm
  · rw [hj]
    refine ⟨_, rfl, fun ws' v q1 q2 q3 => ?_⟩
    obtain ⟨x, hx⟩ := hl_int_ok (a := _) rfl q3
    obtain ⟨ρ3, g3, l3, w3⟩ := hw_post (tys := tys) (as := as) (I := zI1) (fcN := hw_N fc' 10 12 13 (fun j => if j = 0 then fc 4 0 else 3)) hex (T := zPb 9) rfl (hw_ren (by decide +kernel) rfl rfl rfl) (fun x hx => by
      obtain ⟨y, r, y1, y2, y3⟩ := hx
      cases y1
      have y2 : ρ'[34]? = some r := y2
      rw [m34] at y2
      cases y2
      apply Int32.toInt_inj.mp
      rw [y3]
      show 1 * (fc 4 0).toInt + 0 = (fc 4 0).toInt
      omega) (fun x hx => by
      obtain ⟨y, y1, y2⟩ := hx
      cases y1
      apply Int32.toInt_inj.mp
      rw [y2]
      rfl) zPcv9 q2 m23
    exact ⟨x, hx, Or.inr ⟨_, ρ3, hw_new hT3 hM1 hM2 hM3 hM4, w3 ws' q1, g3, l3⟩⟩
  rcases List.mem_cons.mp hTm with hj | hTm
  · rw [hj]
    refine ⟨_, rfl, fun ws' v q1 q2 q3 => ?_⟩
    obtain ⟨x, hx⟩ := hl_int_ok (a := _) rfl q3
    obtain ⟨ρ3, g3, l3, w3⟩ := hw_post (tys := tys) (as := as) (I := zI0) (fcN := hw_N fc' 10 12 13 (fun j => if j = 0 then fc 4 0 else 3)) hex (T := zPb 10) rfl (hw_ren (by decide +kernel) rfl rfl rfl) (fun x hx => by
      obtain ⟨y, r, y1, y2, y3⟩ := hx
      cases y1
      have y2 : ρ'[34]? = some r := y2
      rw [m34] at y2
      cases y2
      apply Int32.toInt_inj.mp
      rw [y3]
      show 1 * (fc 4 0).toInt + 0 = (fc 4 0).toInt
      omega) (fun x hx => by
      obtain ⟨y, y1, y2⟩ := hx
      cases y1
      apply Int32.toInt_inj.mp
      rw [y2]
      rfl) zPcv10 q2 m23
    exact ⟨x, hx, Or.inl ⟨_, ρ3, hw_keep (a := 560) hΦ hT3 rfl (hM5) (hM6) (hM7) (fun j h1 h2 => by omega), w3 ws' q1, g3, l3⟩⟩
  rcases List.mem_cons.mp hTm with hj | hTm
  · rw [hj]
    refine ⟨_, rfl, fun ws' v q1 q2 q3 => ?_⟩
    obtain ⟨x, hx⟩ := hl_int_ok (a := _) rfl q3
    obtain ⟨ρ3, g3, l3, w3⟩ := hw_post (tys := tys) (as := as) (I := zI1) (fcN := hw_N fc' 10 12 13 (fun j => if j = 0 then fc 4 0 else 7)) hex (T := zPb 11) rfl (hw_ren (by decide +kernel) rfl rfl rfl) (fun x hx => by
      obtain ⟨y, r, y1, y2, y3⟩ := hx
      cases y1
      have y2 : ρ'[34]? = some r := y2
      rw [m34] at y2
      cases y2
      apply Int32.toInt_inj.mp
      rw [y3]
      show 1 * (fc 4 0).toInt + 0 = (fc 4 0).toInt
      omega) (fun x hx => by
      obtain ⟨y, y1, y2⟩ := hx
      cases y1
      apply Int32.toInt_inj.mp
      rw [y2]
      rfl) zPcv11 q2 m23
    exact ⟨x, hx, Or.inr ⟨_, ρ3, hw_new hT7 hM1 hM2 hM3 hM4, w3 ws' q1, g3, l3⟩⟩
  rcases List.mem_cons.mp hTm with hj | hTm
  · rw [hj]
    refine ⟨_, rfl, fun ws' v q1 q2 q3 => ?_⟩
    obtain ⟨x, hx⟩ := hl_int_ok (a := _) rfl q3
    obtain ⟨ρ3, g3, l3, w3⟩ := hw_post (tys := tys) (as := as) (I := zI0) (fcN := hw_N fc' 10 12 13 (fun j => if j = 0 then fc 4 0 else 7)) hex (T := zPb 12) rfl (hw_ren (by decide +kernel) rfl rfl rfl) (fun x hx => by
      obtain ⟨y, r, y1, y2, y3⟩ := hx
      cases y1
      have y2 : ρ'[34]? = some r := y2
      rw [m34] at y2
      cases y2
      apply Int32.toInt_inj.mp
      rw [y3]
      show 1 * (fc 4 0).toInt + 0 = (fc 4 0).toInt
      omega) (fun x hx => by
      obtain ⟨y, y1, y2⟩ := hx
      cases y1
      apply Int32.toInt_inj.mp
      rw [y2]
      rfl) zPcv12 q2 m23
    exact ⟨x, hx, Or.inl ⟨_, ρ3, hw_keep (a := 560) hΦ hT7 rfl (hM5) (hM6) (hM7) (fun j h1 h2 => by omega), w3 ws' q1, g3, l3⟩⟩
  rcases List.mem_cons.mp hTm with hj | hTm
  · rw [hj]
    refine ⟨_, rfl, fun ws' v q1 q2 q3 => ?_⟩
    obtain ⟨x, hx⟩ := hl_int_ok (a := _) rfl q3
    obtain ⟨ρ3, g3, l3, w3⟩ := hw_post (tys := tys) (as := as) (I := zI1) (fcN := hw_N fc' 0 2 3 (fun j => if j = 0 then fc 4 0 else 4)) hex (T := zPb 13) rfl (hw_ren (by decide +kernel) rfl rfl rfl) (fun x hx => by
      obtain ⟨y, r, y1, y2, y3⟩ := hx
      cases y1
      have y2 : ρ'[34]? = some r := y2
      rw [m34] at y2
      cases y2
      apply Int32.toInt_inj.mp
      rw [y3]
      show 1 * (fc 4 0).toInt + 0 = (fc 4 0).toInt
      omega) (fun x hx => by
      obtain ⟨y, y1, y2⟩ := hx
      cases y1
      apply Int32.toInt_inj.mp
      rw [y2]
      rfl) zPcv13 q2 m23
    exact ⟨x, hx, Or.inr ⟨_, ρ3, hw_even hT4 (by show ¬ ((4 : Int32)).toInt % 2 = 1; decide), w3 ws' q1, g3, l3⟩⟩
  rcases List.mem_cons.mp hTm with hj | hTm
  · rw [hj]
    refine ⟨_, rfl, fun ws' v q1 q2 q3 => ?_⟩
    obtain ⟨x, hx⟩ := hl_int_ok (a := _) rfl q3
    obtain ⟨ρ3, g3, l3, w3⟩ := hw_post (tys := tys) (as := as) (I := zI1) (fcN := hw_N fc' 0 2 3 (fun j => if j = 0 then fc 4 0 else 2)) hex (T := zPb 14) rfl (hw_ren (by decide +kernel) rfl rfl rfl) (fun x hx => by
      obtain ⟨y, r, y1, y2, y3⟩ := hx
      cases y1
      have y2 : ρ'[34]? = some r := y2
      rw [m34] at y2
      cases y2
      apply Int32.toInt_inj.mp
      rw [y3]
      show 1 * (fc 4 0).toInt + 0 = (fc 4 0).toInt
      omega) (fun x hx => by
      obtain ⟨y, y1, y2⟩ := hx
      cases y1
      apply Int32.toInt_inj.mp
      rw [y2]
      rfl) zPcv14 q2 m23
    exact ⟨x, hx, Or.inr ⟨_, ρ3, hw_even hT2 (by show ¬ ((2 : Int32)).toInt % 2 = 1; decide), w3 ws' q1, g3, l3⟩⟩
  rcases List.mem_cons.mp hTm with hj | hTm
  · rw [hj]
    refine ⟨_, rfl, fun ws' v q1 q2 q3 => ?_⟩
    obtain ⟨x, hx⟩ := hl_int_ok (a := _) rfl q3
    obtain ⟨ρ3, g3, l3, w3⟩ := hw_post (tys := tys) (as := as) (I := zI0) (fcN := hw_N fc' 20 22 23 (fun j => if j = 0 then fc 4 0 else 5)) hex (T := zPb 15) rfl (hw_ren (by decide +kernel) rfl rfl rfl) (fun x hx => by
      obtain ⟨y, r, y1, y2, y3⟩ := hx
      cases y1
      have y2 : ρ'[34]? = some r := y2
      rw [m34] at y2
      cases y2
      apply Int32.toInt_inj.mp
      rw [y3]
      show 1 * (fc 4 0).toInt + 0 = (fc 4 0).toInt
      omega) (fun x hx => by
      obtain ⟨y, y1, y2⟩ := hx
      cases y1
      apply Int32.toInt_inj.mp
      rw [y2]
      rfl) zPcv15 q2 m23
    exact ⟨x, hx, Or.inl ⟨_, ρ3, hw_keep (a := 560) hΦ hT5 rfl (f3) (f4) (f5) (fun j h1 h2 => by omega), w3 ws' q1, g3, l3⟩⟩
  rcases List.mem_cons.mp hTm with hj | hTm
  · rw [hj]
    refine ⟨_, rfl, fun ws' v q1 q2 q3 => ?_⟩
    obtain ⟨x, hx⟩ := hl_int_ok (a := _) rfl q3
    obtain ⟨ρ3, g3, l3, w3⟩ := hw_post (tys := tys) (as := as) (I := zI1) (fcN := hw_N fc' 0 2 3 (fun j => if j = 0 then fc 4 0 else 6)) hex (T := zPb 16) rfl (hw_ren (by decide +kernel) rfl rfl rfl) (fun x hx => by
      obtain ⟨y, r, y1, y2, y3⟩ := hx
      cases y1
      have y2 : ρ'[34]? = some r := y2
      rw [m34] at y2
      cases y2
      apply Int32.toInt_inj.mp
      rw [y3]
      show 1 * (fc 4 0).toInt + 0 = (fc 4 0).toInt
      omega) (fun x hx => by
      obtain ⟨y, y1, y2⟩ := hx
      cases y1
      apply Int32.toInt_inj.mp
      rw [y2]
      rfl) zPcv16 q2 m23
    exact ⟨x, hx, Or.inr ⟨_, ρ3, hw_even hT6 (by show ¬ ((6 : Int32)).toInt % 2 = 1; decide), w3 ws' q1, g3, l3⟩⟩
  rcases List.mem_cons.mp hTm with hj | hTm
  · rw [hj]
    refine ⟨_, rfl, fun ws' v q1 q2 q3 => ?_⟩
    obtain ⟨x, hx⟩ := hl_int_ok (a := _) rfl q3
    obtain ⟨ρ3, g3, l3, w3⟩ := hw_post (tys := tys) (as := as) (I := zI0) (fcN := hw_N fc' 0 2 3 (fun j => if j = 0 then fc 4 0 else 6)) hex (T := zPb 17) rfl (hw_ren (by decide +kernel) rfl rfl rfl) (fun x hx => by
      obtain ⟨y, r, y1, y2, y3⟩ := hx
      cases y1
      have y2 : ρ'[34]? = some r := y2
      rw [m34] at y2
      cases y2
      apply Int32.toInt_inj.mp
      rw [y3]
      show 1 * (fc 4 0).toInt + 0 = (fc 4 0).toInt
      omega) (fun x hx => by
      obtain ⟨y, y1, y2⟩ := hx
      cases y1
      apply Int32.toInt_inj.mp
      rw [y2]
      rfl) zPcv17 q2 m23
    exact ⟨x, hx, Or.inl ⟨_, ρ3, hw_keep (a := 560) hΦ hT6 rfl (fun j _ => by rw [f10]) (by rw [f12]) (by rw [f13]) (fun j h1 h2 => by omega), w3 ws' q1, g3, l3⟩⟩
  rcases List.mem_cons.mp hTm with hj | hTm
  · rw [hj]
    refine ⟨_, rfl, fun ws' v q1 q2 q3 => ?_⟩
    obtain ⟨x, hx⟩ := hl_int_ok (a := _) rfl q3
    obtain ⟨ρ3, g3, l3, w3⟩ := hw_post (tys := tys) (as := as) (I := zI0) (fcN := hw_N fc' 20 22 23 (fun j => if j = 0 then fc 4 0 else 3)) hex (T := zPb 18) rfl (hw_ren (by decide +kernel) rfl rfl rfl) (fun x hx => by
      obtain ⟨y, r, y1, y2, y3⟩ := hx
      cases y1
      have y2 : ρ'[34]? = some r := y2
      rw [m34] at y2
      cases y2
      apply Int32.toInt_inj.mp
      rw [y3]
      show 1 * (fc 4 0).toInt + 0 = (fc 4 0).toInt
      omega) (fun x hx => by
      obtain ⟨y, y1, y2⟩ := hx
      cases y1
      apply Int32.toInt_inj.mp
      rw [y2]
      rfl) zPcv18 q2 m23
    exact ⟨x, hx, Or.inl ⟨_, ρ3, hw_keep (a := 560) hΦ hT3 rfl (f3) (f4) (f5) (fun j h1 h2 => by omega), w3 ws' q1, g3, l3⟩⟩
  rcases List.mem_cons.mp hTm with hj | hTm
  · rw [hj]
    refine ⟨_, rfl, fun ws' v q1 q2 q3 => ?_⟩
    obtain ⟨x, hx⟩ := hl_int_ok (a := _) rfl q3
    obtain ⟨ρ3, g3, l3, w3⟩ := hw_post (tys := tys) (as := as) (I := zI0) (fcN := hw_N fc' 20 22 23 (fun j => if j = 0 then fc 4 0 else 7)) hex (T := zPb 19) rfl (hw_ren (by decide +kernel) rfl rfl rfl) (fun x hx => by
      obtain ⟨y, r, y1, y2, y3⟩ := hx
      cases y1
      have y2 : ρ'[34]? = some r := y2
      rw [m34] at y2
      cases y2
      apply Int32.toInt_inj.mp
      rw [y3]
      show 1 * (fc 4 0).toInt + 0 = (fc 4 0).toInt
      omega) (fun x hx => by
      obtain ⟨y, y1, y2⟩ := hx
      cases y1
      apply Int32.toInt_inj.mp
      rw [y2]
      rfl) zPcv19 q2 m23
    exact ⟨x, hx, Or.inl ⟨_, ρ3, hw_keep (a := 560) hΦ hT7 rfl (f3) (f4) (f5) (fun j h1 h2 => by omega), w3 ws' q1, g3, l3⟩⟩
  cases hTm
end zPBEACH
section zQBEACH
variable {ex : Nat → Value} {D : va_G} {as : List Nat} {tys : List (ClassId × FieldType)} {t : Int} {ax : Nat}
noncomputable def zQb (j : Nat) : qG × List qE × Option qV := zQk30.2.2.2.2.2.getD j (([], []), [], none)
set_option maxRecDepth 100000 in
theorem zQcv : (match q_lde 0 ((zI1.1.1 ++ [(0, 7), (0, 7)], zI1.1.2), zI1.2.set 8 (.inl (0, [qa 44, qa 45])), .inl none) [((zQk30.2.2.1, zQk30.2.2.2.1, .inl none), [(23, qa 23), (34, qa 44), (35, qa 45)], [])] with | some _ => true | none => false) = true := by decide +kernel
set_option maxRecDepth 100000 in
theorem zQcv0 : (match q_lde 0 ((zQb 0).1, ((zQb 0).2.1.map (q_ren hw_r)).set 8 (.inr (.inr (.inr (0, 2, 4, [], [])))), .inl none) [((zI0.1, zI0.2, .inl none), [(23, .inr (.inl (23, 1, 0)))], [])] with | some _ => true | none => false) = true := by decide +kernel
set_option maxRecDepth 100000 in
theorem zQcv1 : (match q_lde 0 ((zQb 1).1, ((zQb 1).2.1.map (q_ren hw_r)).set 8 (.inr (.inr (.inr (0, 2, 4, [], [])))), .inl none) [((zI1.1, zI1.2, .inl none), [(23, .inr (.inl (23, 1, 0)))], [])] with | some _ => true | none => false) = true := by decide +kernel
set_option maxRecDepth 100000 in
theorem zQcv2 : (match q_lde 0 ((zQb 2).1, ((zQb 2).2.1.map (q_ren hw_r)).set 8 (.inr (.inr (.inr (0, 2, 4, [], [])))), .inl none) [((zI1.1, zI1.2, .inl none), [(23, .inr (.inl (23, 1, 0)))], [])] with | some _ => true | none => false) = true := by decide +kernel
set_option maxRecDepth 100000 in
theorem zQcv3 : (match q_lde 0 ((zQb 3).1, ((zQb 3).2.1.map (q_ren hw_r)).set 8 (.inr (.inr (.inr (0, 2, 4, [], [])))), .inl none) [((zI0.1, zI0.2, .inl none), [(23, .inr (.inl (23, 1, 0)))], [])] with | some _ => true | none => false) = true := by decide +kernel
set_option maxRecDepth 100000 in
theorem zQcv4 : (match q_lde 0 ((zQb 4).1, ((zQb 4).2.1.map (q_ren hw_r)).set 8 (.inr (.inr (.inr (0, 2, 4, [], [])))), .inl none) [((zI1.1, zI1.2, .inl none), [(23, .inr (.inl (23, 1, 0)))], [])] with | some _ => true | none => false) = true := by decide +kernel
set_option maxRecDepth 100000 in
theorem zQcv5 : (match q_lde 0 ((zQb 5).1, ((zQb 5).2.1.map (q_ren hw_r)).set 8 (.inr (.inr (.inr (0, 2, 4, [], [])))), .inl none) [((zI1.1, zI1.2, .inl none), [(23, .inr (.inl (23, 1, 0)))], [])] with | some _ => true | none => false) = true := by decide +kernel
set_option maxRecDepth 100000 in
theorem zQcv6 : (match q_lde 0 ((zQb 6).1, ((zQb 6).2.1.map (q_ren hw_r)).set 8 (.inr (.inr (.inr (0, 2, 4, [], [])))), .inl none) [((zI1.1, zI1.2, .inl none), [(23, .inr (.inl (23, 1, 0)))], [])] with | some _ => true | none => false) = true := by decide +kernel
set_option maxRecDepth 100000 in
theorem zQcv7 : (match q_lde 0 ((zQb 7).1, ((zQb 7).2.1.map (q_ren hw_r)).set 8 (.inr (.inr (.inr (0, 2, 4, [], [])))), .inl none) [((zI0.1, zI0.2, .inl none), [(23, .inr (.inl (23, 1, 0)))], [])] with | some _ => true | none => false) = true := by decide +kernel
set_option maxRecDepth 100000 in
theorem zQcv8 : (match q_lde 0 ((zQb 8).1, ((zQb 8).2.1.map (q_ren hw_r)).set 8 (.inr (.inr (.inr (0, 2, 4, [], [])))), .inl none) [((zI1.1, zI1.2, .inl none), [(23, .inr (.inl (23, 1, 0)))], [])] with | some _ => true | none => false) = true := by decide +kernel
set_option maxRecDepth 100000 in
theorem zQcv9 : (match q_lde 0 ((zQb 9).1, ((zQb 9).2.1.map (q_ren hw_r)).set 8 (.inr (.inr (.inr (0, 2, 4, [], [])))), .inl none) [((zI0.1, zI0.2, .inl none), [(23, .inr (.inl (23, 1, 0)))], [])] with | some _ => true | none => false) = true := by decide +kernel
set_option maxRecDepth 100000 in
theorem zQcv10 : (match q_lde 0 ((zQb 10).1, ((zQb 10).2.1.map (q_ren hw_r)).set 8 (.inr (.inr (.inr (0, 2, 4, [], [])))), .inl none) [((zI1.1, zI1.2, .inl none), [(23, .inr (.inl (23, 1, 0)))], [])] with | some _ => true | none => false) = true := by decide +kernel
set_option maxRecDepth 100000 in
theorem zQcv11 : (match q_lde 0 ((zQb 11).1, ((zQb 11).2.1.map (q_ren hw_r)).set 8 (.inr (.inr (.inr (0, 2, 4, [], [])))), .inl none) [((zI0.1, zI0.2, .inl none), [(23, .inr (.inl (23, 1, 0)))], [])] with | some _ => true | none => false) = true := by decide +kernel
set_option maxRecDepth 100000 in
theorem zQcv12 : (match q_lde 0 ((zQb 12).1, ((zQb 12).2.1.map (q_ren hw_r)).set 8 (.inr (.inr (.inr (0, 2, 4, [], [])))), .inl none) [((zI1.1, zI1.2, .inl none), [(23, .inr (.inl (23, 1, 0)))], [])] with | some _ => true | none => false) = true := by decide +kernel
set_option maxRecDepth 100000 in
theorem zQcv13 : (match q_lde 0 ((zQb 13).1, ((zQb 13).2.1.map (q_ren hw_r)).set 8 (.inr (.inr (.inr (0, 2, 4, [], [])))), .inl none) [((zI0.1, zI0.2, .inl none), [(23, .inr (.inl (23, 1, 0)))], [])] with | some _ => true | none => false) = true := by decide +kernel
set_option maxRecDepth 100000 in
theorem zQcv14 : (match q_lde 0 ((zQb 14).1, ((zQb 14).2.1.map (q_ren hw_r)).set 8 (.inr (.inr (.inr (0, 2, 4, [], [])))), .inl none) [((zI0.1, zI0.2, .inl none), [(23, .inr (.inl (23, 1, 0)))], [])] with | some _ => true | none => false) = true := by decide +kernel
set_option maxRecDepth 100000 in
theorem zQcv15 : (match q_lde 0 ((zQb 15).1, ((zQb 15).2.1.map (q_ren hw_r)).set 8 (.inr (.inr (.inr (0, 2, 4, [], [])))), .inl none) [((zI1.1, zI1.2, .inl none), [(23, .inr (.inl (23, 1, 0)))], [])] with | some _ => true | none => false) = true := by decide +kernel
set_option maxRecDepth 100000 in
theorem zQcv16 : (match q_lde 0 ((zQb 16).1, ((zQb 16).2.1.map (q_ren hw_r)).set 8 (.inr (.inr (.inr (0, 2, 4, [], [])))), .inl none) [((zI0.1, zI0.2, .inl none), [(23, .inr (.inl (23, 1, 0)))], [])] with | some _ => true | none => false) = true := by decide +kernel
set_option maxRecDepth 100000 in
theorem zQcv17 : (match q_lde 0 ((zQb 17).1, ((zQb 17).2.1.map (q_ren hw_r)).set 8 (.inr (.inr (.inr (0, 2, 4, [], [])))), .inl none) [((zI1.1, zI1.2, .inl none), [(23, .inr (.inl (23, 1, 0)))], [])] with | some _ => true | none => false) = true := by decide +kernel
set_option maxRecDepth 100000 in
theorem zQcv18 : (match q_lde 0 ((zQb 18).1, ((zQb 18).2.1.map (q_ren hw_r)).set 8 (.inr (.inr (.inr (0, 2, 4, [], [])))), .inl none) [((zI1.1, zI1.2, .inl none), [(23, .inr (.inl (23, 1, 0)))], [])] with | some _ => true | none => false) = true := by decide +kernel
set_option maxRecDepth 100000 in
theorem zQcv19 : (match q_lde 0 ((zQb 19).1, ((zQb 19).2.1.map (q_ren hw_r)).set 8 (.inr (.inr (.inr (0, 2, 4, [], [])))), .inl none) [((zI1.1, zI1.2, .inl none), [(23, .inr (.inl (23, 1, 0)))], [])] with | some _ => true | none => false) = true := by decide +kernel
set_option maxRecDepth 100000 in
theorem zM1_beach (hT : zk_t) (hA : zk_a) (hex : ∀ j, ex j = .null ∨ ∃ a, ex j = .ref a) (hax : as[0]? = some ax) : hl_M ex D as tys 69 12 186 (hl_I ex as tys zΦ1 zI1 23 t) [.ref ax] (fun _ ws => hl_I ex as tys zΦ0 zI0 23 t ws ∨ hl_I ex as tys zΦ1 zI1 23 t ws) := by
  rintro ws ⟨fc, ρ, hΦ, h1, h2, h3⟩
  have hN : ρ.length = 44 := h2.1.symm
  have t0 := hΦ.1 0 (by omega)
  have t1 := hΦ.1 1 (by omega)
  have hw1 : qy_w ρ ex (hw_fc fc 0 0) tys as zI1.2 ws := h1.ren (r := fun κ => κ) (fc' := hw_fc fc 0 0) (fun t N κ kn ov hm => by
    have hk := Nat.le_of_ble_eq_true (q_ghs_ok (f := fun κ => Nat.ble κ 6) (by decide +kernel) hm)
    show hw_fc fc 0 0 κ = fc κ
    unfold hw_fc
    rw [if_neg (by omega), if_neg (by omega), if_neg (by omega), if_neg (by omega), if_neg (by omega), if_neg (by omega)])
  have he : qe ρ (ρ ++ [(fc 4 0).toInt, (fc 4 1).toInt]) := ⟨_, rfl⟩
  have e4 : hw_fc fc 0 0 4 = fc 4 := rfl
  have hw2 : qy_w (ρ ++ [(fc 4 0).toInt, (fc 4 1).toInt]) ex (hw_fc fc 0 0) tys as (zI1.2.set 8 (.inl (0, [qa 44, qa 45]))) ws := by
    refine (hw1.mono he).chg (i := 8) (e := .inr (.inr (.inr (0, 2, 4, [], [])))) rfl (fun q hq => ?_)
    match q, hq with
    | .inl (cA, n, .inl f), ⟨k1, k2, k3, k4, k5⟩ =>
      have k5 : ∀ j, j < 2 → f j = fc 4 j := k5
      refine ⟨k1, k2, k3, fun j a ha => ?_⟩
      match j, ha with
      | 0, ha => cases ha; rw [k5 0 (by omega)]; exact qy_kns (q_ap0 hN)
      | 1, ha => cases ha; rw [k5 1 (by omega)]; exact qy_kns (q_ap1 hN)
      | j + 2, ha => cases ha
  have hg2 : qy_g (ρ ++ [(fc 4 0).toInt, (fc 4 1).toInt]) (zI1.1.1 ++ [(0, 7), (0, 7)], zI1.1.2) := qy_g.ext h2 rfl (fun j r hj => by
    match j, hj with
    | 0, hj => cases hj; exact ⟨_, rfl, t0⟩
    | 1, hj => cases hj; exact ⟨_, rfl, t1⟩
    | j + 2, hj => cases hj)
  obtain ⟨ρ2, hL, hg3, hw3⟩ := hl_conv (fc := hw_fc fc 0 0) (tys := tys) (as := as) (I := (zQk30.2.2.1, zQk30.2.2.2.1)) (W := zI1.2.set 8 (.inl (0, [qa 44, qa 45]))) (lk := ([(23, qa 23), (34, qa 44), (35, qa 45)], [])) hex zQcv hg2
  have l23 : ρ2[23]? = some t := by rw [hL.n (i := 23) (s := 23) (d := 0) List.mem_cons_self (he.at h3)]; exact congrArg some (by omega)
  have l34 : ρ2[34]? = some (fc 4 0).toInt := by rw [hL.n (i := 34) (s := 44) (d := 0) (List.mem_cons_of_mem _ List.mem_cons_self) (q_ap0 hN)]; exact congrArg some (by omega)
  have l35 : ρ2[35]? = some (fc 4 1).toInt := by rw [hL.n (i := 35) (s := 45) (d := 0) (List.mem_cons_of_mem _ (List.mem_cons_of_mem _ List.mem_cons_self)) (q_ap1 hN)]; exact congrArg some (by omega)
  have hV := zQh30 ex (hw_Γ fc 0 1 0, fun κ => κ ≤ 4) D as tys hT hA (zQhand hT hA (fun f f' => hw_Γ1 f f') (fun κ hκ => hκ))
  have hVT : qy_T ex (hw_Γ fc 0 1 0, fun κ => κ ≤ 4) D as tys (zQk30.2.1, zQk30.1, []) zQk30.2.2.1 zQk30.2.2.2.1 zQk30.2.2.2.2.1 [] 0 (q_po zQk30) := hV
  obtain ⟨hM, -, -⟩ := qs_vc (ex := ex) hT hA (k := 0) (pc := 336) rfl
  refine ⟨hw_fc fc 0 0, ρ2, zQk30.2.2.1, zQk30.2.2.2.1, zQk30.2.2.2.2.1, _, (hVT.TP (ρ := ρ2) (fc := hw_fc fc 0 0) (hw_Γ0 (by decide) (by decide))).dep (by decide), hw3 ws hw2, hg3, ⟨⟨ax, hax, rfl⟩, trivial⟩, ⟨_, hM, rfl⟩, ⟨0, 0, _, _, rfl, rfl⟩, fun fc' ρ' o ho => ?_⟩
  obtain ⟨hmem, hq, hγ⟩ := ho
  obtain ⟨f1, ⟨M, hM1, hM2, hM3, hM4, hM5, hM6, hM7⟩, f3, f4, f5⟩ := hγ.1
  obtain ⟨T, hTm, e⟩ := List.mem_map.mp hmem
  have m23 := hq.at l23
  have m34 := hq.at l34
  have m35 := hq.at l35
  have f10 : fc' 0 = fc 0 := f1 0 (by omega)
  have f12 : fc' 2 = fc 2 := f1 2 (by omega)
  have f13 : fc' 3 = fc 3 := f1 3 (by omega)
  have hTm : T ∈ [zQb 0, zQb 1, zQb 2, zQb 3, zQb 4, zQb 5, zQb 6, zQb 7, zQb 8, zQb 9, zQb 10, zQb 11, zQb 12, zQb 13, zQb 14, zQb 15, zQb 16, zQb 17, zQb 18, zQb 19] := hTm
  rw [← e]
  have hT0 : ∀ j, j < 2 → 0 ≤ ((fun j => if j = 1 then fc 4 1 else 0 : Nat → Int32) j).toInt ∧ ((fun j => if j = 1 then fc 4 1 else 0 : Nat → Int32) j).toInt ≤ 7 := by
    intro j hj
    show 0 ≤ (if j = 1 then fc 4 1 else (0 : Int32)).toInt ∧ (if j = 1 then fc 4 1 else (0 : Int32)).toInt ≤ 7
    split
    · exact t1
    · exact ⟨by decide, by decide⟩
  have hT1 : ∀ j, j < 2 → 0 ≤ ((fun j => if j = 1 then fc 4 1 else 1 : Nat → Int32) j).toInt ∧ ((fun j => if j = 1 then fc 4 1 else 1 : Nat → Int32) j).toInt ≤ 7 := by
    intro j hj
    show 0 ≤ (if j = 1 then fc 4 1 else (1 : Int32)).toInt ∧ (if j = 1 then fc 4 1 else (1 : Int32)).toInt ≤ 7
    split
    · exact t1
    · exact ⟨by decide, by decide⟩
  have hT2 : ∀ j, j < 2 → 0 ≤ ((fun j => if j = 1 then fc 4 1 else 2 : Nat → Int32) j).toInt ∧ ((fun j => if j = 1 then fc 4 1 else 2 : Nat → Int32) j).toInt ≤ 7 := by
    intro j hj
    show 0 ≤ (if j = 1 then fc 4 1 else (2 : Int32)).toInt ∧ (if j = 1 then fc 4 1 else (2 : Int32)).toInt ≤ 7
    split
    · exact t1
    · exact ⟨by decide, by decide⟩
  have hT3 : ∀ j, j < 2 → 0 ≤ ((fun j => if j = 1 then fc 4 1 else 3 : Nat → Int32) j).toInt ∧ ((fun j => if j = 1 then fc 4 1 else 3 : Nat → Int32) j).toInt ≤ 7 := by
    intro j hj
    show 0 ≤ (if j = 1 then fc 4 1 else (3 : Int32)).toInt ∧ (if j = 1 then fc 4 1 else (3 : Int32)).toInt ≤ 7
    split
    · exact t1
    · exact ⟨by decide, by decide⟩
  have hT4 : ∀ j, j < 2 → 0 ≤ ((fun j => if j = 1 then fc 4 1 else 4 : Nat → Int32) j).toInt ∧ ((fun j => if j = 1 then fc 4 1 else 4 : Nat → Int32) j).toInt ≤ 7 := by
    intro j hj
    show 0 ≤ (if j = 1 then fc 4 1 else (4 : Int32)).toInt ∧ (if j = 1 then fc 4 1 else (4 : Int32)).toInt ≤ 7
    split
    · exact t1
    · exact ⟨by decide, by decide⟩
  have hT5 : ∀ j, j < 2 → 0 ≤ ((fun j => if j = 1 then fc 4 1 else 5 : Nat → Int32) j).toInt ∧ ((fun j => if j = 1 then fc 4 1 else 5 : Nat → Int32) j).toInt ≤ 7 := by
    intro j hj
    show 0 ≤ (if j = 1 then fc 4 1 else (5 : Int32)).toInt ∧ (if j = 1 then fc 4 1 else (5 : Int32)).toInt ≤ 7
    split
    · exact t1
    · exact ⟨by decide, by decide⟩
  have hT6 : ∀ j, j < 2 → 0 ≤ ((fun j => if j = 1 then fc 4 1 else 6 : Nat → Int32) j).toInt ∧ ((fun j => if j = 1 then fc 4 1 else 6 : Nat → Int32) j).toInt ≤ 7 := by
    intro j hj
    show 0 ≤ (if j = 1 then fc 4 1 else (6 : Int32)).toInt ∧ (if j = 1 then fc 4 1 else (6 : Int32)).toInt ≤ 7
    split
    · exact t1
    · exact ⟨by decide, by decide⟩
  have hT7 : ∀ j, j < 2 → 0 ≤ ((fun j => if j = 1 then fc 4 1 else 7 : Nat → Int32) j).toInt ∧ ((fun j => if j = 1 then fc 4 1 else 7 : Nat → Int32) j).toInt ≤ 7 := by
    intro j hj
    show 0 ≤ (if j = 1 then fc 4 1 else (7 : Int32)).toInt ∧ (if j = 1 then fc 4 1 else (7 : Int32)).toInt ≤ 7
    split
    · exact t1
    · exact ⟨by decide, by decide⟩
  rcases List.mem_cons.mp hTm with hj | hTm
  · rw [hj]
    refine ⟨_, rfl, fun ws' v q1 q2 q3 => ?_⟩
    obtain ⟨x, hx⟩ := hl_int_ok (a := _) rfl q3
    obtain ⟨ρ3, g3, l3, w3⟩ := hw_post (tys := tys) (as := as) (I := zI0) (fcN := hw_N fc' 0 2 3 (fun j => if j = 1 then fc 4 1 else 0)) hex (T := zQb 0) rfl (hw_ren (by decide +kernel) rfl rfl rfl) (fun x hx => by
      obtain ⟨y, y1, y2⟩ := hx
      cases y1
      apply Int32.toInt_inj.mp
      rw [y2]
      rfl) (fun x hx => by
      obtain ⟨y, r, y1, y2, y3⟩ := hx
      cases y1
      have y2 : ρ'[35]? = some r := y2
      rw [m35] at y2
      cases y2
      apply Int32.toInt_inj.mp
      rw [y3]
      show 1 * (fc 4 1).toInt + 0 = (fc 4 1).toInt
      omega) zQcv0 q2 m23
    exact ⟨x, hx, Or.inl ⟨_, ρ3, hw_even hT0 (by show ¬ ((0 : Int32)).toInt % 2 = 1; decide), w3 ws' q1, g3, l3⟩⟩
  rcases List.mem_cons.mp hTm with hj | hTm
  · rw [hj]
    refine ⟨_, rfl, fun ws' v q1 q2 q3 => ?_⟩
    obtain ⟨x, hx⟩ := hl_int_ok (a := _) rfl q3
    obtain ⟨ρ3, g3, l3, w3⟩ := hw_post (tys := tys) (as := as) (I := zI1) (fcN := hw_N fc' 0 2 3 (fun j => if j = 1 then fc 4 1 else 0)) hex (T := zQb 1) rfl (hw_ren (by decide +kernel) rfl rfl rfl) (fun x hx => by
      obtain ⟨y, y1, y2⟩ := hx
      cases y1
      apply Int32.toInt_inj.mp
      rw [y2]
      rfl) (fun x hx => by
      obtain ⟨y, r, y1, y2, y3⟩ := hx
      cases y1
      have y2 : ρ'[35]? = some r := y2
      rw [m35] at y2
      cases y2
      apply Int32.toInt_inj.mp
      rw [y3]
      show 1 * (fc 4 1).toInt + 0 = (fc 4 1).toInt
      omega) zQcv1 q2 m23
    exact ⟨x, hx, Or.inr ⟨_, ρ3, hw_keep (a := 0) hΦ hT0 rfl (fun j _ => by rw [f10]) (by rw [f12]) (by rw [f13]) (fun j h1 h2 => by omega), w3 ws' q1, g3, l3⟩⟩
  rcases List.mem_cons.mp hTm with hj | hTm
  · rw [hj]
    refine ⟨_, rfl, fun ws' v q1 q2 q3 => ?_⟩
    obtain ⟨x, hx⟩ := hl_int_ok (a := _) rfl q3
    obtain ⟨ρ3, g3, l3, w3⟩ := hw_post (tys := tys) (as := as) (I := zI1) (fcN := hw_N fc' 20 22 23 (fun j => if j = 1 then fc 4 1 else 1)) hex (T := zQb 2) rfl (hw_ren (by decide +kernel) rfl rfl rfl) (fun x hx => by
      obtain ⟨y, y1, y2⟩ := hx
      cases y1
      apply Int32.toInt_inj.mp
      rw [y2]
      rfl) (fun x hx => by
      obtain ⟨y, r, y1, y2, y3⟩ := hx
      cases y1
      have y2 : ρ'[35]? = some r := y2
      rw [m35] at y2
      cases y2
      apply Int32.toInt_inj.mp
      rw [y3]
      show 1 * (fc 4 1).toInt + 0 = (fc 4 1).toInt
      omega) zQcv2 q2 m23
    exact ⟨x, hx, Or.inr ⟨_, ρ3, hw_keep (a := 0) hΦ hT1 rfl (f3) (f4) (f5) (fun j h1 h2 => by omega), w3 ws' q1, g3, l3⟩⟩
  rcases List.mem_cons.mp hTm with hj | hTm
  · rw [hj]
    refine ⟨_, rfl, fun ws' v q1 q2 q3 => ?_⟩
    obtain ⟨x, hx⟩ := hl_int_ok (a := _) rfl q3
    obtain ⟨ρ3, g3, l3, w3⟩ := hw_post (tys := tys) (as := as) (I := zI0) (fcN := hw_N fc' 10 12 13 (fun j => if j = 1 then fc 4 1 else 1)) hex (T := zQb 3) rfl (hw_ren (by decide +kernel) rfl rfl rfl) (fun x hx => by
      obtain ⟨y, y1, y2⟩ := hx
      cases y1
      apply Int32.toInt_inj.mp
      rw [y2]
      rfl) (fun x hx => by
      obtain ⟨y, r, y1, y2, y3⟩ := hx
      cases y1
      have y2 : ρ'[35]? = some r := y2
      rw [m35] at y2
      cases y2
      apply Int32.toInt_inj.mp
      rw [y3]
      show 1 * (fc 4 1).toInt + 0 = (fc 4 1).toInt
      omega) zQcv3 q2 m23
    exact ⟨x, hx, Or.inl ⟨_, ρ3, hw_new hT1 hM1 hM2 hM3 hM4, w3 ws' q1, g3, l3⟩⟩
  rcases List.mem_cons.mp hTm with hj | hTm
  · rw [hj]
    refine ⟨_, rfl, fun ws' v q1 q2 q3 => ?_⟩
    obtain ⟨x, hx⟩ := hl_int_ok (a := _) rfl q3
    obtain ⟨ρ3, g3, l3, w3⟩ := hw_post (tys := tys) (as := as) (I := zI1) (fcN := hw_N fc' 10 12 13 (fun j => if j = 1 then fc 4 1 else 1)) hex (T := zQb 4) rfl (hw_ren (by decide +kernel) rfl rfl rfl) (fun x hx => by
      obtain ⟨y, y1, y2⟩ := hx
      cases y1
      apply Int32.toInt_inj.mp
      rw [y2]
      rfl) (fun x hx => by
      obtain ⟨y, r, y1, y2, y3⟩ := hx
      cases y1
      have y2 : ρ'[35]? = some r := y2
      rw [m35] at y2
      cases y2
      apply Int32.toInt_inj.mp
      rw [y3]
      show 1 * (fc 4 1).toInt + 0 = (fc 4 1).toInt
      omega) zQcv4 q2 m23
    exact ⟨x, hx, Or.inr ⟨_, ρ3, hw_keep (a := 0) hΦ hT1 rfl (hM5) (hM6) (hM7) (fun j h1 h2 => by omega), w3 ws' q1, g3, l3⟩⟩
  rcases List.mem_cons.mp hTm with hj | hTm
  · rw [hj]
    refine ⟨_, rfl, fun ws' v q1 q2 q3 => ?_⟩
    obtain ⟨x, hx⟩ := hl_int_ok (a := _) rfl q3
    obtain ⟨ρ3, g3, l3, w3⟩ := hw_post (tys := tys) (as := as) (I := zI1) (fcN := hw_N fc' 0 2 3 (fun j => if j = 1 then fc 4 1 else 4)) hex (T := zQb 5) rfl (hw_ren (by decide +kernel) rfl rfl rfl) (fun x hx => by
      obtain ⟨y, y1, y2⟩ := hx
      cases y1
      apply Int32.toInt_inj.mp
      rw [y2]
      rfl) (fun x hx => by
      obtain ⟨y, r, y1, y2, y3⟩ := hx
      cases y1
      have y2 : ρ'[35]? = some r := y2
      rw [m35] at y2
      cases y2
      apply Int32.toInt_inj.mp
      rw [y3]
      show 1 * (fc 4 1).toInt + 0 = (fc 4 1).toInt
      omega) zQcv5 q2 m23
    exact ⟨x, hx, Or.inr ⟨_, ρ3, hw_keep (a := 0) hΦ hT4 rfl (fun j _ => by rw [f10]) (by rw [f12]) (by rw [f13]) (fun j h1 h2 => by omega), w3 ws' q1, g3, l3⟩⟩
  rcases List.mem_cons.mp hTm with hj | hTm
  · rw [hj]
    refine ⟨_, rfl, fun ws' v q1 q2 q3 => ?_⟩
    obtain ⟨x, hx⟩ := hl_int_ok (a := _) rfl q3
    obtain ⟨ρ3, g3, l3, w3⟩ := hw_post (tys := tys) (as := as) (I := zI1) (fcN := hw_N fc' 0 2 3 (fun j => if j = 1 then fc 4 1 else 2)) hex (T := zQb 6) rfl (hw_ren (by decide +kernel) rfl rfl rfl) (fun x hx => by
      obtain ⟨y, y1, y2⟩ := hx
      cases y1
      apply Int32.toInt_inj.mp
      rw [y2]
      rfl) (fun x hx => by
      obtain ⟨y, r, y1, y2, y3⟩ := hx
      cases y1
      have y2 : ρ'[35]? = some r := y2
      rw [m35] at y2
      cases y2
      apply Int32.toInt_inj.mp
      rw [y3]
      show 1 * (fc 4 1).toInt + 0 = (fc 4 1).toInt
      omega) zQcv6 q2 m23
    exact ⟨x, hx, Or.inr ⟨_, ρ3, hw_keep (a := 0) hΦ hT2 rfl (fun j _ => by rw [f10]) (by rw [f12]) (by rw [f13]) (fun j h1 h2 => by omega), w3 ws' q1, g3, l3⟩⟩
  rcases List.mem_cons.mp hTm with hj | hTm
  · rw [hj]
    refine ⟨_, rfl, fun ws' v q1 q2 q3 => ?_⟩
    obtain ⟨x, hx⟩ := hl_int_ok (a := _) rfl q3
    obtain ⟨ρ3, g3, l3, w3⟩ := hw_post (tys := tys) (as := as) (I := zI0) (fcN := hw_N fc' 10 12 13 (fun j => if j = 1 then fc 4 1 else 5)) hex (T := zQb 7) rfl (hw_ren (by decide +kernel) rfl rfl rfl) (fun x hx => by
      obtain ⟨y, y1, y2⟩ := hx
      cases y1
      apply Int32.toInt_inj.mp
      rw [y2]
      rfl) (fun x hx => by
      obtain ⟨y, r, y1, y2, y3⟩ := hx
      cases y1
      have y2 : ρ'[35]? = some r := y2
      rw [m35] at y2
      cases y2
      apply Int32.toInt_inj.mp
      rw [y3]
      show 1 * (fc 4 1).toInt + 0 = (fc 4 1).toInt
      omega) zQcv7 q2 m23
    exact ⟨x, hx, Or.inl ⟨_, ρ3, hw_new hT5 hM1 hM2 hM3 hM4, w3 ws' q1, g3, l3⟩⟩
  rcases List.mem_cons.mp hTm with hj | hTm
  · rw [hj]
    refine ⟨_, rfl, fun ws' v q1 q2 q3 => ?_⟩
    obtain ⟨x, hx⟩ := hl_int_ok (a := _) rfl q3
    obtain ⟨ρ3, g3, l3, w3⟩ := hw_post (tys := tys) (as := as) (I := zI1) (fcN := hw_N fc' 10 12 13 (fun j => if j = 1 then fc 4 1 else 5)) hex (T := zQb 8) rfl (hw_ren (by decide +kernel) rfl rfl rfl) (fun x hx => by
      obtain ⟨y, y1, y2⟩ := hx
      cases y1
      apply Int32.toInt_inj.mp
      rw [y2]
      rfl) (fun x hx => by
      obtain ⟨y, r, y1, y2, y3⟩ := hx
      cases y1
      have y2 : ρ'[35]? = some r := y2
      rw [m35] at y2
      cases y2
      apply Int32.toInt_inj.mp
      rw [y3]
      show 1 * (fc 4 1).toInt + 0 = (fc 4 1).toInt
      omega) zQcv8 q2 m23
    exact ⟨x, hx, Or.inr ⟨_, ρ3, hw_keep (a := 0) hΦ hT5 rfl (hM5) (hM6) (hM7) (fun j h1 h2 => by omega), w3 ws' q1, g3, l3⟩⟩
  rcases List.mem_cons.mp hTm with hj | hTm
  · rw [hj]
    refine ⟨_, rfl, fun ws' v q1 q2 q3 => ?_⟩
    obtain ⟨x, hx⟩ := hl_int_ok (a := _) rfl q3
    obtain ⟨ρ3, g3, l3, w3⟩ := hw_post (tys := tys) (as := as) (I := zI0) (fcN := hw_N fc' 10 12 13 (fun j => if j = 1 then fc 4 1 else 3)) hex (T := zQb 9) rfl (hw_ren (by decide +kernel) rfl rfl rfl) (fun x hx => by
      obtain ⟨y, y1, y2⟩ := hx
      cases y1
      apply Int32.toInt_inj.mp
      rw [y2]
      rfl) (fun x hx => by
      obtain ⟨y, r, y1, y2, y3⟩ := hx
      cases y1
      have y2 : ρ'[35]? = some r := y2
      rw [m35] at y2
      cases y2
      apply Int32.toInt_inj.mp
      rw [y3]
      show 1 * (fc 4 1).toInt + 0 = (fc 4 1).toInt
      omega) zQcv9 q2 m23
    exact ⟨x, hx, Or.inl ⟨_, ρ3, hw_new hT3 hM1 hM2 hM3 hM4, w3 ws' q1, g3, l3⟩⟩
  rcases List.mem_cons.mp hTm with hj | hTm
  · rw [hj]
    refine ⟨_, rfl, fun ws' v q1 q2 q3 => ?_⟩
    obtain ⟨x, hx⟩ := hl_int_ok (a := _) rfl q3
    obtain ⟨ρ3, g3, l3, w3⟩ := hw_post (tys := tys) (as := as) (I := zI1) (fcN := hw_N fc' 10 12 13 (fun j => if j = 1 then fc 4 1 else 3)) hex (T := zQb 10) rfl (hw_ren (by decide +kernel) rfl rfl rfl) (fun x hx => by
      obtain ⟨y, y1, y2⟩ := hx
      cases y1
      apply Int32.toInt_inj.mp
      rw [y2]
      rfl) (fun x hx => by
      obtain ⟨y, r, y1, y2, y3⟩ := hx
      cases y1
      have y2 : ρ'[35]? = some r := y2
      rw [m35] at y2
      cases y2
      apply Int32.toInt_inj.mp
      rw [y3]
      show 1 * (fc 4 1).toInt + 0 = (fc 4 1).toInt
      omega) zQcv10 q2 m23
    exact ⟨x, hx, Or.inr ⟨_, ρ3, hw_keep (a := 0) hΦ hT3 rfl (hM5) (hM6) (hM7) (fun j h1 h2 => by omega), w3 ws' q1, g3, l3⟩⟩
  rcases List.mem_cons.mp hTm with hj | hTm
  · rw [hj]
    refine ⟨_, rfl, fun ws' v q1 q2 q3 => ?_⟩
    obtain ⟨x, hx⟩ := hl_int_ok (a := _) rfl q3
    obtain ⟨ρ3, g3, l3, w3⟩ := hw_post (tys := tys) (as := as) (I := zI0) (fcN := hw_N fc' 10 12 13 (fun j => if j = 1 then fc 4 1 else 7)) hex (T := zQb 11) rfl (hw_ren (by decide +kernel) rfl rfl rfl) (fun x hx => by
      obtain ⟨y, y1, y2⟩ := hx
      cases y1
      apply Int32.toInt_inj.mp
      rw [y2]
      rfl) (fun x hx => by
      obtain ⟨y, r, y1, y2, y3⟩ := hx
      cases y1
      have y2 : ρ'[35]? = some r := y2
      rw [m35] at y2
      cases y2
      apply Int32.toInt_inj.mp
      rw [y3]
      show 1 * (fc 4 1).toInt + 0 = (fc 4 1).toInt
      omega) zQcv11 q2 m23
    exact ⟨x, hx, Or.inl ⟨_, ρ3, hw_new hT7 hM1 hM2 hM3 hM4, w3 ws' q1, g3, l3⟩⟩
  rcases List.mem_cons.mp hTm with hj | hTm
  · rw [hj]
    refine ⟨_, rfl, fun ws' v q1 q2 q3 => ?_⟩
    obtain ⟨x, hx⟩ := hl_int_ok (a := _) rfl q3
    obtain ⟨ρ3, g3, l3, w3⟩ := hw_post (tys := tys) (as := as) (I := zI1) (fcN := hw_N fc' 10 12 13 (fun j => if j = 1 then fc 4 1 else 7)) hex (T := zQb 12) rfl (hw_ren (by decide +kernel) rfl rfl rfl) (fun x hx => by
      obtain ⟨y, y1, y2⟩ := hx
      cases y1
      apply Int32.toInt_inj.mp
      rw [y2]
      rfl) (fun x hx => by
      obtain ⟨y, r, y1, y2, y3⟩ := hx
      cases y1
      have y2 : ρ'[35]? = some r := y2
      rw [m35] at y2
      cases y2
      apply Int32.toInt_inj.mp
      rw [y3]
      show 1 * (fc 4 1).toInt + 0 = (fc 4 1).toInt
      omega) zQcv12 q2 m23
    exact ⟨x, hx, Or.inr ⟨_, ρ3, hw_keep (a := 0) hΦ hT7 rfl (hM5) (hM6) (hM7) (fun j h1 h2 => by omega), w3 ws' q1, g3, l3⟩⟩
  rcases List.mem_cons.mp hTm with hj | hTm
  · rw [hj]
    refine ⟨_, rfl, fun ws' v q1 q2 q3 => ?_⟩
    obtain ⟨x, hx⟩ := hl_int_ok (a := _) rfl q3
    obtain ⟨ρ3, g3, l3, w3⟩ := hw_post (tys := tys) (as := as) (I := zI0) (fcN := hw_N fc' 0 2 3 (fun j => if j = 1 then fc 4 1 else 4)) hex (T := zQb 13) rfl (hw_ren (by decide +kernel) rfl rfl rfl) (fun x hx => by
      obtain ⟨y, y1, y2⟩ := hx
      cases y1
      apply Int32.toInt_inj.mp
      rw [y2]
      rfl) (fun x hx => by
      obtain ⟨y, r, y1, y2, y3⟩ := hx
      cases y1
      have y2 : ρ'[35]? = some r := y2
      rw [m35] at y2
      cases y2
      apply Int32.toInt_inj.mp
      rw [y3]
      show 1 * (fc 4 1).toInt + 0 = (fc 4 1).toInt
      omega) zQcv13 q2 m23
    exact ⟨x, hx, Or.inl ⟨_, ρ3, hw_even hT4 (by show ¬ ((4 : Int32)).toInt % 2 = 1; decide), w3 ws' q1, g3, l3⟩⟩
  rcases List.mem_cons.mp hTm with hj | hTm
  · rw [hj]
    refine ⟨_, rfl, fun ws' v q1 q2 q3 => ?_⟩
    obtain ⟨x, hx⟩ := hl_int_ok (a := _) rfl q3
    obtain ⟨ρ3, g3, l3, w3⟩ := hw_post (tys := tys) (as := as) (I := zI0) (fcN := hw_N fc' 0 2 3 (fun j => if j = 1 then fc 4 1 else 2)) hex (T := zQb 14) rfl (hw_ren (by decide +kernel) rfl rfl rfl) (fun x hx => by
      obtain ⟨y, y1, y2⟩ := hx
      cases y1
      apply Int32.toInt_inj.mp
      rw [y2]
      rfl) (fun x hx => by
      obtain ⟨y, r, y1, y2, y3⟩ := hx
      cases y1
      have y2 : ρ'[35]? = some r := y2
      rw [m35] at y2
      cases y2
      apply Int32.toInt_inj.mp
      rw [y3]
      show 1 * (fc 4 1).toInt + 0 = (fc 4 1).toInt
      omega) zQcv14 q2 m23
    exact ⟨x, hx, Or.inl ⟨_, ρ3, hw_even hT2 (by show ¬ ((2 : Int32)).toInt % 2 = 1; decide), w3 ws' q1, g3, l3⟩⟩
  rcases List.mem_cons.mp hTm with hj | hTm
  · rw [hj]
    refine ⟨_, rfl, fun ws' v q1 q2 q3 => ?_⟩
    obtain ⟨x, hx⟩ := hl_int_ok (a := _) rfl q3
    obtain ⟨ρ3, g3, l3, w3⟩ := hw_post (tys := tys) (as := as) (I := zI1) (fcN := hw_N fc' 20 22 23 (fun j => if j = 1 then fc 4 1 else 5)) hex (T := zQb 15) rfl (hw_ren (by decide +kernel) rfl rfl rfl) (fun x hx => by
      obtain ⟨y, y1, y2⟩ := hx
      cases y1
      apply Int32.toInt_inj.mp
      rw [y2]
      rfl) (fun x hx => by
      obtain ⟨y, r, y1, y2, y3⟩ := hx
      cases y1
      have y2 : ρ'[35]? = some r := y2
      rw [m35] at y2
      cases y2
      apply Int32.toInt_inj.mp
      rw [y3]
      show 1 * (fc 4 1).toInt + 0 = (fc 4 1).toInt
      omega) zQcv15 q2 m23
    exact ⟨x, hx, Or.inr ⟨_, ρ3, hw_keep (a := 0) hΦ hT5 rfl (f3) (f4) (f5) (fun j h1 h2 => by omega), w3 ws' q1, g3, l3⟩⟩
  rcases List.mem_cons.mp hTm with hj | hTm
  · rw [hj]
    refine ⟨_, rfl, fun ws' v q1 q2 q3 => ?_⟩
    obtain ⟨x, hx⟩ := hl_int_ok (a := _) rfl q3
    obtain ⟨ρ3, g3, l3, w3⟩ := hw_post (tys := tys) (as := as) (I := zI0) (fcN := hw_N fc' 0 2 3 (fun j => if j = 1 then fc 4 1 else 6)) hex (T := zQb 16) rfl (hw_ren (by decide +kernel) rfl rfl rfl) (fun x hx => by
      obtain ⟨y, y1, y2⟩ := hx
      cases y1
      apply Int32.toInt_inj.mp
      rw [y2]
      rfl) (fun x hx => by
      obtain ⟨y, r, y1, y2, y3⟩ := hx
      cases y1
      have y2 : ρ'[35]? = some r := y2
      rw [m35] at y2
      cases y2
      apply Int32.toInt_inj.mp
      rw [y3]
      show 1 * (fc 4 1).toInt + 0 = (fc 4 1).toInt
      omega) zQcv16 q2 m23
    exact ⟨x, hx, Or.inl ⟨_, ρ3, hw_even hT6 (by show ¬ ((6 : Int32)).toInt % 2 = 1; decide), w3 ws' q1, g3, l3⟩⟩
  rcases List.mem_cons.mp hTm with hj | hTm
  · rw [hj]
    refine ⟨_, rfl, fun ws' v q1 q2 q3 => ?_⟩
    obtain ⟨x, hx⟩ := hl_int_ok (a := _) rfl q3
    obtain ⟨ρ3, g3, l3, w3⟩ := hw_post (tys := tys) (as := as) (I := zI1) (fcN := hw_N fc' 0 2 3 (fun j => if j = 1 then fc 4 1 else 6)) hex (T := zQb 17) rfl (hw_ren (by decide +kernel) rfl rfl rfl) (fun x hx => by
      obtain ⟨y, y1, y2⟩ := hx
      cases y1
      apply Int32.toInt_inj.mp
      rw [y2]
      rfl) (fun x hx => by
      obtain ⟨y, r, y1, y2, y3⟩ := hx
      cases y1
      have y2 : ρ'[35]? = some r := y2
      rw [m35] at y2
      cases y2
      apply Int32.toInt_inj.mp
      rw [y3]
      show 1 * (fc 4 1).toInt + 0 = (fc 4 1).toInt
      omega) zQcv17 q2 m23
    exact ⟨x, hx, Or.inr ⟨_, ρ3, hw_keep (a := 0) hΦ hT6 rfl (fun j _ => by rw [f10]) (by rw [f12]) (by rw [f13]) (fun j h1 h2 => by omega), w3 ws' q1, g3, l3⟩⟩
  rcases List.mem_cons.mp hTm with hj | hTm
  · rw [hj]
    refine ⟨_, rfl, fun ws' v q1 q2 q3 => ?_⟩
    obtain ⟨x, hx⟩ := hl_int_ok (a := _) rfl q3
    obtain ⟨ρ3, g3, l3, w3⟩ := hw_post (tys := tys) (as := as) (I := zI1) (fcN := hw_N fc' 20 22 23 (fun j => if j = 1 then fc 4 1 else 3)) hex (T := zQb 18) rfl (hw_ren (by decide +kernel) rfl rfl rfl) (fun x hx => by
      obtain ⟨y, y1, y2⟩ := hx
      cases y1
      apply Int32.toInt_inj.mp
      rw [y2]
      rfl) (fun x hx => by
      obtain ⟨y, r, y1, y2, y3⟩ := hx
      cases y1
      have y2 : ρ'[35]? = some r := y2
      rw [m35] at y2
      cases y2
      apply Int32.toInt_inj.mp
      rw [y3]
      show 1 * (fc 4 1).toInt + 0 = (fc 4 1).toInt
      omega) zQcv18 q2 m23
    exact ⟨x, hx, Or.inr ⟨_, ρ3, hw_keep (a := 0) hΦ hT3 rfl (f3) (f4) (f5) (fun j h1 h2 => by omega), w3 ws' q1, g3, l3⟩⟩
  rcases List.mem_cons.mp hTm with hj | hTm
  · rw [hj]
    refine ⟨_, rfl, fun ws' v q1 q2 q3 => ?_⟩
    obtain ⟨x, hx⟩ := hl_int_ok (a := _) rfl q3
    obtain ⟨ρ3, g3, l3, w3⟩ := hw_post (tys := tys) (as := as) (I := zI1) (fcN := hw_N fc' 20 22 23 (fun j => if j = 1 then fc 4 1 else 7)) hex (T := zQb 19) rfl (hw_ren (by decide +kernel) rfl rfl rfl) (fun x hx => by
      obtain ⟨y, y1, y2⟩ := hx
      cases y1
      apply Int32.toInt_inj.mp
      rw [y2]
      rfl) (fun x hx => by
      obtain ⟨y, r, y1, y2, y3⟩ := hx
      cases y1
      have y2 : ρ'[35]? = some r := y2
      rw [m35] at y2
      cases y2
      apply Int32.toInt_inj.mp
      rw [y3]
      show 1 * (fc 4 1).toInt + 0 = (fc 4 1).toInt
      omega) zQcv19 q2 m23
    exact ⟨x, hx, Or.inr ⟨_, ρ3, hw_keep (a := 0) hΦ hT7 rfl (f3) (f4) (f5) (fun j h1 h2 => by omega), w3 ws' q1, g3, l3⟩⟩
  cases hTm
end zQBEACH
