/-! what worst() answers (by program: wip/p44/emworst.py) -/
section HLW
variable {ex : Nat → Value} {D : va_G} {as : List Nat} {tys : List (ClassId × FieldType)}
def hl_w (r0 r1 z : Int) : Int := if z = 0 then r0 else if z = 1 then r1 else -1
theorem hl_oneC (hT : zk_t) (hA : zk_a) {ct : List qC} {fc : Nat → Nat → Int32} (hct : ∀ c ∈ ct, qy_V ex (qΓ1 fc) D as tys c) {ρ : List Int} {k d : Nat} {G : qG} {W : List qE} {lo : qL} {I : qG × List qE} {rv : qV} {lk : List (Nat × qV)} (h : q_lgk ct 100000 0 k d [] 0 G W lo [] [((I.1, I.2, .inl (some rv)), lk, [])] = true) : qy_TP ex D as tys d k fc ρ G W lo [] 0 (fun fc' ρ' o => fc' = fc ∧ o = (I.1, I.2, .inl (some rv)) ∧ ∀ q ∈ lk, ∀ z, q_val ρ q.2 = some z → ρ'[q.1]? = some z) := by
  refine (qs_lnk (Γ := qΓ1 fc) (ρ := ρ) hct hT hA rfl h).post ?_
  rintro fc' ρ' o ⟨E, hE, e1, hγ, -, hL⟩
  rcases List.mem_cons.mp hE with e | e
  · rw [e] at e1 hL
    exact ⟨hγ.1, e1.symm, fun q hq z hz => hL.1 q hq z hz⟩
  · cases e
theorem hl_worst (hT : zk_t) (hA : zk_a) {ct : List qC} (hct : ∀ fc, ∀ c ∈ ct, qy_V ex (qΓ1 fc) D as tys c) {k ti ci mx : Nat} {I : qG × List qE} {Φ : (Nat → Nat → Int32) → Prop} (hM : zk_m k 0 0 mx) (hpos : ∀ v : qV, q_isL v = false → q_pos mx [(0, .inr (.inr (.inl (some 0)))), (1, v)] 0 = true) (hroot : ∃ fs, I.2[0]? = some (.inr (.inl (ci, fs)))) {r0 r1 : Int}
    (h0 : q_lgk ct 100000 0 k 8 [] 0 I.1 I.2 [(0, .inr (.inr (.inl (some 0)))), (1, .inl 0)] [] [((I.1, I.2, .inl (some (.inl r0))), [(ti, .inr (.inl (ti, 1, 0)))], [])] = true) (h1 : q_lgk ct 100000 0 k 8 [] 0 I.1 I.2 [(0, .inr (.inr (.inl (some 0)))), (1, .inl 1)] [] [((I.1, I.2, .inl (some (.inl r1))), [(ti, .inr (.inl (ti, 1, 0)))], [])] = true) (hlo : hl_latO k I ti (.negSucc 2147483647) (.negSucc 0) = true) (hhi : hl_latO k I ti 2 2147483647 = true) {ax : Nat} (hax : as[0]? = some ax) (x : Int32) {t : Int} :
    hl_M ex D as tys 69 ci k (hl_I ex as tys Φ I ti t) [.ref ax, .int x] (fun r ws => r.toInt = hl_w r0 r1 x.toInt ∧ hl_I ex as tys Φ I ti t ws) := by
  rintro ws ⟨fc, ρ, hΦ, k1, k2, k3⟩
  obtain ⟨fs, hfs⟩ := hroot
  have fin : ∀ {z : Int} {fc' : Nat → Nat → Int32} {ρ' : List Int} {o : qO}, fc' = fc ∧ o = (I.1, I.2, .inl (some (.inl z))) ∧ ρ'[ti]? = some t → z = hl_w r0 r1 x.toInt → ∃ rv, o.2.2 = .inl (some rv) ∧ ∀ ws' v, qy_w ρ' ex fc' tys as o.2.1 ws' → qy_g ρ' o.1 → qy_v ρ' ex as rv v → ∃ y, v = .int y ∧ (y.toInt = hl_w r0 r1 x.toInt ∧ hl_I ex as tys Φ I ti t ws') := by
    rintro z fc' ρ' o ⟨e1, e2, e3⟩ hz
    refine ⟨.inl z, by rw [e2], fun ws' v q1 q2 q3 => ?_⟩
    obtain ⟨y, y1, y2⟩ := q3
    rw [e2] at q1 q2
    exact ⟨y, y1, by rw [y2, hz], fc', ρ', by rw [e1]; exact hΦ, q1, q2, e3⟩
  have far : ∀ {lo hi : Int}, hl_latO k I ti lo hi = true → lo ≤ x.toInt → x.toInt ≤ hi → (-1 : Int) = hl_w r0 r1 x.toInt → ∃ (fc : Nat → Nat → Int32) (ρ : List Int) (g : qG) (w : List qE) (av : qL) (P : qP), qy_TP ex D as tys 69 k fc ρ g w av [] 0 P ∧ qy_w ρ ex fc tys as w ws ∧ qy_g ρ g ∧ qy_s ρ ex as (av.map Prod.snd) [.ref ax, .int x] ∧ (∃ mx, zk_m k 0 0 mx ∧ q_pos mx av 0 = true) ∧ (∃ i a tl fs, av = (i, .inr (.inr (.inl (some a)))) :: tl ∧ w[a]? = some (.inr (.inl (ci, fs)))) ∧
    ∀ fc' ρ' o, P fc' ρ' o → ∃ rv, o.2.2 = .inl (some rv) ∧ ∀ ws' v, qy_w ρ' ex fc' tys as o.2.1 ws' → qy_g ρ' o.1 → qy_v ρ' ex as rv v → ∃ y, v = .int y ∧ (y.toInt = hl_w r0 r1 x.toInt ∧ hl_I ex as tys Φ I ti t ws') := by
    intro lo hi hh a1 a2 hz
    have he : qe ρ (ρ ++ [x.toInt]) := ⟨_, rfl⟩
    refine ⟨fc, ρ ++ [x.toInt], (I.1.1 ++ [(lo, hi)], I.1.2), I.2, [(0, .inr (.inr (.inl (some 0)))), (1, .inr (.inl (I.1.1.length, 1, 0)))], _, (hl_one (I := I) hT hA hh).dep (by decide), k1.mono he, qy_g.ext k2 rfl ?_, ⟨⟨ax, hax, rfl⟩, ⟨x, x.toInt, rfl, q_ap0 k2.1.symm, by show x.toInt = 1 * x.toInt + 0; omega⟩, trivial⟩, ⟨mx, hM, hpos _ rfl⟩, ⟨0, 0, _, fs, rfl, hfs⟩, fun fc' ρ' o ho => ?_⟩
    · intro j r hj
      match j, hj with
      | 0, hj => cases hj; exact ⟨_, rfl, a1, a2⟩
      | j + 1, hj => cases hj
    · exact fin (z := .negSucc 0) ⟨ho.1, ho.2.1, ho.2.2 _ List.mem_cons_self t (q_vs (he.at k3))⟩ hz
  have b1 := q_i32bd x
  rcases Int.lt_or_le x.toInt 0 with c1 | c1
  · exact far hlo b1.1 (by show x.toInt ≤ -1; omega) (by unfold hl_w; rw [if_neg (by omega), if_neg (by omega)])
  · rcases Int.lt_or_le 1 x.toInt with c2 | c2
    · exact far hhi (by omega) b1.2 (by unfold hl_w; rw [if_neg (by omega), if_neg (by omega)])
    · have cx : x.toInt = 0 ∨ x.toInt = 1 := by omega
      rcases cx with cx | cx
      · refine ⟨fc, ρ, I.1, I.2, [(0, .inr (.inr (.inl (some 0)))), (1, .inl 0)], _, (hl_oneC (I := I) hT hA (hct fc) h0).dep (by decide), k1, k2, ⟨⟨ax, hax, rfl⟩, ⟨x, rfl, cx⟩, trivial⟩, ⟨mx, hM, hpos _ rfl⟩, ⟨0, 0, _, fs, rfl, hfs⟩, fun fc' ρ' o ho => ?_⟩
        exact fin (z := r0) ⟨ho.1, ho.2.1, ho.2.2 _ List.mem_cons_self t (q_vs k3)⟩ (by unfold hl_w; rw [if_pos cx])
      · refine ⟨fc, ρ, I.1, I.2, [(0, .inr (.inr (.inl (some 0)))), (1, .inl 1)], _, (hl_oneC (I := I) hT hA (hct fc) h1).dep (by decide), k1, k2, ⟨⟨ax, hax, rfl⟩, ⟨x, rfl, cx⟩, trivial⟩, ⟨mx, hM, hpos _ rfl⟩, ⟨0, 0, _, fs, rfl, hfs⟩, fun fc' ρ' o ho => ?_⟩
        exact fin (z := r1) ⟨ho.1, ho.2.1, ho.2.2 _ List.mem_cons_self t (q_vs k3)⟩ (by unfold hl_w; rw [if_neg (by omega), if_pos cx])
end HLW
set_option maxRecDepth 100000 in
theorem zWA_0 : q_lgk [] 100000 0 59 8 [] 0 zIA.1 zIA.2 [(0, qr 0), (1, .inl 0)] [] [((zIA.1, zIA.2, .inl (some (.inl 9))), [(42, qa 42)], [])] = true := by decide +kernel
set_option maxRecDepth 100000 in
theorem zWA_1 : q_lgk [] 100000 0 59 8 [] 0 zIA.1 zIA.2 [(0, qr 0), (1, .inl 1)] [] [((zIA.1, zIA.2, .inl (some (.inl 6))), [(42, qa 42)], [])] = true := by decide +kernel
set_option maxRecDepth 100000 in
theorem zWA_n : hl_latO 59 zIA 42 (.negSucc 2147483647) (.negSucc 0) = true := by decide +kernel
set_option maxRecDepth 100000 in
theorem zWA_p : hl_latO 59 zIA 42 2 2147483647 = true := by decide +kernel
set_option maxRecDepth 100000 in
theorem zMA_worstR {ex : Nat → Value} {D : va_G} {as : List Nat} {tys : List (ClassId × FieldType)} {t : Int} (hT : zk_t) (hA : zk_a) (hex : ∀ j, ex j = .null ∨ ∃ a, ex j = .ref a) {ax : Nat} (hax : as[0]? = some ax) (x : Int32) : hl_M ex D as tys 69 11 59 (hl_I ex as tys zΦ zIA 42 t) [.ref ax, .int x] (fun r ws => r.toInt = hl_w 9 6 x.toInt ∧ hl_I ex as tys zΦ zIA 42 t ws) := by
  obtain ⟨hM, -, -⟩ := qs_vc (ex := ex) hT hA (k := 0) (pc := 1121) rfl
  have hq : ∀ (mx : Nat), 1 < mx → ∀ v : qV, q_isL v = false → q_pos mx [(0, .inr (.inr (.inl (some 0)))), (1, v)] 0 = true := fun mx hm v hv => by
    show cond (q_isL v) (Nat.ble 3 mx) (Nat.ble 2 mx) = true
    rw [hv]
    exact Nat.ble_eq_true_of_le hm
  exact hl_worst hT hA (fun fc => fa_nil) hM (hq _ (by decide)) ⟨_, rfl⟩ zWA_0 zWA_1 zWA_n zWA_p hax x
set_option maxRecDepth 100000 in
theorem zWB_0 : q_lgk [] 100000 0 59 8 [] 0 zIB.1 zIB.2 [(0, qr 0), (1, .inl 0)] [] [((zIB.1, zIB.2, .inl (some (.inl 9))), [(42, qa 42)], [])] = true := by decide +kernel
set_option maxRecDepth 100000 in
theorem zWB_1 : q_lgk [] 100000 0 59 8 [] 0 zIB.1 zIB.2 [(0, qr 0), (1, .inl 1)] [] [((zIB.1, zIB.2, .inl (some (.inl 6))), [(42, qa 42)], [])] = true := by decide +kernel
set_option maxRecDepth 100000 in
theorem zWB_n : hl_latO 59 zIB 42 (.negSucc 2147483647) (.negSucc 0) = true := by decide +kernel
set_option maxRecDepth 100000 in
theorem zWB_p : hl_latO 59 zIB 42 2 2147483647 = true := by decide +kernel
set_option maxRecDepth 100000 in
theorem zMB_worstR {ex : Nat → Value} {D : va_G} {as : List Nat} {tys : List (ClassId × FieldType)} {t : Int} (hT : zk_t) (hA : zk_a) (hex : ∀ j, ex j = .null ∨ ∃ a, ex j = .ref a) {ax : Nat} (hax : as[0]? = some ax) (x : Int32) : hl_M ex D as tys 69 11 59 (hl_I ex as tys zΦ zIB 42 t) [.ref ax, .int x] (fun r ws => r.toInt = hl_w 9 6 x.toInt ∧ hl_I ex as tys zΦ zIB 42 t ws) := by
  obtain ⟨hM, -, -⟩ := qs_vc (ex := ex) hT hA (k := 0) (pc := 1121) rfl
  have hq : ∀ (mx : Nat), 1 < mx → ∀ v : qV, q_isL v = false → q_pos mx [(0, .inr (.inr (.inl (some 0)))), (1, v)] 0 = true := fun mx hm v hv => by
    show cond (q_isL v) (Nat.ble 3 mx) (Nat.ble 2 mx) = true
    rw [hv]
    exact Nat.ble_eq_true_of_le hm
  exact hl_worst hT hA (fun fc => fa_nil) hM (hq _ (by decide)) ⟨_, rfl⟩ zWB_0 zWB_1 zWB_n zWB_p hax x
set_option maxRecDepth 100000 in
theorem zW0_0 : q_lgk [zSk75] 100000 0 308 8 [] 0 zI0.1 zI0.2 [(0, qr 0), (1, .inl 0)] [] [((zI0.1, zI0.2, .inl (some (.inl 9))), [(23, qa 23)], [])] = true := by decide +kernel
set_option maxRecDepth 100000 in
theorem zW0_1 : q_lgk [zSk75] 100000 0 308 8 [] 0 zI0.1 zI0.2 [(0, qr 0), (1, .inl 1)] [] [((zI0.1, zI0.2, .inl (some (.inl 6))), [(23, qa 23)], [])] = true := by decide +kernel
set_option maxRecDepth 100000 in
theorem zW0_n : hl_latO 308 zI0 23 (.negSucc 2147483647) (.negSucc 0) = true := by decide +kernel
set_option maxRecDepth 100000 in
theorem zW0_p : hl_latO 308 zI0 23 2 2147483647 = true := by decide +kernel
set_option maxRecDepth 100000 in
theorem zM0_worstR {ex : Nat → Value} {D : va_G} {as : List Nat} {tys : List (ClassId × FieldType)} {t : Int} (hT : zk_t) (hA : zk_a) (hex : ∀ j, ex j = .null ∨ ∃ a, ex j = .ref a) {ax : Nat} (hax : as[0]? = some ax) (x : Int32) : hl_M ex D as tys 69 12 308 (hl_I ex as tys zΦ0 zI0 23 t) [.ref ax, .int x] (fun r ws => r.toInt = hl_w 9 6 x.toInt ∧ hl_I ex as tys zΦ0 zI0 23 t ws) := by
  obtain ⟨hM, -, -⟩ := qs_vc (ex := ex) hT hA (k := 0) (pc := 1130) rfl
  have hq : ∀ (mx : Nat), 1 < mx → ∀ v : qV, q_isL v = false → q_pos mx [(0, .inr (.inr (.inl (some 0)))), (1, v)] 0 = true := fun mx hm v hv => by
    show cond (q_isL v) (Nat.ble 3 mx) (Nat.ble 2 mx) = true
    rw [hv]
    exact Nat.ble_eq_true_of_le hm
  exact hl_worst hT hA (fun fc => fa_cons (zSmoves hT hA) fa_nil) hM (hq _ (by decide)) ⟨_, rfl⟩ zW0_0 zW0_1 zW0_n zW0_p hax x
set_option maxRecDepth 100000 in
theorem zW1_0 : q_lgk [zSk75] 100000 0 308 8 [] 0 zI1.1 zI1.2 [(0, qr 0), (1, .inl 0)] [] [((zI1.1, zI1.2, .inl (some (.inl 9))), [(23, qa 23)], [])] = true := by decide +kernel
set_option maxRecDepth 100000 in
theorem zW1_1 : q_lgk [zSk75] 100000 0 308 8 [] 0 zI1.1 zI1.2 [(0, qr 0), (1, .inl 1)] [] [((zI1.1, zI1.2, .inl (some (.inl 6))), [(23, qa 23)], [])] = true := by decide +kernel
set_option maxRecDepth 100000 in
theorem zW1_n : hl_latO 308 zI1 23 (.negSucc 2147483647) (.negSucc 0) = true := by decide +kernel
set_option maxRecDepth 100000 in
theorem zW1_p : hl_latO 308 zI1 23 2 2147483647 = true := by decide +kernel
set_option maxRecDepth 100000 in
theorem zM1_worstR {ex : Nat → Value} {D : va_G} {as : List Nat} {tys : List (ClassId × FieldType)} {t : Int} (hT : zk_t) (hA : zk_a) (hex : ∀ j, ex j = .null ∨ ∃ a, ex j = .ref a) {ax : Nat} (hax : as[0]? = some ax) (x : Int32) : hl_M ex D as tys 69 12 308 (hl_I ex as tys zΦ1 zI1 23 t) [.ref ax, .int x] (fun r ws => r.toInt = hl_w 9 6 x.toInt ∧ hl_I ex as tys zΦ1 zI1 23 t ws) := by
  obtain ⟨hM, -, -⟩ := qs_vc (ex := ex) hT hA (k := 0) (pc := 1130) rfl
  have hq : ∀ (mx : Nat), 1 < mx → ∀ v : qV, q_isL v = false → q_pos mx [(0, .inr (.inr (.inl (some 0)))), (1, v)] 0 = true := fun mx hm v hv => by
    show cond (q_isL v) (Nat.ble 3 mx) (Nat.ble 2 mx) = true
    rw [hv]
    exact Nat.ble_eq_true_of_le hm
  exact hl_worst hT hA (fun fc => fa_cons (zSmoves hT hA) fa_nil) hM (hq _ (by decide)) ⟨_, rfl⟩ zW1_0 zW1_1 zW1_n zW1_p hax x
