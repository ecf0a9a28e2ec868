/-! e() of the reference, by program (wip/p44/eme.py) -/
theorem qy_g.to0 {ρ : List Int} {g g' : qG} (hg : qy_g ρ g) (exc : List (Nat × Int × Int)) (fx : List qF) (h1 : q_gto exc 0 g.1 g'.1 = true) (h2 : g'.1.length = g.1.length) (h3 : q_fto g.2 g'.2 fx = true) (he : ∀ q ∈ exc, ∃ z, ρ[q.1]? = some z ∧ q.2.1 ≤ z ∧ z ≤ q.2.2) (hf : ∀ f ∈ fx, ∃ r1 r2, ρ[f.2.1]? = some r1 ∧ ρ[f.2.2.2.1]? = some r2 ∧ f.2.2.2.2 ≤ f.1 * r1 + f.2.2.1 * r2) : qy_g ρ g' := by
  have h := hg.to [] exc fx h1 h2 h3 (by rw [List.append_nil]; exact he) (by rw [List.append_nil]; exact hf)
  rw [List.append_nil] at h
  exact h
def zPPE (fc0 : Nat → Nat → Int32) (ρe : List Int) : qP := fun fc' ρ' o => qe ρe ρ' ∧ hj_fr fc' fc0 560 ∧ (o = (zPT_EF.1, zPT_EF.2.1, .inl none) ∨ (o = (zPT_EO.1, zPT_EO.2.1, .inl none) ∧ ∃ (M : Nat) (e e0 : Int), ρ'[61]? = some ((560 + M : Nat) : Int) ∧ hc_w (fc' 0) 560 M ∧ M ≤ 280 ∧ ρe[46]? = some e0 ∧ ρ'[57]? = some e ∧ e0 ≤ e))
section zPE
variable {ex : Nat → Value} {D : va_G} {as : List Nat} {tys : List (ClassId × FieldType)}
theorem zPeloop (hT : zk_t) (hA : zk_a) (hgo : ∀ fc, qy_V ex (qΓ1 fc) D as tys zPk2) {fc0 : Nat → Nat → Int32} {ρe : List Int} (hle : ρe.length = 56) {sz e0 : Int} (hsz : ρe[1]? = some sz) (he0 : ρe[46]? = some e0) : ∀ m : Nat, (∀ (fc : Nat → Nat → Int32) (ρ : List Int) (N T B M U : Nat) (e tk : Int), ρ.take 56 = ρe → ρ[57]? = some e → ρ[58]? = some tk → ρ[61]? = some ((560 + M : Nat) : Int) → ρ[62]? = some (T : Int) → ρ[63]? = some (N : Int) → ρ[64]? = some (U : Int) → e0 ≤ e → e ≤ sz → 0 ≤ tk → hj_J fc fc0 560 N T B M U true → 100 * (2 * (sz - e) + (if tk = 0 then 0 else 1)) + (N : Int) < (m : Int) → qy_TP ex D as tys 11 203 fc ρ zPT_C38.1 zPT_C38.2.1 zPT_C38.2.2.1 zPT_C38.2.2.2 38 (zPPE fc0 ρe)) ∧ (∀ (fc : Nat → Nat → Int32) (ρ : List Int) (N T B M U : Nat) (e tk : Int), ρ.take 56 = ρe → ρ[57]? = some e → ρ[58]? = some tk → ρ[61]? = some ((560 + M : Nat) : Int) → ρ[62]? = some (T : Int) → ρ[63]? = some (N : Int) → ρ[64]? = some (U : Int) → e0 ≤ e → e ≤ sz → 0 ≤ tk → hj_J fc fc0 560 N T B M U false → 100 * (2 * (sz - e) + (if tk = 0 then 0 else 1)) + (N : Int) < (m : Int) → qy_TP ex D as tys 11 203 fc ρ zPT_C45.1 zPT_C45.2.1 zPT_C45.2.2.1 zPT_C45.2.2.2 45 (zPPE fc0 ρe)) := by
  have ext : ∀ {ρ1 ρ' : List Int}, ρ1.take 56 = ρe → ρ'.take 56 = ρ1.take 56 → qe ρe ρ' := fun {ρ1 ρ'} h1 h2 => ⟨ρ'.drop 56, by rw [← h1, ← h2, List.take_append_drop]⟩
  intro m
  induction m with
  | zero =>
    refine ⟨fun fc ρ N T B M U e tk _ _ _ _ _ _ _ _ h1 _ _ h2 => ?_, fun fc ρ N T B M U e tk _ _ _ _ _ _ _ _ h1 _ _ h2 => ?_⟩
    · exfalso; split at h2 <;> omega
    · exfalso; split at h2 <;> omega
  | succ m ih =>
    refine ⟨?_, ?_⟩
    · intro fc ρ N T B M U e tk ht h57 h58 h61 h62 h63 h64 hee hes htk hJ hm
      refine qy_TP.intro fun _ hg => ?_
      have hl : ρ.length = 66 := hg.len rfl
      have hbd := hj_bd hJ
      have hT7 := hJ.2.1
      have hU := hJ.2.2.1
      have h1 := q_tkb ht hsz
      refine qy_TP.pre (ρ' := ρ) (g' := zPk31.2.2.1) (w' := zPk31.2.2.2.1) (lo' := zPT_C38.2.2.1) (st' := zPT_C38.2.2.2) ?_ (fun ws h => h) (fun h => h.to0 [(61, 560, 859), (63, 1, 39)] [] (by decide +kernel) rfl (by decide +kernel) (fa_ex h61 (by omega) (by omega) (fa_ex h63 (by omega) (by omega) fa_nil)) fa_nil) (fun _ _ h => h) (fun _ h => h)
      obtain ⟨hM, hcls, hrun⟩ := qs_vc (ex := ex) hT hA (k := 203) (pc := 38) rfl
      have hV : qy_V ex (qΓ1 fc) D as tys zPk31 := zPunit hT hA
      have hV2 : qy_T ex (qΓ1 fc) D as tys (10, 303, []) zPk31.2.2.1 zPk31.2.2.2.1 [(0, .inr (.inr (.inl (some 0))))] [] 0 (q_po zPk31) := hV
      refine qy_TP.call (d := 10) (cs := [.inr (.inr (.inl (some 0)))]) (st := []) (av := [(0, .inr (.inr (.inl (some 0))))]) hM hcls hrun rfl rfl (by decide) (by decide +kernel) (Or.inr (Or.inr ⟨by decide, 0, 0, [], _, rfl, rfl⟩)) (hV2.TP (ρ := ρ) (fc := fc) rfl) (fun f r o ho => ⟨ho.2.1, by obtain ⟨t, -, ht2⟩ := List.mem_map.mp ho.1; exact ⟨t.2.2, by rw [← ht2]⟩⟩) ?_
      intro fc2 ρ2 o rv ho hrv _ hg2
      obtain ⟨hmem, hq2, hγ⟩ := ho
      have hf2 : fc2 = fc := hγ.1
      obtain ⟨t, tm, ho2⟩ := List.mem_map.mp hmem
      rw [← ho2] at hrv hg2
      rw [hf2, ← ho2]
      have ht2 : ρ2.take 56 = ρe := by obtain ⟨r2, hr2⟩ := hq2; rw [hr2, List.take_append_of_le_length (by omega)]; exact ht
      have g1 := hq2.at h1
      have g57 := hq2.at h57
      have g58 := hq2.at h58
      have g61 := hq2.at h61
      have g62 := hq2.at h62
      have g63 := hq2.at h63
      have g64 := hq2.at h64
      have tm : t ∈ [zPk31p0, zPk31p1, zPk31p2, zPk31p3, zPk31p4, zPk31p5, zPk31p6] := tm
      rcases List.mem_cons.mp tm with hj | tm
      · subst hj
        have hrv : (Sum.inl (some (.inl 1)) : Option qV ⊕ (Nat × qL × List qV)) = Sum.inl rv := hrv
        cases hrv
        refine qs_lnkB (ρ := ρ2) fa_nil hT hA zPg_e41_0 (fa_cons (fun ρ' htk2 hL hgE _ => ⟨fun rv hrv => ?_, fun q hq => ?_⟩) fa_nil)
        · exact ⟨ext ht2 htk2, hj_frJ hJ, Or.inl rfl⟩
        · have hq : (Sum.inl _ : Option qV ⊕ (Nat × qL × List qV)) = Sum.inr q := hq
          cases hq
      rcases List.mem_cons.mp tm with hj | tm
      · subst hj
        have hrv : (Sum.inl (some (.inl 0)) : Option qV ⊕ (Nat × qL × List qV)) = Sum.inl rv := hrv
        cases hrv
        have k58 := hg2.rng (i := 58) (r := (3, 4)) rfl g58
        have k58 : (3 : Int) ≤ tk ∧ tk ≤ 4 := k58
        have k64 : (0 : Int) ≤ (U : Int) ∧ (U : Int) ≤ 29 := hg2.rng (i := 64) (r := (0, 29)) rfl g64
        obtain ⟨cv, c1, c2, c3⟩ := hg2.2.1 67 (97, 122) rfl
        have c2 : (97 : Int) ≤ cv := c2
        have c3 : cv ≤ 122 := c3
        have hcv : (Int32.ofInt cv).toInt = cv := q_i32of (by omega) (by omega)
        have hJ1 := hj_unit hJ (c := Int32.ofInt cv) (by omega) (by omega) (by omega)
        have eq : q_up fc 0 ((560 + M : Nat) : Int).toNat (Int32.ofInt cv) = q_up fc 0 (560 + M) (Int32.ofInt cv) := by rw [Int.toNat_natCast]
        refine qy_TP.pre (fc' := q_up fc 0 (560 + M) (Int32.ofInt cv)) (ρ' := ρ2) (g' := zPT_s_e41_1.1) (w' := zPT_s_e41_1.2.1) (lo' := zPT_s_e41_1.2.2.1) (st' := zPT_s_e41_1.2.2.2) ?_ (fun ws h => by
          have h2 := h.rf (c := 17) (t := 0) (N := 1120) (κ := 0) (kn := []) (or := []) (a := qa 61) (x := qa 67) (z := ((560 + M : Nat) : Int)) (y := cv) rfl (by decide +kernel) (q_vs g61) (q_vs c1) rfl rfl
          rw [eq] at h2
          exact h2) (fun h => h) (fun _ _ h => h) (fun _ h => h)
        refine qs_lnkB (ρ := ρ2) fa_nil hT hA zPg_e41_1 (fa_cons (fun ρ' htk2 hL hgE _ => ⟨fun rv hrv => ?_, fun q hq => ?_⟩) fa_nil)
        · have hrv : (Sum.inr _ : Option qV ⊕ (Nat × qL × List qV)) = Sum.inl rv := hrv
          cases hrv
        · have hq : (Sum.inr _ : Option qV ⊕ (Nat × qL × List qV)) = Sum.inr q := hq
          cases hq
          have l57 := (hL.n (i := 57) (d := 0) (List.mem_cons_of_mem _ List.mem_cons_self) g1)
          have l58 := (hL.l (i := 58) (z := 0) (List.mem_cons_of_mem _ (List.mem_cons_of_mem _ List.mem_cons_self)))
          have l61 := (hL.n (i := 61) (d := 1) (List.mem_cons_of_mem _ (List.mem_cons_of_mem _ (List.mem_cons_of_mem _ (List.mem_cons_of_mem _ List.mem_cons_self)))) g61)
          have l62 := (hL.n (i := 62) (d := 0) (List.mem_cons_of_mem _ (List.mem_cons_of_mem _ (List.mem_cons_of_mem _ (List.mem_cons_of_mem _ (List.mem_cons_of_mem _ List.mem_cons_self))))) g62)
          have l63 := (hL.n (i := 63) (d := 0) (List.mem_cons_of_mem _ (List.mem_cons_of_mem _ (List.mem_cons_of_mem _ (List.mem_cons_of_mem _ (List.mem_cons_of_mem _ (List.mem_cons_of_mem _ List.mem_cons_self)))))) g63)
          have l64 := (hL.n (i := 64) (d := 1) (List.mem_cons_of_mem _ (List.mem_cons_of_mem _ (List.mem_cons_of_mem _ (List.mem_cons_of_mem _ (List.mem_cons_of_mem _ (List.mem_cons_of_mem _ (List.mem_cons_of_mem _ List.mem_cons_self))))))) g64)
          rw [if_neg (show ¬ tk = 0 by omega)] at hm
          refine ih.2 _ ρ' N T B (M + 1) (U + 1) sz 0 (by rw [htk2]; exact ht2) ?_ ?_ ?_ ?_ ?_ ?_ ?_ ?_ ?_ hJ1 ?_
          · rw [l57]; exact congrArg some (by omega)
          · exact l58
          · rw [l61]; exact congrArg some (by omega)
          · rw [l62]; exact congrArg some (by omega)
          · rw [l63]; exact congrArg some (by omega)
          · rw [l64]; exact congrArg some (by omega)
          · omega
          · omega
          · omega
          · rw [if_pos rfl]; omega
      rcases List.mem_cons.mp tm with hj | tm
      · subst hj
        have hrv : (Sum.inl (some (.inl 0)) : Option qV ⊕ (Nat × qL × List qV)) = Sum.inl rv := hrv
        cases hrv
        have k58 := hg2.rng (i := 58) (r := (3, 4)) rfl g58
        have k58 : (3 : Int) ≤ tk ∧ tk ≤ 4 := k58
        have k64 : (0 : Int) ≤ (U : Int) ∧ (U : Int) ≤ 29 := hg2.rng (i := 64) (r := (0, 29)) rfl g64
        obtain ⟨en, x1, x3, x4, x5⟩ := hg2.2.2 (1, 67, .negSucc 0, 57, 1) (by decide +kernel)
        have x3 : ρ2[67]? = some en := x3
        have x4 : ρ2[57]? = some x1 := x4
        have x5 : (1 : Int) ≤ 1 * en + (-1) * x1 := x5
        have xe : e = x1 := Option.some.inj (g57.symm.trans x4)
        obtain ⟨tn, y1, y2, y3⟩ := hg2.2.1 68 (1, 5) rfl
        have y2 : (1 : Int) ≤ tn := y2
        obtain ⟨sn, z1, z2, z3, z4⟩ := hg2.2.2 (1, 1, .negSucc 0, 67, 0) (by decide +kernel)
        have z2 : ρ2[1]? = some sn := z2
        have z3 : ρ2[67]? = some z1 := z3
        have z4 : (0 : Int) ≤ 1 * sn + (-1) * z1 := z4
        have ze : sz = sn := Option.some.inj (g1.symm.trans z2)
        have zf : en = z1 := Option.some.inj (x3.symm.trans z3)
        obtain ⟨cv, c1, c2, c3⟩ := hg2.2.1 72 (97, 122) rfl
        have c2 : (97 : Int) ≤ cv := c2
        have c3 : cv ≤ 122 := c3
        have hcv : (Int32.ofInt cv).toInt = cv := q_i32of (by omega) (by omega)
        have hJ1 := hj_unit hJ (c := Int32.ofInt cv) (by omega) (by omega) (by omega)
        have eq : q_up fc 0 ((560 + M : Nat) : Int).toNat (Int32.ofInt cv) = q_up fc 0 (560 + M) (Int32.ofInt cv) := by rw [Int.toNat_natCast]
        refine qy_TP.pre (fc' := q_up fc 0 (560 + M) (Int32.ofInt cv)) (ρ' := ρ2) (g' := zPT_s_e41_2.1) (w' := zPT_s_e41_2.2.1) (lo' := zPT_s_e41_2.2.2.1) (st' := zPT_s_e41_2.2.2.2) ?_ (fun ws h => by
          have h2 := h.rf (c := 17) (t := 0) (N := 1120) (κ := 0) (kn := []) (or := []) (a := qa 61) (x := qa 72) (z := ((560 + M : Nat) : Int)) (y := cv) rfl (by decide +kernel) (q_vs g61) (q_vs c1) rfl rfl
          rw [eq] at h2
          exact h2) (fun h => h) (fun _ _ h => h) (fun _ h => h)
        refine qs_lnkB (ρ := ρ2) fa_nil hT hA zPg_e41_2 (fa_cons (fun ρ' htk2 hL hgE _ => ⟨fun rv hrv => ?_, fun q hq => ?_⟩) fa_nil)
        · have hrv : (Sum.inr _ : Option qV ⊕ (Nat × qL × List qV)) = Sum.inl rv := hrv
          cases hrv
        · have hq : (Sum.inr _ : Option qV ⊕ (Nat × qL × List qV)) = Sum.inr q := hq
          cases hq
          have l57 := (hL.n (i := 57) (d := 0) (List.mem_cons_of_mem _ List.mem_cons_self) x3)
          have l58 := (hL.n (i := 58) (d := 0) (List.mem_cons_of_mem _ (List.mem_cons_of_mem _ List.mem_cons_self)) y1)
          have l61 := (hL.n (i := 61) (d := 1) (List.mem_cons_of_mem _ (List.mem_cons_of_mem _ (List.mem_cons_of_mem _ (List.mem_cons_of_mem _ List.mem_cons_self)))) g61)
          have l62 := (hL.n (i := 62) (d := 0) (List.mem_cons_of_mem _ (List.mem_cons_of_mem _ (List.mem_cons_of_mem _ (List.mem_cons_of_mem _ (List.mem_cons_of_mem _ List.mem_cons_self))))) g62)
          have l63 := (hL.n (i := 63) (d := 0) (List.mem_cons_of_mem _ (List.mem_cons_of_mem _ (List.mem_cons_of_mem _ (List.mem_cons_of_mem _ (List.mem_cons_of_mem _ (List.mem_cons_of_mem _ List.mem_cons_self)))))) g63)
          have l64 := (hL.n (i := 64) (d := 1) (List.mem_cons_of_mem _ (List.mem_cons_of_mem _ (List.mem_cons_of_mem _ (List.mem_cons_of_mem _ (List.mem_cons_of_mem _ (List.mem_cons_of_mem _ (List.mem_cons_of_mem _ List.mem_cons_self))))))) g64)
          rw [if_neg (show ¬ tk = 0 by omega)] at hm
          refine ih.2 _ ρ' N T B (M + 1) (U + 1) en tn (by rw [htk2]; exact ht2) ?_ ?_ ?_ ?_ ?_ ?_ ?_ ?_ ?_ hJ1 ?_
          · rw [l57]; exact congrArg some (by omega)
          · rw [l58]; exact congrArg some (by omega)
          · rw [l61]; exact congrArg some (by omega)
          · rw [l62]; exact congrArg some (by omega)
          · rw [l63]; exact congrArg some (by omega)
          · rw [l64]; exact congrArg some (by omega)
          · omega
          · omega
          · omega
          · rw [if_neg (show ¬ tn = 0 by omega)]; omega
      rcases List.mem_cons.mp tm with hj | tm
      · subst hj
        have hrv : (Sum.inl (some (.inl 1)) : Option qV ⊕ (Nat × qL × List qV)) = Sum.inl rv := hrv
        cases hrv
        have k58 := hg2.rng (i := 58) (r := (5, 5)) rfl g58
        have k58 : (5 : Int) ≤ tk ∧ tk ≤ 5 := k58
        have k62 : (0 : Int) ≤ (T : Int) ∧ (T : Int) ≤ 6 := hg2.rng (i := 62) (r := (0, 6)) rfl g62
        have k64 : (0 : Int) ≤ (U : Int) ∧ (U : Int) ≤ 29 := hg2.rng (i := 64) (r := (0, 29)) rfl g64
        have hx3 : (Int32.ofInt (7 : Int)).toInt = 7 := q_i32of (by omega) (by omega)
        have hy3 : (Int32.ofInt (126 : Int)).toInt = 126 := q_i32of (by omega) (by omega)
        have hJ1 := hj_push hJ (x := Int32.ofInt (7 : Int)) (y := Int32.ofInt (126 : Int)) (Or.inr hx3) (by omega) (U' := U + 1) (by omega) (by omega)
        have eq : q_up (q_up fc 5 ((N : Nat) : Int).toNat (Int32.ofInt (7 : Int))) 6 ((N : Nat) : Int).toNat (Int32.ofInt (126 : Int)) = q_up (q_up fc 5 N (Int32.ofInt (7 : Int))) 6 N (Int32.ofInt (126 : Int)) := by rw [Int.toNat_natCast]
        refine qy_TP.pre (fc' := q_up (q_up fc 5 N (Int32.ofInt (7 : Int))) 6 N (Int32.ofInt (126 : Int))) (ρ' := ρ2) (g' := zPT_s_e41_3.1) (w' := zPT_s_e41_3.2.1) (lo' := zPT_s_e41_3.2.2.1) (st' := zPT_s_e41_3.2.2.2) ?_ (fun ws h => by
          have h1 := h.rf (c := 19) (t := 0) (N := 90) (κ := 5) (kn := []) (or := []) (a := qa 63) (x := .inl 7) (z := ((N : Nat) : Int)) (y := 7) rfl (by decide +kernel) (q_vs g63) rfl rfl rfl
          have h2 := h1.rf (c := 20) (t := 0) (N := 90) (κ := 6) (kn := []) (or := []) (a := qa 63) (x := .inl 126) (z := ((N : Nat) : Int)) (y := 126) rfl (by decide +kernel) (q_vs g63) rfl rfl rfl
          rw [eq] at h2
          exact h2) (fun h => h) (fun _ _ h => h) (fun _ h => h)
        refine qs_lnkB (ρ := ρ2) fa_nil hT hA zPg_e41_3 (fa_cons (fun ρ' htk2 hL hgE _ => ⟨fun rv hrv => ?_, fun q hq => ?_⟩) fa_nil)
        · have hrv : (Sum.inr _ : Option qV ⊕ (Nat × qL × List qV)) = Sum.inl rv := hrv
          cases hrv
        · have hq : (Sum.inr _ : Option qV ⊕ (Nat × qL × List qV)) = Sum.inr q := hq
          cases hq
          have l57 := (hL.n (i := 57) (d := 0) (List.mem_cons_of_mem _ List.mem_cons_self) g1)
          have l58 := (hL.l (i := 58) (z := 0) (List.mem_cons_of_mem _ (List.mem_cons_of_mem _ List.mem_cons_self)))
          have l61 := (hL.n (i := 61) (d := 0) (List.mem_cons_of_mem _ (List.mem_cons_of_mem _ (List.mem_cons_of_mem _ (List.mem_cons_of_mem _ List.mem_cons_self)))) g61)
          have l62 := (hL.n (i := 62) (d := 1) (List.mem_cons_of_mem _ (List.mem_cons_of_mem _ (List.mem_cons_of_mem _ (List.mem_cons_of_mem _ (List.mem_cons_of_mem _ List.mem_cons_self))))) g62)
          have l63 := (hL.n (i := 63) (d := 1) (List.mem_cons_of_mem _ (List.mem_cons_of_mem _ (List.mem_cons_of_mem _ (List.mem_cons_of_mem _ (List.mem_cons_of_mem _ (List.mem_cons_of_mem _ List.mem_cons_self)))))) g63)
          have l64 := (hL.n (i := 64) (d := 1) (List.mem_cons_of_mem _ (List.mem_cons_of_mem _ (List.mem_cons_of_mem _ (List.mem_cons_of_mem _ (List.mem_cons_of_mem _ (List.mem_cons_of_mem _ (List.mem_cons_of_mem _ List.mem_cons_self))))))) g64)
          rw [if_neg (show ¬ tk = 0 by omega)] at hm
          refine ih.1 _ ρ' (N + 1) (T + 1) B M (U + 1) sz 0 (by rw [htk2]; exact ht2) ?_ ?_ ?_ ?_ ?_ ?_ ?_ ?_ ?_ hJ1 ?_
          · rw [l57]; exact congrArg some (by omega)
          · exact l58
          · rw [l61]; exact congrArg some (by omega)
          · rw [l62]; exact congrArg some (by omega)
          · rw [l63]; exact congrArg some (by omega)
          · rw [l64]; exact congrArg some (by omega)
          · omega
          · omega
          · omega
          · rw [if_pos rfl]; omega
      rcases List.mem_cons.mp tm with hj | tm
      · subst hj
        have hrv : (Sum.inl (some (.inl 1)) : Option qV ⊕ (Nat × qL × List qV)) = Sum.inl rv := hrv
        cases hrv
        have k58 := hg2.rng (i := 58) (r := (5, 5)) rfl g58
        have k58 : (5 : Int) ≤ tk ∧ tk ≤ 5 := k58
        have k62 : (0 : Int) ≤ (T : Int) ∧ (T : Int) ≤ 6 := hg2.rng (i := 62) (r := (0, 6)) rfl g62
        have k64 : (0 : Int) ≤ (U : Int) ∧ (U : Int) ≤ 29 := hg2.rng (i := 64) (r := (0, 29)) rfl g64
        obtain ⟨en, x1, x3, x4, x5⟩ := hg2.2.2 (1, 67, .negSucc 0, 57, 1) (by decide +kernel)
        have x3 : ρ2[67]? = some en := x3
        have x4 : ρ2[57]? = some x1 := x4
        have x5 : (1 : Int) ≤ 1 * en + (-1) * x1 := x5
        have xe : e = x1 := Option.some.inj (g57.symm.trans x4)
        obtain ⟨tn, y1, y2, y3⟩ := hg2.2.1 68 (1, 5) rfl
        have y2 : (1 : Int) ≤ tn := y2
        obtain ⟨sn, z1, z2, z3, z4⟩ := hg2.2.2 (1, 1, .negSucc 0, 67, 0) (by decide +kernel)
        have z2 : ρ2[1]? = some sn := z2
        have z3 : ρ2[67]? = some z1 := z3
        have z4 : (0 : Int) ≤ 1 * sn + (-1) * z1 := z4
        have ze : sz = sn := Option.some.inj (g1.symm.trans z2)
        have zf : en = z1 := Option.some.inj (x3.symm.trans z3)
        have hx3 : (Int32.ofInt (7 : Int)).toInt = 7 := q_i32of (by omega) (by omega)
        have hy3 : (Int32.ofInt (126 : Int)).toInt = 126 := q_i32of (by omega) (by omega)
        have hJ1 := hj_push hJ (x := Int32.ofInt (7 : Int)) (y := Int32.ofInt (126 : Int)) (Or.inr hx3) (by omega) (U' := U + 1) (by omega) (by omega)
        have eq : q_up (q_up fc 5 ((N : Nat) : Int).toNat (Int32.ofInt (7 : Int))) 6 ((N : Nat) : Int).toNat (Int32.ofInt (126 : Int)) = q_up (q_up fc 5 N (Int32.ofInt (7 : Int))) 6 N (Int32.ofInt (126 : Int)) := by rw [Int.toNat_natCast]
        refine qy_TP.pre (fc' := q_up (q_up fc 5 N (Int32.ofInt (7 : Int))) 6 N (Int32.ofInt (126 : Int))) (ρ' := ρ2) (g' := zPT_s_e41_4.1) (w' := zPT_s_e41_4.2.1) (lo' := zPT_s_e41_4.2.2.1) (st' := zPT_s_e41_4.2.2.2) ?_ (fun ws h => by
          have h1 := h.rf (c := 19) (t := 0) (N := 90) (κ := 5) (kn := []) (or := []) (a := qa 63) (x := .inl 7) (z := ((N : Nat) : Int)) (y := 7) rfl (by decide +kernel) (q_vs g63) rfl rfl rfl
          have h2 := h1.rf (c := 20) (t := 0) (N := 90) (κ := 6) (kn := []) (or := []) (a := qa 63) (x := .inl 126) (z := ((N : Nat) : Int)) (y := 126) rfl (by decide +kernel) (q_vs g63) rfl rfl rfl
          rw [eq] at h2
          exact h2) (fun h => h) (fun _ _ h => h) (fun _ h => h)
        refine qs_lnkB (ρ := ρ2) fa_nil hT hA zPg_e41_4 (fa_cons (fun ρ' htk2 hL hgE _ => ⟨fun rv hrv => ?_, fun q hq => ?_⟩) fa_nil)
        · have hrv : (Sum.inr _ : Option qV ⊕ (Nat × qL × List qV)) = Sum.inl rv := hrv
          cases hrv
        · have hq : (Sum.inr _ : Option qV ⊕ (Nat × qL × List qV)) = Sum.inr q := hq
          cases hq
          have l57 := (hL.n (i := 57) (d := 0) (List.mem_cons_of_mem _ List.mem_cons_self) x3)
          have l58 := (hL.n (i := 58) (d := 0) (List.mem_cons_of_mem _ (List.mem_cons_of_mem _ List.mem_cons_self)) y1)
          have l61 := (hL.n (i := 61) (d := 0) (List.mem_cons_of_mem _ (List.mem_cons_of_mem _ (List.mem_cons_of_mem _ (List.mem_cons_of_mem _ List.mem_cons_self)))) g61)
          have l62 := (hL.n (i := 62) (d := 1) (List.mem_cons_of_mem _ (List.mem_cons_of_mem _ (List.mem_cons_of_mem _ (List.mem_cons_of_mem _ (List.mem_cons_of_mem _ List.mem_cons_self))))) g62)
          have l63 := (hL.n (i := 63) (d := 1) (List.mem_cons_of_mem _ (List.mem_cons_of_mem _ (List.mem_cons_of_mem _ (List.mem_cons_of_mem _ (List.mem_cons_of_mem _ (List.mem_cons_of_mem _ List.mem_cons_self)))))) g63)
          have l64 := (hL.n (i := 64) (d := 1) (List.mem_cons_of_mem _ (List.mem_cons_of_mem _ (List.mem_cons_of_mem _ (List.mem_cons_of_mem _ (List.mem_cons_of_mem _ (List.mem_cons_of_mem _ (List.mem_cons_of_mem _ List.mem_cons_self))))))) g64)
          rw [if_neg (show ¬ tk = 0 by omega)] at hm
          refine ih.1 _ ρ' (N + 1) (T + 1) B M (U + 1) en tn (by rw [htk2]; exact ht2) ?_ ?_ ?_ ?_ ?_ ?_ ?_ ?_ ?_ hJ1 ?_
          · rw [l57]; exact congrArg some (by omega)
          · rw [l58]; exact congrArg some (by omega)
          · rw [l61]; exact congrArg some (by omega)
          · rw [l62]; exact congrArg some (by omega)
          · rw [l63]; exact congrArg some (by omega)
          · rw [l64]; exact congrArg some (by omega)
          · omega
          · omega
          · omega
          · rw [if_neg (show ¬ tn = 0 by omega)]; omega
      rcases List.mem_cons.mp tm with hj | tm
      · subst hj
        have hrv : (Sum.inl (some (.inl 1)) : Option qV ⊕ (Nat × qL × List qV)) = Sum.inl rv := hrv
        cases hrv
        have k58 := hg2.rng (i := 58) (r := (3, 3)) rfl g58
        have k58 : (3 : Int) ≤ tk ∧ tk ≤ 3 := k58
        have k62 : (0 : Int) ≤ (T : Int) ∧ (T : Int) ≤ 6 := hg2.rng (i := 62) (r := (0, 6)) rfl g62
        have hx3 : (Int32.ofInt (3 : Int)).toInt = 3 := q_i32of (by omega) (by omega)
        have hy3 : (Int32.ofInt (126 : Int)).toInt = 126 := q_i32of (by omega) (by omega)
        have hJ1 := hj_push hJ (x := Int32.ofInt (3 : Int)) (y := Int32.ofInt (126 : Int)) (Or.inl ⟨hx3, hy3⟩) (by omega) (U' := U) (by omega) (by omega)
        have eq : q_up (q_up fc 5 ((N : Nat) : Int).toNat (Int32.ofInt (3 : Int))) 6 ((N : Nat) : Int).toNat (Int32.ofInt (126 : Int)) = q_up (q_up fc 5 N (Int32.ofInt (3 : Int))) 6 N (Int32.ofInt (126 : Int)) := by rw [Int.toNat_natCast]
        refine qy_TP.pre (fc' := q_up (q_up fc 5 N (Int32.ofInt (3 : Int))) 6 N (Int32.ofInt (126 : Int))) (ρ' := ρ2) (g' := zPT_s_e41_5.1) (w' := zPT_s_e41_5.2.1) (lo' := zPT_s_e41_5.2.2.1) (st' := zPT_s_e41_5.2.2.2) ?_ (fun ws h => by
          have h1 := h.rf (c := 19) (t := 0) (N := 90) (κ := 5) (kn := []) (or := []) (a := qa 63) (x := .inl 3) (z := ((N : Nat) : Int)) (y := 3) rfl (by decide +kernel) (q_vs g63) rfl rfl rfl
          have h2 := h1.rf (c := 20) (t := 0) (N := 90) (κ := 6) (kn := []) (or := []) (a := qa 63) (x := .inl 126) (z := ((N : Nat) : Int)) (y := 126) rfl (by decide +kernel) (q_vs g63) rfl rfl rfl
          rw [eq] at h2
          exact h2) (fun h => h) (fun _ _ h => h) (fun _ h => h)
        refine qs_lnkB (ρ := ρ2) fa_nil hT hA zPg_e41_5 (fa_cons (fun ρ' htk2 hL hgE _ => ⟨fun rv hrv => ?_, fun q hq => ?_⟩) fa_nil)
        · have hrv : (Sum.inr _ : Option qV ⊕ (Nat × qL × List qV)) = Sum.inl rv := hrv
          cases hrv
        · have hq : (Sum.inr _ : Option qV ⊕ (Nat × qL × List qV)) = Sum.inr q := hq
          cases hq
          have l57 := (hL.n (i := 57) (d := 0) (List.mem_cons_of_mem _ List.mem_cons_self) g1)
          have l58 := (hL.l (i := 58) (z := 0) (List.mem_cons_of_mem _ (List.mem_cons_of_mem _ List.mem_cons_self)))
          have l61 := (hL.n (i := 61) (d := 0) (List.mem_cons_of_mem _ (List.mem_cons_of_mem _ (List.mem_cons_of_mem _ (List.mem_cons_of_mem _ List.mem_cons_self)))) g61)
          have l62 := (hL.n (i := 62) (d := 1) (List.mem_cons_of_mem _ (List.mem_cons_of_mem _ (List.mem_cons_of_mem _ (List.mem_cons_of_mem _ (List.mem_cons_of_mem _ List.mem_cons_self))))) g62)
          have l63 := (hL.n (i := 63) (d := 1) (List.mem_cons_of_mem _ (List.mem_cons_of_mem _ (List.mem_cons_of_mem _ (List.mem_cons_of_mem _ (List.mem_cons_of_mem _ (List.mem_cons_of_mem _ List.mem_cons_self)))))) g63)
          have l64 := (hL.n (i := 64) (d := 0) (List.mem_cons_of_mem _ (List.mem_cons_of_mem _ (List.mem_cons_of_mem _ (List.mem_cons_of_mem _ (List.mem_cons_of_mem _ (List.mem_cons_of_mem _ (List.mem_cons_of_mem _ List.mem_cons_self))))))) g64)
          rw [if_neg (show ¬ tk = 0 by omega)] at hm
          refine ih.1 _ ρ' (N + 1) (T + 1) B M U sz 0 (by rw [htk2]; exact ht2) ?_ ?_ ?_ ?_ ?_ ?_ ?_ ?_ ?_ hJ1 ?_
          · rw [l57]; exact congrArg some (by omega)
          · exact l58
          · rw [l61]; exact congrArg some (by omega)
          · rw [l62]; exact congrArg some (by omega)
          · rw [l63]; exact congrArg some (by omega)
          · rw [l64]; exact congrArg some (by omega)
          · omega
          · omega
          · omega
          · rw [if_pos rfl]; omega
      rcases List.mem_cons.mp tm with hj | tm
      · subst hj
        have hrv : (Sum.inl (some (.inl 1)) : Option qV ⊕ (Nat × qL × List qV)) = Sum.inl rv := hrv
        cases hrv
        have k58 := hg2.rng (i := 58) (r := (3, 3)) rfl g58
        have k58 : (3 : Int) ≤ tk ∧ tk ≤ 3 := k58
        have k62 : (0 : Int) ≤ (T : Int) ∧ (T : Int) ≤ 6 := hg2.rng (i := 62) (r := (0, 6)) rfl g62
        obtain ⟨en, x1, x3, x4, x5⟩ := hg2.2.2 (1, 67, .negSucc 0, 57, 1) (by decide +kernel)
        have x3 : ρ2[67]? = some en := x3
        have x4 : ρ2[57]? = some x1 := x4
        have x5 : (1 : Int) ≤ 1 * en + (-1) * x1 := x5
        have xe : e = x1 := Option.some.inj (g57.symm.trans x4)
        obtain ⟨tn, y1, y2, y3⟩ := hg2.2.1 68 (1, 5) rfl
        have y2 : (1 : Int) ≤ tn := y2
        obtain ⟨sn, z1, z2, z3, z4⟩ := hg2.2.2 (1, 1, .negSucc 0, 67, 0) (by decide +kernel)
        have z2 : ρ2[1]? = some sn := z2
        have z3 : ρ2[67]? = some z1 := z3
        have z4 : (0 : Int) ≤ 1 * sn + (-1) * z1 := z4
        have ze : sz = sn := Option.some.inj (g1.symm.trans z2)
        have zf : en = z1 := Option.some.inj (x3.symm.trans z3)
        have hx3 : (Int32.ofInt (3 : Int)).toInt = 3 := q_i32of (by omega) (by omega)
        have hy3 : (Int32.ofInt (126 : Int)).toInt = 126 := q_i32of (by omega) (by omega)
        have hJ1 := hj_push hJ (x := Int32.ofInt (3 : Int)) (y := Int32.ofInt (126 : Int)) (Or.inl ⟨hx3, hy3⟩) (by omega) (U' := U) (by omega) (by omega)
        have eq : q_up (q_up fc 5 ((N : Nat) : Int).toNat (Int32.ofInt (3 : Int))) 6 ((N : Nat) : Int).toNat (Int32.ofInt (126 : Int)) = q_up (q_up fc 5 N (Int32.ofInt (3 : Int))) 6 N (Int32.ofInt (126 : Int)) := by rw [Int.toNat_natCast]
        refine qy_TP.pre (fc' := q_up (q_up fc 5 N (Int32.ofInt (3 : Int))) 6 N (Int32.ofInt (126 : Int))) (ρ' := ρ2) (g' := zPT_s_e41_6.1) (w' := zPT_s_e41_6.2.1) (lo' := zPT_s_e41_6.2.2.1) (st' := zPT_s_e41_6.2.2.2) ?_ (fun ws h => by
          have h1 := h.rf (c := 19) (t := 0) (N := 90) (κ := 5) (kn := []) (or := []) (a := qa 63) (x := .inl 3) (z := ((N : Nat) : Int)) (y := 3) rfl (by decide +kernel) (q_vs g63) rfl rfl rfl
          have h2 := h1.rf (c := 20) (t := 0) (N := 90) (κ := 6) (kn := []) (or := []) (a := qa 63) (x := .inl 126) (z := ((N : Nat) : Int)) (y := 126) rfl (by decide +kernel) (q_vs g63) rfl rfl rfl
          rw [eq] at h2
          exact h2) (fun h => h) (fun _ _ h => h) (fun _ h => h)
        refine qs_lnkB (ρ := ρ2) fa_nil hT hA zPg_e41_6 (fa_cons (fun ρ' htk2 hL hgE _ => ⟨fun rv hrv => ?_, fun q hq => ?_⟩) fa_nil)
        · have hrv : (Sum.inr _ : Option qV ⊕ (Nat × qL × List qV)) = Sum.inl rv := hrv
          cases hrv
        · have hq : (Sum.inr _ : Option qV ⊕ (Nat × qL × List qV)) = Sum.inr q := hq
          cases hq
          have l57 := (hL.n (i := 57) (d := 0) (List.mem_cons_of_mem _ List.mem_cons_self) x3)
          have l58 := (hL.n (i := 58) (d := 0) (List.mem_cons_of_mem _ (List.mem_cons_of_mem _ List.mem_cons_self)) y1)
          have l61 := (hL.n (i := 61) (d := 0) (List.mem_cons_of_mem _ (List.mem_cons_of_mem _ (List.mem_cons_of_mem _ (List.mem_cons_of_mem _ List.mem_cons_self)))) g61)
          have l62 := (hL.n (i := 62) (d := 1) (List.mem_cons_of_mem _ (List.mem_cons_of_mem _ (List.mem_cons_of_mem _ (List.mem_cons_of_mem _ (List.mem_cons_of_mem _ List.mem_cons_self))))) g62)
          have l63 := (hL.n (i := 63) (d := 1) (List.mem_cons_of_mem _ (List.mem_cons_of_mem _ (List.mem_cons_of_mem _ (List.mem_cons_of_mem _ (List.mem_cons_of_mem _ (List.mem_cons_of_mem _ List.mem_cons_self)))))) g63)
          have l64 := (hL.n (i := 64) (d := 0) (List.mem_cons_of_mem _ (List.mem_cons_of_mem _ (List.mem_cons_of_mem _ (List.mem_cons_of_mem _ (List.mem_cons_of_mem _ (List.mem_cons_of_mem _ (List.mem_cons_of_mem _ List.mem_cons_self))))))) g64)
          rw [if_neg (show ¬ tk = 0 by omega)] at hm
          refine ih.1 _ ρ' (N + 1) (T + 1) B M U en tn (by rw [htk2]; exact ht2) ?_ ?_ ?_ ?_ ?_ ?_ ?_ ?_ ?_ hJ1 ?_
          · rw [l57]; exact congrArg some (by omega)
          · rw [l58]; exact congrArg some (by omega)
          · rw [l61]; exact congrArg some (by omega)
          · rw [l62]; exact congrArg some (by omega)
          · rw [l63]; exact congrArg some (by omega)
          · rw [l64]; exact congrArg some (by omega)
          · omega
          · omega
          · omega
          · rw [if_neg (show ¬ tn = 0 by omega)]; omega
      cases tm
    · intro fc ρ N T B M U e tk ht h57 h58 h61 h62 h63 h64 hee hes htk hJ hm
      refine qy_TP.intro fun _ hg => ?_
      have hl : ρ.length = 66 := hg.len rfl
      have hbd := hj_bd hJ
      have h1 := q_tkb ht hsz
      obtain ⟨N1, hN1⟩ : ∃ N1, N = N1 + 1 := ⟨N - 1, by omega⟩
      rw [hN1] at h63 hJ hm hbd
      refine qy_TP.pre (ρ' := ρ) (g' := zPT_s_b0.1) (w' := zPT_s_b0.2.1) (lo' := zPT_C45.2.2.1) (st' := zPT_C45.2.2.2) ?_ (fun ws h => h) (fun h => h.to0 [(61, 560, 859), (63, 1, 39)] [] (by decide +kernel) rfl (by decide +kernel) (fa_ex h61 (by omega) (by omega) (fa_ex h63 (by omega) (by omega) fa_nil)) fa_nil) (fun _ _ h => h) (fun _ h => h)
      obtain ⟨hM, hcls, hrun⟩ := qs_vc (ex := ex) hT hA (k := 203) (pc := 45) rfl
      have exb : ∀ {ρ2 : List Int}, ρ2.take 66 = ρ → qe ρ ρ2 := fun {ρ2} h => ⟨ρ2.drop 66, by rw [← h, List.take_append_drop]⟩
      refine qy_TP.call (d := 10) (cs := [.inr (.inr (.inl (some 0)))]) (st := []) (av := [(0, .inr (.inr (.inl (some 0))))]) hM hcls hrun rfl rfl (by decide) (by decide +kernel) (Or.inr (Or.inr ⟨by decide, 0, 0, [], _, rfl, rfl⟩)) (zPbu hT hA hgo h61 h62 h63 hJ) (fun f r o ho => ⟨exb ho.1, ?no⟩) ?go
      case no =>
        rcases ho.2 with ⟨-, h | h⟩ | ⟨_, _, _, _, _, _, _, ⟨h, -⟩ | ⟨h, -⟩⟩ | ⟨_, _, _, _, _, _, ⟨h, -⟩ | ⟨h, -⟩⟩ | ⟨_, _, _, _, h, -⟩
        all_goals exact ⟨_, by rw [h]⟩
      case go =>
        intro fc2 ρ2 o rv ho hrv _ hg2
        obtain ⟨htb, ho⟩ := ho
        have hqb := exb htb
        have ht2 : ρ2.take 56 = ρe := by obtain ⟨r2, hr2⟩ := hqb; rw [hr2, List.take_append_of_le_length (by omega)]; exact ht
        have g1 := hqb.at h1
        have g57 := hqb.at h57
        have g58 := hqb.at h58
        have g61 := hqb.at h61
        have g62 := hqb.at h62
        have g63 := hqb.at h63
        have g64 := hqb.at h64
        rcases ho with ⟨hfr, ho⟩ | ⟨N2, T2, B2, M2, ⟨tk2, tk3, tk4⟩, hN2, hJ2, ho⟩ | ⟨N2, T2, B2, M2, hN2, hJ2, ho⟩ | ⟨M2, hw2, hM2, hfr, ho, hc66, hp68⟩
        · rcases ho with ho | ho
          · rw [ho] at hrv hg2
            rw [ho]
            have hrv : (Sum.inl (some (.inl 0)) : Option qV ⊕ (Nat × qL × List qV)) = Sum.inl rv := hrv
            cases hrv
            refine qs_lnkB (ρ := ρ2) fa_nil hT hA zPg_e48_BF0 (fa_cons (fun ρ' htk2 hL hgE _ => ⟨fun rv hrv => ?r0, fun q hq => ?c0⟩) fa_nil)
            case r0 => exact ⟨ext ht2 htk2, hfr, Or.inl rfl⟩
            case c0 =>
              have hq : (Sum.inl _ : Option qV ⊕ (Nat × qL × List qV)) = Sum.inr q := hq
              cases hq
          · rw [ho] at hrv hg2
            rw [ho]
            have hrv : (Sum.inl (some (.inl 1)) : Option qV ⊕ (Nat × qL × List qV)) = Sum.inl rv := hrv
            cases hrv
            refine qs_lnkB (ρ := ρ2) fa_nil hT hA zPg_e48_BF1 (fa_cons (fun ρ' htk2 hL hgE _ => ⟨fun rv hrv => ?r0, fun q hq => ?c0⟩) fa_nil)
            case r0 => exact ⟨ext ht2 htk2, hfr, Or.inl rfl⟩
            case c0 =>
              have hq : (Sum.inl _ : Option qV ⊕ (Nat × qL × List qV)) = Sum.inr q := hq
              cases hq
        · rcases ho with ⟨ho, p68, p69, p70⟩ | ⟨ho, p71, p72, p73⟩
          · rw [ho] at hrv hg2
            rw [ho]
            have hrv : (Sum.inl (some (.inl 1)) : Option qV ⊕ (Nat × qL × List qV)) = Sum.inl rv := hrv
            cases hrv
            refine qs_lnkB (ρ := ρ2) fa_nil hT hA zPg_e48_B01 (fa_cons (fun ρ' htk2 hL hgE _ => ⟨fun rv hrv => ?r0, fun q hq => ?c0⟩) (fa_cons (fun ρ' htk2 hL hgE _ => ⟨fun rv hrv => ?r1, fun q hq => ?c1⟩) fa_nil))
            case r0 =>
              have hrv : (Sum.inr _ : Option qV ⊕ (Nat × qL × List qV)) = Sum.inl rv := hrv
              cases hrv
            case c0 =>
              have hq : (Sum.inr _ : Option qV ⊕ (Nat × qL × List qV)) = Sum.inr q := hq
              cases hq
              have l57 := (hL.n (i := 57) (d := 0) (List.mem_cons_of_mem _ List.mem_cons_self) g1)
              have l58 := (hL.l (i := 58) (z := 0) (List.mem_cons_of_mem _ (List.mem_cons_of_mem _ List.mem_cons_self)))
              have l61 := (hL.n (i := 61) (d := 0) (List.mem_cons_of_mem _ (List.mem_cons_of_mem _ (List.mem_cons_of_mem _ (List.mem_cons_of_mem _ List.mem_cons_self)))) p68)
              have l62 := (hL.n (i := 62) (d := 0) (List.mem_cons_of_mem _ (List.mem_cons_of_mem _ (List.mem_cons_of_mem _ (List.mem_cons_of_mem _ (List.mem_cons_of_mem _ List.mem_cons_self))))) p69)
              have l63 := (hL.n (i := 63) (d := 0) (List.mem_cons_of_mem _ (List.mem_cons_of_mem _ (List.mem_cons_of_mem _ (List.mem_cons_of_mem _ (List.mem_cons_of_mem _ (List.mem_cons_of_mem _ List.mem_cons_self)))))) p70)
              have l64 := (hL.n (i := 64) (d := 0) (List.mem_cons_of_mem _ (List.mem_cons_of_mem _ (List.mem_cons_of_mem _ (List.mem_cons_of_mem _ (List.mem_cons_of_mem _ (List.mem_cons_of_mem _ (List.mem_cons_of_mem _ List.mem_cons_self))))))) g64)
              have hms : (0 : Int) ≤ (if tk = 0 then (0 : Int) else 1) := by split <;> omega
              have tke : tk = tk2 := Option.some.inj (h58.symm.trans tk3)
              rw [if_neg (show ¬ tk = 0 by omega)] at hm
              refine ih.1 _ ρ' N2 T2 B2 M2 U sz 0 (by rw [htk2]; exact ht2) ?_ ?_ ?_ ?_ ?_ ?_ ?_ ?_ ?_ hJ2 ?_
              · rw [l57]; exact congrArg some (by omega)
              · exact l58
              · rw [l61]; exact congrArg some (by omega)
              · rw [l62]; exact congrArg some (by omega)
              · rw [l63]; exact congrArg some (by omega)
              · rw [l64]; exact congrArg some (by omega)
              · omega
              · omega
              · omega
              · rw [if_pos rfl]; omega
            case r1 =>
              exfalso
              have l63 := (hL.n (i := 63) (d := 0) (List.mem_cons_of_mem _ (List.mem_cons_of_mem _ (List.mem_cons_of_mem _ (List.mem_cons_of_mem _ (List.mem_cons_of_mem _ (List.mem_cons_of_mem _ List.mem_cons_self)))))) p70)
              have := hgE.rng (i := 63) (r := (.negSucc 2147483647, 0)) rfl l63
              have h0 : ((N2 : Int) + 0) ≤ 0 := this.2
              have := hj_bd hJ2
              omega
            case c1 =>
              have hq : (Sum.inl _ : Option qV ⊕ (Nat × qL × List qV)) = Sum.inr q := hq
              cases hq
          · rw [ho] at hrv hg2
            rw [ho]
            have hrv : (Sum.inl (some (.inl 1)) : Option qV ⊕ (Nat × qL × List qV)) = Sum.inl rv := hrv
            cases hrv
            refine qs_lnkB (ρ := ρ2) fa_nil hT hA zPg_e48_B11 (fa_cons (fun ρ' htk2 hL hgE _ => ⟨fun rv hrv => ?r0, fun q hq => ?c0⟩) (fa_cons (fun ρ' htk2 hL hgE _ => ⟨fun rv hrv => ?r1, fun q hq => ?c1⟩) fa_nil))
            case r0 =>
              have hrv : (Sum.inr _ : Option qV ⊕ (Nat × qL × List qV)) = Sum.inl rv := hrv
              cases hrv
            case c0 =>
              have hq : (Sum.inr _ : Option qV ⊕ (Nat × qL × List qV)) = Sum.inr q := hq
              cases hq
              obtain ⟨en, x1, x3, x4, x5⟩ := hg2.2.2 (1, 67, .negSucc 0, 57, 1) (by decide +kernel)
              have x3 : ρ2[67]? = some en := x3
              have x4 : ρ2[57]? = some x1 := x4
              have x5 : (1 : Int) ≤ 1 * en + (-1) * x1 := x5
              have xe : e = x1 := Option.some.inj (g57.symm.trans x4)
              obtain ⟨tn, y1, y2, y3⟩ := hg2.2.1 68 (1, 5) rfl
              have y2 : (1 : Int) ≤ tn := y2
              obtain ⟨sn, z1, z2, z3, z4⟩ := hg2.2.2 (1, 1, .negSucc 0, 67, 0) (by decide +kernel)
              have z2 : ρ2[1]? = some sn := z2
              have z3 : ρ2[67]? = some z1 := z3
              have z4 : (0 : Int) ≤ 1 * sn + (-1) * z1 := z4
              have ze : sz = sn := Option.some.inj (g1.symm.trans z2)
              have zf : en = z1 := Option.some.inj (x3.symm.trans z3)
              have l57 := (hL.n (i := 57) (d := 0) (List.mem_cons_of_mem _ List.mem_cons_self) x3)
              have l58 := (hL.n (i := 58) (d := 0) (List.mem_cons_of_mem _ (List.mem_cons_of_mem _ List.mem_cons_self)) y1)
              have l61 := (hL.n (i := 61) (d := 0) (List.mem_cons_of_mem _ (List.mem_cons_of_mem _ (List.mem_cons_of_mem _ (List.mem_cons_of_mem _ List.mem_cons_self)))) p71)
              have l62 := (hL.n (i := 62) (d := 0) (List.mem_cons_of_mem _ (List.mem_cons_of_mem _ (List.mem_cons_of_mem _ (List.mem_cons_of_mem _ (List.mem_cons_of_mem _ List.mem_cons_self))))) p72)
              have l63 := (hL.n (i := 63) (d := 0) (List.mem_cons_of_mem _ (List.mem_cons_of_mem _ (List.mem_cons_of_mem _ (List.mem_cons_of_mem _ (List.mem_cons_of_mem _ (List.mem_cons_of_mem _ List.mem_cons_self)))))) p73)
              have l64 := (hL.n (i := 64) (d := 0) (List.mem_cons_of_mem _ (List.mem_cons_of_mem _ (List.mem_cons_of_mem _ (List.mem_cons_of_mem _ (List.mem_cons_of_mem _ (List.mem_cons_of_mem _ (List.mem_cons_of_mem _ List.mem_cons_self))))))) g64)
              have hms : (0 : Int) ≤ (if tk = 0 then (0 : Int) else 1) := by split <;> omega
              have tke : tk = tk2 := Option.some.inj (h58.symm.trans tk3)
              rw [if_neg (show ¬ tk = 0 by omega)] at hm
              refine ih.1 _ ρ' N2 T2 B2 M2 U en tn (by rw [htk2]; exact ht2) ?_ ?_ ?_ ?_ ?_ ?_ ?_ ?_ ?_ hJ2 ?_
              · rw [l57]; exact congrArg some (by omega)
              · rw [l58]; exact congrArg some (by omega)
              · rw [l61]; exact congrArg some (by omega)
              · rw [l62]; exact congrArg some (by omega)
              · rw [l63]; exact congrArg some (by omega)
              · rw [l64]; exact congrArg some (by omega)
              · omega
              · omega
              · omega
              · rw [if_neg (show ¬ tn = 0 by omega)]; omega
            case r1 =>
              exfalso
              have l63 := (hL.n (i := 63) (d := 0) (List.mem_cons_of_mem _ (List.mem_cons_of_mem _ (List.mem_cons_of_mem _ (List.mem_cons_of_mem _ (List.mem_cons_of_mem _ (List.mem_cons_of_mem _ List.mem_cons_self)))))) p73)
              have := hgE.rng (i := 63) (r := (.negSucc 2147483647, 0)) rfl l63
              have h0 : ((N2 : Int) + 0) ≤ 0 := this.2
              have := hj_bd hJ2
              omega
            case c1 =>
              have hq : (Sum.inl _ : Option qV ⊕ (Nat × qL × List qV)) = Sum.inr q := hq
              cases hq
        · rcases ho with ⟨ho, p68, p69, p70⟩ | ⟨ho, p71, p72, p73⟩
          · rw [ho] at hrv hg2
            rw [ho]
            have hrv : (Sum.inl (some (.inl 0)) : Option qV ⊕ (Nat × qL × List qV)) = Sum.inl rv := hrv
            cases hrv
            refine qs_lnkB (ρ := ρ2) fa_nil hT hA zPg_e48_B00 (fa_cons (fun ρ' htk2 hL hgE _ => ⟨fun rv hrv => ?r0, fun q hq => ?c0⟩) (fa_cons (fun ρ' htk2 hL hgE _ => ⟨fun rv hrv => ?r1, fun q hq => ?c1⟩) fa_nil))
            case r0 =>
              have hrv : (Sum.inr _ : Option qV ⊕ (Nat × qL × List qV)) = Sum.inl rv := hrv
              cases hrv
            case c0 =>
              have hq : (Sum.inr _ : Option qV ⊕ (Nat × qL × List qV)) = Sum.inr q := hq
              cases hq
              have l57 := (hL.n (i := 57) (d := 0) (List.mem_cons_of_mem _ List.mem_cons_self) g1)
              have l58 := (hL.l (i := 58) (z := 0) (List.mem_cons_of_mem _ (List.mem_cons_of_mem _ List.mem_cons_self)))
              have l61 := (hL.n (i := 61) (d := 0) (List.mem_cons_of_mem _ (List.mem_cons_of_mem _ (List.mem_cons_of_mem _ (List.mem_cons_of_mem _ List.mem_cons_self)))) p68)
              have l62 := (hL.n (i := 62) (d := 0) (List.mem_cons_of_mem _ (List.mem_cons_of_mem _ (List.mem_cons_of_mem _ (List.mem_cons_of_mem _ (List.mem_cons_of_mem _ List.mem_cons_self))))) p69)
              have l63 := (hL.n (i := 63) (d := 0) (List.mem_cons_of_mem _ (List.mem_cons_of_mem _ (List.mem_cons_of_mem _ (List.mem_cons_of_mem _ (List.mem_cons_of_mem _ (List.mem_cons_of_mem _ List.mem_cons_self)))))) p70)
              have l64 := (hL.n (i := 64) (d := 0) (List.mem_cons_of_mem _ (List.mem_cons_of_mem _ (List.mem_cons_of_mem _ (List.mem_cons_of_mem _ (List.mem_cons_of_mem _ (List.mem_cons_of_mem _ (List.mem_cons_of_mem _ List.mem_cons_self))))))) g64)
              have hms : (0 : Int) ≤ (if tk = 0 then (0 : Int) else 1) := by split <;> omega
              refine ih.2 _ ρ' N2 T2 B2 M2 U sz 0 (by rw [htk2]; exact ht2) ?_ ?_ ?_ ?_ ?_ ?_ ?_ ?_ ?_ hJ2 ?_
              · rw [l57]; exact congrArg some (by omega)
              · exact l58
              · rw [l61]; exact congrArg some (by omega)
              · rw [l62]; exact congrArg some (by omega)
              · rw [l63]; exact congrArg some (by omega)
              · rw [l64]; exact congrArg some (by omega)
              · omega
              · omega
              · omega
              · rw [if_pos rfl]; omega
            case r1 =>
              exfalso
              have l63 := (hL.n (i := 63) (d := 0) (List.mem_cons_of_mem _ (List.mem_cons_of_mem _ (List.mem_cons_of_mem _ (List.mem_cons_of_mem _ (List.mem_cons_of_mem _ (List.mem_cons_of_mem _ List.mem_cons_self)))))) p70)
              have := hgE.rng (i := 63) (r := (.negSucc 2147483647, 0)) rfl l63
              have h0 : ((N2 : Int) + 0) ≤ 0 := this.2
              have := hj_bd hJ2
              omega
            case c1 =>
              have hq : (Sum.inl _ : Option qV ⊕ (Nat × qL × List qV)) = Sum.inr q := hq
              cases hq
          · rw [ho] at hrv hg2
            rw [ho]
            have hrv : (Sum.inl (some (.inl 0)) : Option qV ⊕ (Nat × qL × List qV)) = Sum.inl rv := hrv
            cases hrv
            refine qs_lnkB (ρ := ρ2) fa_nil hT hA zPg_e48_B10 (fa_cons (fun ρ' htk2 hL hgE _ => ⟨fun rv hrv => ?r0, fun q hq => ?c0⟩) (fa_cons (fun ρ' htk2 hL hgE _ => ⟨fun rv hrv => ?r1, fun q hq => ?c1⟩) fa_nil))
            case r0 =>
              have hrv : (Sum.inr _ : Option qV ⊕ (Nat × qL × List qV)) = Sum.inl rv := hrv
              cases hrv
            case c0 =>
              have hq : (Sum.inr _ : Option qV ⊕ (Nat × qL × List qV)) = Sum.inr q := hq
              cases hq
              obtain ⟨en, x1, x3, x4, x5⟩ := hg2.2.2 (1, 67, .negSucc 0, 57, 1) (by decide +kernel)
              have x3 : ρ2[67]? = some en := x3
              have x4 : ρ2[57]? = some x1 := x4
              have x5 : (1 : Int) ≤ 1 * en + (-1) * x1 := x5
              have xe : e = x1 := Option.some.inj (g57.symm.trans x4)
              obtain ⟨tn, y1, y2, y3⟩ := hg2.2.1 68 (1, 5) rfl
              have y2 : (1 : Int) ≤ tn := y2
              obtain ⟨sn, z1, z2, z3, z4⟩ := hg2.2.2 (1, 1, .negSucc 0, 67, 0) (by decide +kernel)
              have z2 : ρ2[1]? = some sn := z2
              have z3 : ρ2[67]? = some z1 := z3
              have z4 : (0 : Int) ≤ 1 * sn + (-1) * z1 := z4
              have ze : sz = sn := Option.some.inj (g1.symm.trans z2)
              have zf : en = z1 := Option.some.inj (x3.symm.trans z3)
              have l57 := (hL.n (i := 57) (d := 0) (List.mem_cons_of_mem _ List.mem_cons_self) x3)
              have l58 := (hL.n (i := 58) (d := 0) (List.mem_cons_of_mem _ (List.mem_cons_of_mem _ List.mem_cons_self)) y1)
              have l61 := (hL.n (i := 61) (d := 0) (List.mem_cons_of_mem _ (List.mem_cons_of_mem _ (List.mem_cons_of_mem _ (List.mem_cons_of_mem _ List.mem_cons_self)))) p71)
              have l62 := (hL.n (i := 62) (d := 0) (List.mem_cons_of_mem _ (List.mem_cons_of_mem _ (List.mem_cons_of_mem _ (List.mem_cons_of_mem _ (List.mem_cons_of_mem _ List.mem_cons_self))))) p72)
              have l63 := (hL.n (i := 63) (d := 0) (List.mem_cons_of_mem _ (List.mem_cons_of_mem _ (List.mem_cons_of_mem _ (List.mem_cons_of_mem _ (List.mem_cons_of_mem _ (List.mem_cons_of_mem _ List.mem_cons_self)))))) p73)
              have l64 := (hL.n (i := 64) (d := 0) (List.mem_cons_of_mem _ (List.mem_cons_of_mem _ (List.mem_cons_of_mem _ (List.mem_cons_of_mem _ (List.mem_cons_of_mem _ (List.mem_cons_of_mem _ (List.mem_cons_of_mem _ List.mem_cons_self))))))) g64)
              have hms : (0 : Int) ≤ (if tk = 0 then (0 : Int) else 1) := by split <;> omega
              refine ih.2 _ ρ' N2 T2 B2 M2 U en tn (by rw [htk2]; exact ht2) ?_ ?_ ?_ ?_ ?_ ?_ ?_ ?_ ?_ hJ2 ?_
              · rw [l57]; exact congrArg some (by omega)
              · rw [l58]; exact congrArg some (by omega)
              · rw [l61]; exact congrArg some (by omega)
              · rw [l62]; exact congrArg some (by omega)
              · rw [l63]; exact congrArg some (by omega)
              · rw [l64]; exact congrArg some (by omega)
              · omega
              · omega
              · omega
              · rw [if_neg (show ¬ tn = 0 by omega)]; omega
            case r1 =>
              exfalso
              have l63 := (hL.n (i := 63) (d := 0) (List.mem_cons_of_mem _ (List.mem_cons_of_mem _ (List.mem_cons_of_mem _ (List.mem_cons_of_mem _ (List.mem_cons_of_mem _ (List.mem_cons_of_mem _ List.mem_cons_self)))))) p73)
              have := hgE.rng (i := 63) (r := (.negSucc 2147483647, 0)) rfl l63
              have h0 : ((N2 : Int) + 0) ≤ 0 := this.2
              have := hj_bd hJ2
              omega
            case c1 =>
              have hq : (Sum.inl _ : Option qV ⊕ (Nat × qL × List qV)) = Sum.inr q := hq
              cases hq
        · rw [ho] at hrv hg2
          rw [ho]
          have hrv : (Sum.inl (some (.inl 0)) : Option qV ⊕ (Nat × qL × List qV)) = Sum.inl rv := hrv
          cases hrv
          refine qs_lnkB (ρ := ρ2) fa_nil hT hA zPg_e48_BC0 (fa_cons (fun ρ' htk2 hL hgE _ => ⟨fun rv hrv => ?r0, fun q hq => ?c0⟩) (fa_cons (fun ρ' htk2 hL hgE _ => ⟨fun rv hrv => ?r1, fun q hq => ?c1⟩) fa_nil))
          case r0 =>
            have hrv : (Sum.inr _ : Option qV ⊕ (Nat × qL × List qV)) = Sum.inl rv := hrv
            cases hrv
          case c0 =>
            exfalso
            have l63 := (hL.n (i := 63) (d := 0) (List.mem_cons_of_mem _ (List.mem_cons_of_mem _ (List.mem_cons_of_mem _ (List.mem_cons_of_mem _ (List.mem_cons_of_mem _ (List.mem_cons_of_mem _ List.mem_cons_self)))))) hp68)
            have := hgE.rng (i := 63) (r := (1, 40)) rfl l63
            have h0 : (1 : Int) ≤ 0 + 0 := this.1
            omega
          case r1 =>
            refine ⟨ext ht2 htk2, hfr, Or.inr ⟨rfl, M2, e, e0, ?_, hw2, hM2, he0, ?_, hee⟩⟩
            · rw [(hL.n (i := 61) (d := 0) (List.mem_cons_of_mem _ (List.mem_cons_of_mem _ (List.mem_cons_of_mem _ (List.mem_cons_of_mem _ List.mem_cons_self)))) hc66)]; exact congrArg some (by omega)
            · rw [(hL.n (i := 57) (d := 0) (List.mem_cons_of_mem _ List.mem_cons_self) g57)]; exact congrArg some (by omega)
          case c1 =>
            have hq : (Sum.inl _ : Option qV ⊕ (Nat × qL × List qV)) = Sum.inr q := hq
            cases hq
theorem zPee (hT : zk_t) (hA : zk_a) (hgo : ∀ fc, qy_V ex (qΓ1 fc) D as tys zPk2) {fc : Nat → Nat → Int32} {ρ : List Int} {sz e0 tk : Int} (hsz : ρ[1]? = some sz) (he0 : ρ[46]? = some e0) (htk : ρ[47]? = some tk) (htk0 : 0 ≤ tk) (hc : ρ[50]? = some (560 : Int)) (hu : ρ[53]? = some (0 : Int)) (hes : e0 ≤ sz) :
    qy_TP ex D as tys 11 203 fc ρ zPT_s_e0.1 zPT_s_e0.2.1 zPT_s_e0.2.2.1 zPT_s_e0.2.2.2 0 (zPPE fc ρ) := by
  refine qy_TP.intro fun _ hg => ?_
  have hl : ρ.length = 56 := hg.len rfl
  refine qs_lnkB fa_nil hT hA zPg_e0 (fa_cons (fun ρ1 htk1 hL hg1 _ => ⟨fun rv hrv => ?_, fun q hq => ?_⟩) fa_nil)
  · have hrv : (Sum.inr _ : Option qV ⊕ (Nat × qL × List qV)) = Sum.inl rv := hrv
    cases hrv
  · have hq : (Sum.inr _ : Option qV ⊕ (Nat × qL × List qV)) = Sum.inr q := hq
    cases hq
    have ht : ρ1.take 56 = ρ := by rw [htk1, List.take_of_length_le (by omega)]
    have hJ := hj_new (fc := fc) (C0 := fc) (a := 560) (fun _ _ _ _ => rfl)
    have e8 : (Int32.ofInt (8 : Int)) = 8 := rfl
    have e00 : (Int32.ofInt (0 : Int)) = 0 := rfl
    refine qy_TP.pre (fc' := q_up (q_up fc 5 0 8) 6 0 0) (ρ' := ρ1) (g' := zPT_s_e17.1) (w' := zPT_s_e17.2.1) (lo' := zPT_s_e17.2.2.1) (st' := zPT_s_e17.2.2.2) ?_ (fun ws h => by
      have h1 := h.rf (c := 19) (t := 0) (N := 90) (κ := 5) (kn := []) (or := []) (a := .inl 0) (x := .inl 8) (z := 0) (y := 8) rfl (by decide +kernel) rfl rfl rfl rfl
      exact h1.rf (c := 20) (t := 0) (N := 90) (κ := 6) (kn := []) (or := []) (a := .inl 0) (x := .inl 0) (z := 0) (y := 0) rfl (by decide +kernel) rfl rfl rfl rfl) (fun h => h) (fun _ _ h => h) (fun _ h => h)
    have g1 := q_tkb ht hsz
    refine qs_lnkB (ρ := ρ1) fa_nil hT hA zPg_e17 (fa_cons (fun ρ2 htk2 hL hg2 _ => ⟨fun rv hrv => ?_, fun q hq => ?_⟩) fa_nil)
    · have hrv : (Sum.inr _ : Option qV ⊕ (Nat × qL × List qV)) = Sum.inl rv := hrv
      cases hrv
    · have hq : (Sum.inr _ : Option qV ⊕ (Nat × qL × List qV)) = Sum.inr q := hq
      cases hq
      refine (zPeloop hT hA hgo hl hsz he0 (100 * (2 * (sz - e0) + 1) + 2).toNat).1 _ ρ2 1 0 0 0 0 e0 tk (by rw [htk2]; exact ht) ?_ ?_ ?_ ?_ ?_ ?_ (Int.le_refl _) hes htk0 hJ ?_
      · rw [(hL.n (i := 57) (d := 0) (List.mem_cons_of_mem _ List.mem_cons_self) (q_tkb ht he0))]; exact congrArg some (by omega)
      · rw [(hL.n (i := 58) (d := 0) (List.mem_cons_of_mem _ (List.mem_cons_of_mem _ List.mem_cons_self)) (q_tkb ht htk))]; exact congrArg some (by omega)
      · rw [(hL.n (i := 61) (d := 0) (List.mem_cons_of_mem _ (List.mem_cons_of_mem _ (List.mem_cons_of_mem _ (List.mem_cons_of_mem _ List.mem_cons_self)))) (q_tkb ht hc))]; exact congrArg some (by omega)
      · exact (hL.l (i := 62) (z := 0) (List.mem_cons_of_mem _ (List.mem_cons_of_mem _ (List.mem_cons_of_mem _ (List.mem_cons_of_mem _ (List.mem_cons_of_mem _ List.mem_cons_self))))))
      · exact (hL.l (i := 63) (z := 1) (List.mem_cons_of_mem _ (List.mem_cons_of_mem _ (List.mem_cons_of_mem _ (List.mem_cons_of_mem _ (List.mem_cons_of_mem _ (List.mem_cons_of_mem _ List.mem_cons_self)))))))
      · rw [(hL.n (i := 64) (d := 0) (List.mem_cons_of_mem _ (List.mem_cons_of_mem _ (List.mem_cons_of_mem _ (List.mem_cons_of_mem _ (List.mem_cons_of_mem _ (List.mem_cons_of_mem _ (List.mem_cons_of_mem _ List.mem_cons_self))))))) (q_tkb ht hu))]; exact congrArg some (by omega)
      · split <;> omega
end zPE
