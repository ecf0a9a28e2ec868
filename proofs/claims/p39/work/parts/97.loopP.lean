/-! behindUnit() of the reference: the loop, by program (wip/p44/emloop.py) -/
def zPPB (fc0 : Nat → Nat → Int32) (ρb : List Int) (Nb U : Nat) : qP := fun fc' ρ' o => ρ'.take 66 = ρb ∧
  ((hj_fr fc' fc0 560 ∧ (o = (zPT_BF.1, zPT_BF.2.1, .inl (some (.inl 0))) ∨ o = (zPT_BF.1, zPT_BF.2.1, .inl (some (.inl 1))))) ∨
   (∃ N T B M : Nat, (∃ tk, ρb[58]? = some tk ∧ 1 ≤ tk) ∧ N ≤ Nb + 1 ∧ hj_J fc' fc0 560 N T B M U true ∧ ((o = (zPT_B0.1, zPT_B0.2.1, .inl (some (.inl 1))) ∧ ρ'[68]? = some ((560 + M : Nat) : Int) ∧ ρ'[69]? = some (T : Int) ∧ ρ'[70]? = some (N : Int)) ∨ (o = (zPT_B1.1, zPT_B1.2.1, .inl (some (.inl 1))) ∧ ρ'[71]? = some ((560 + M : Nat) : Int) ∧ ρ'[72]? = some (T : Int) ∧ ρ'[73]? = some (N : Int)))) ∨
   (∃ N T B M : Nat, N + 1 ≤ Nb ∧ hj_J fc' fc0 560 N T B M U false ∧ ((o = (zPT_B0.1, zPT_B0.2.1, .inl (some (.inl 0))) ∧ ρ'[68]? = some ((560 + M : Nat) : Int) ∧ ρ'[69]? = some (T : Int) ∧ ρ'[70]? = some (N : Int)) ∨ (o = (zPT_B1.1, zPT_B1.2.1, .inl (some (.inl 0))) ∧ ρ'[71]? = some ((560 + M : Nat) : Int) ∧ ρ'[72]? = some (T : Int) ∧ ρ'[73]? = some (N : Int)))) ∨
   ∃ M : Nat, hc_w (fc' 0) 560 M ∧ M ≤ 280 ∧ hj_fr fc' fc0 560 ∧ o = (zPT_BC.1, zPT_BC.2.1, .inl (some (.inl 0))) ∧ ρ'[66]? = some ((560 + M : Nat) : Int) ∧ ρ'[68]? = some 0)
section zPLOOP
variable {ex : Nat → Value} {D : va_G} {as : List Nat} {tys : List (ClassId × FieldType)}
theorem zPl0 (hT : zk_t) (hA : zk_a) (hgo : ∀ fc, qy_V ex (qΓ1 fc) D as tys zPk2) {fc0 : Nat → Nat → Int32} {ρb : List Int} {Nb U : Nat} : ∀ (N : Nat) (fc : Nat → Nat → Int32) (ρ : List Int) (T B M : Nat), N + 1 ≤ Nb → ρ.take 66 = ρb → ρ[66]? = some ((560 + M : Nat) : Int) → ρ[67]? = some (T : Int) → ρ[68]? = some ((N + 1 : Nat) : Int) → hj_J fc fc0 560 (N + 1) T B M U false → qy_TP ex D as tys 10 187 fc ρ zPT_pop0.1 zPT_L0.2.1 zPT_L0.2.2.1 [] 23 (zPPB fc0 ρb Nb U) := by
  intro N
  induction N with
  | zero =>
    intro fc ρ T B M hN ht h66 h67 h68 hJ
    refine qy_TP.intro fun _ hg => ?_
    have hl : ρ.length = 71 := hg.len rfl
    have hbd := hj_bd hJ
    have hT7 := hJ.2.1
    have hi : (Int32.ofInt ((0 : Nat) : Int)).toInt = ((0 : Nat) : Int) := q_i32of (by omega) (by omega)
    have he : qe ρ (ρ ++ [(fc 5 0).toInt, (fc 6 0).toInt]) := ⟨_, rfl⟩
    have hy := q_i32 (fc 6 0)
    have hw : ∀ ws, qy_w ρ ex fc tys as zPT_L0.2.1 ws → qy_w (ρ ++ [(fc 5 0).toInt, (fc 6 0).toInt]) ex fc tys as ((zPT_L0.2.1.set 19 (.inr (.inr (.inr (0, 90, 5, [(ql 68 1 (.negSucc 0), qa 71)], []))))).set 20 (.inr (.inr (.inr (0, 90, 6, [(ql 68 1 (.negSucc 0), qa 72)], []))))) ws := fun ws h => ((h.mono he).chg (i := 19) (e := .inr (.inr (.inr (0, 90, 5, [], [])))) rfl (fun q hq => qy_knw (i := Int32.ofInt ((0 : Nat) : Int)) (qy_knd (he.at h68) (by rw [hi]; omega)) (by rw [hi]; omega) (by rw [hi]; show _ < ((90 : Nat) : Int); omega) (qy_kns (by rw [hi, Int.toNat_natCast]; exact q_ap0 hl)) hq)).chg (i := 20) (e := .inr (.inr (.inr (0, 90, 6, [], [])))) rfl (fun q hq => qy_knw (i := Int32.ofInt ((0 : Nat) : Int)) (qy_knd (he.at h68) (by rw [hi]; omega)) (by rw [hi]; omega) (by rw [hi]; show _ < ((90 : Nat) : Int); omega) (qy_kns (by rw [hi, Int.toNat_natCast]; exact q_ap1 hl)) hq)
    have e66 := he.at h66
    have e67 := he.at h67
    have e68 := he.at h68
    have hv : (fc 5 0).toInt = 8 := hJ.2.2.2.1
    refine qy_TP.pre (ρ' := ρ ++ [(fc 5 0).toInt, (fc 6 0).toInt]) (g' := zPT_s_l0e.1) (w' := zPT_s_l0e.2.1) (lo' := zPT_s_l0e.2.2.1) (st' := zPT_s_l0e.2.2.2) ?_ hw
      (fun h => h.to _ [(66, 560, 859), (67, 0, 7), (68, 1, 39), (71, 8, 8), (72, (.negSucc 2147483647), 2147483647)] [] (by decide +kernel) rfl (by decide +kernel) (fa_ex e66 (by omega) (by omega) (fa_ex e67 (by omega) (by omega) (fa_ex e68 (by omega) (by omega) (fa_ex (q_ap0 hl) (by omega) (by omega) (fa_ex (q_ap1 hl) hy.1 hy.2 fa_nil))))) fa_nil) (fun _ _ h => h.mono he) (fun _ h => h.mono he)
    refine qs_lnkB fa_nil hT hA zPg_l0e (fa_cons (fun ρ' htk2 hL hgE _ => ⟨fun rv hrv => ?r0, fun q hq => ?c0⟩) fa_nil)
    case r0 =>
      have ht2 : ρ'.take 66 = ρb := by rw [htk2, List.take_append_of_le_length (by omega)]; exact ht
      refine ⟨ht2, Or.inr (Or.inr (Or.inr ⟨M, (hj_fin hJ).1, (hj_fin hJ).2, hj_frJ hJ, rfl, ?_, ?_⟩))⟩
      · rw [hL.n (i := 66) (d := 0) List.mem_cons_self e66]; exact congrArg some (by omega)
      · rw [hL.n (i := 68) (d := -1) (List.mem_cons_of_mem _ (List.mem_cons_of_mem _ List.mem_cons_self)) e68]; rfl
    case c0 =>
      have hq : (Sum.inl _ : Option qV ⊕ (Nat × qL × List qV)) = Sum.inr q := hq
      cases hq
  | succ N ih =>
    intro fc ρ T B M hN ht h66 h67 h68 hJ
    refine qy_TP.intro fun _ hg => ?_
    have hl : ρ.length = 71 := hg.len rfl
    have hbd := hj_bd hJ
    have hT7 := hJ.2.1
    have hi : (Int32.ofInt (((N + 1) : Nat) : Int)).toInt = (((N + 1) : Nat) : Int) := q_i32of (by omega) (by omega)
    have he : qe ρ (ρ ++ [(fc 5 (N + 1)).toInt, (fc 6 (N + 1)).toInt]) := ⟨_, rfl⟩
    have hy := q_i32 (fc 6 (N + 1))
    have hw : ∀ ws, qy_w ρ ex fc tys as zPT_L0.2.1 ws → qy_w (ρ ++ [(fc 5 (N + 1)).toInt, (fc 6 (N + 1)).toInt]) ex fc tys as ((zPT_L0.2.1.set 19 (.inr (.inr (.inr (0, 90, 5, [(ql 68 1 (.negSucc 0), qa 71)], []))))).set 20 (.inr (.inr (.inr (0, 90, 6, [(ql 68 1 (.negSucc 0), qa 72)], []))))) ws := fun ws h => ((h.mono he).chg (i := 19) (e := .inr (.inr (.inr (0, 90, 5, [], [])))) rfl (fun q hq => qy_knw (i := Int32.ofInt (((N + 1) : Nat) : Int)) (qy_knd (he.at h68) (by rw [hi]; omega)) (by rw [hi]; omega) (by rw [hi]; show _ < ((90 : Nat) : Int); omega) (qy_kns (by rw [hi, Int.toNat_natCast]; exact q_ap0 hl)) hq)).chg (i := 20) (e := .inr (.inr (.inr (0, 90, 6, [], [])))) rfl (fun q hq => qy_knw (i := Int32.ofInt (((N + 1) : Nat) : Int)) (qy_knd (he.at h68) (by rw [hi]; omega)) (by rw [hi]; omega) (by rw [hi]; show _ < ((90 : Nat) : Int); omega) (qy_kns (by rw [hi, Int.toNat_natCast]; exact q_ap1 hl)) hq)
    have e66 := he.at h66
    have e67 := he.at h67
    have e68 := he.at h68
    have he5 := hJ.2.2.2.2.1 (N + 1) (by omega) (by omega)
    have htop := hj_top hJ
    rcases htop with ⟨z, -⟩ | ⟨-, -, hz1, hz2⟩
    · omega
    rcases he5 with ⟨hv, -⟩ | hv | ⟨hv, -⟩
    · have hTT := hz1 (Or.inl hv)
      refine qy_TP.pre (ρ' := ρ ++ [(fc 5 (N + 1)).toInt, (fc 6 (N + 1)).toInt]) (g' := zPT_s_l0b.1) (w' := zPT_s_l0b.2.1) (lo' := zPT_s_l0b.2.2.1) (st' := zPT_s_l0b.2.2.2) ?_ hw
        (fun h => h.to _ [(66, 560, 859), (67, 1, 7), (68, 2, 39), (71, 3, 3), (72, (.negSucc 2147483647), 2147483647)] [] (by decide +kernel) rfl (by decide +kernel) (fa_ex e66 (by omega) (by omega) (fa_ex e67 (by omega) (by omega) (fa_ex e68 (by omega) (by omega) (fa_ex (q_ap0 hl) (by omega) (by omega) (fa_ex (q_ap1 hl) hy.1 hy.2 fa_nil))))) fa_nil) (fun _ _ h => h.mono he) (fun _ h => h.mono he)
      refine qs_lnkB fa_nil hT hA zPg_l0b (fa_cons (fun ρ' htk2 hL hgE _ => ⟨fun rv hrv => ?r0, fun q hq => ?c0⟩) fa_nil)
      case r0 =>
        have hrv : (Sum.inr _ : Option qV ⊕ (Nat × qL × List qV)) = Sum.inl rv := hrv
        cases hrv
      case c0 =>
        have hq : (Sum.inr _ : Option qV ⊕ (Nat × qL × List qV)) = Sum.inr q := hq
        cases hq
        have ht2 : ρ'.take 66 = ρb := by rw [htk2, List.take_append_of_le_length (by omega)]; exact ht
        have a1 := hL.n (i := 69) (d := 0) (List.mem_cons_of_mem _ (List.mem_cons_of_mem _ (List.mem_cons_of_mem _ List.mem_cons_self))) e66
        have a2 := hL.n (i := 70) (d := 0) (List.mem_cons_of_mem _ (List.mem_cons_of_mem _ (List.mem_cons_of_mem _ (List.mem_cons_of_mem _ List.mem_cons_self)))) (q_ap1 hl)
        obtain ⟨T1, B1, hT1, hT2, hJ1⟩ := hj_pop hJ (by omega) (by omega)
        have eq : q_up fc 0 (((560 + M : Nat) : Int) + 0).toNat (Int32.ofInt ((fc 6 (N + 1)).toInt + 0)) = q_up fc 0 (560 + M) (fc 6 (N + 1)) := by rw [Int.add_zero, Int.add_zero, Int.toNat_natCast, Int32.ofInt_toInt]
        refine qy_TP.pre (fc' := q_up fc 0 (560 + M) (fc 6 (N + 1))) (ρ' := ρ') (g' := zPT_pop0.1) (w' := zPT_L0.2.1) (lo' := zPT_L0.2.2.1) (st' := []) ?_ (fun ws h => by
          have := h.rf (c := 17) (t := 0) (N := 1120) (κ := 0) (kn := []) (or := []) (a := qa 69) (x := qa 70) (z := ((560 + M : Nat) : Int) + 0) (y := (fc 6 (N + 1)).toInt + 0) rfl (by decide +kernel) (q_vs a1) (q_vs a2) rfl rfl
          rw [eq] at this
          exact this) (fun h => h) (fun _ _ h => h) (fun _ h => h)
        refine ih _ ρ' T1 B1 (M + 1) (by omega) ht2 ?_ ?_ ?_ hJ1
        · rw [hL.n (i := 66) (d := 1) List.mem_cons_self e66]; exact congrArg some (by omega)
        · rw [hL.n (i := 67) (d := -1) (List.mem_cons_of_mem _ List.mem_cons_self) e67]; exact congrArg some (by omega)
        · rw [hL.n (i := 68) (d := -1) (List.mem_cons_of_mem _ (List.mem_cons_of_mem _ List.mem_cons_self)) e68]; exact congrArg some (by omega)
    · have hTT := hz1 (Or.inr hv)
      refine qy_TP.pre (ρ' := ρ ++ [(fc 5 (N + 1)).toInt, (fc 6 (N + 1)).toInt]) (g' := zPT_s_l0d.1) (w' := zPT_s_l0d.2.1) (lo' := zPT_s_l0d.2.2.1) (st' := zPT_s_l0d.2.2.2) ?_ hw
        (fun h => h.to _ [(66, 560, 859), (67, 1, 7), (68, 2, 39), (71, 7, 7), (72, (.negSucc 2147483647), 2147483647)] [] (by decide +kernel) rfl (by decide +kernel) (fa_ex e66 (by omega) (by omega) (fa_ex e67 (by omega) (by omega) (fa_ex e68 (by omega) (by omega) (fa_ex (q_ap0 hl) (by omega) (by omega) (fa_ex (q_ap1 hl) hy.1 hy.2 fa_nil))))) fa_nil) (fun _ _ h => h.mono he) (fun _ h => h.mono he)
      refine qs_lnkB (fa_cons (hgo fc) fa_nil) hT hA zPg_l0d (fa_cons (fun ρ' htk2 hL hgE _ => ⟨fun rv hrv => ?r0, fun q hq => ?c0⟩) (fa_cons (fun ρ' htk2 hL hgE _ => ⟨fun rv hrv => ?r1, fun q hq => ?c1⟩) (fa_cons (fun ρ' htk2 hL hgE _ => ⟨fun rv hrv => ?r2, fun q hq => ?c2⟩) fa_nil)))
      case r0 =>
        have ht2 : ρ'.take 66 = ρb := by rw [htk2, List.take_append_of_le_length (by omega)]; exact ht
        exact ⟨ht2, Or.inl ⟨hj_frJ hJ, Or.inl rfl⟩⟩
      case c0 =>
        have hq : (Sum.inl _ : Option qV ⊕ (Nat × qL × List qV)) = Sum.inr q := hq
        cases hq
      case r1 =>
        have ht2 : ρ'.take 66 = ρb := by rw [htk2, List.take_append_of_le_length (by omega)]; exact ht
        obtain ⟨T1, hT1, hJ1⟩ := hj_cls hJ hv
        refine ⟨ht2, Or.inr (Or.inr (Or.inl ⟨(N + 1), T1, B, M, by omega, hJ1, Or.inl ⟨rfl, ?_, ?_, ?_⟩⟩))⟩
        · rw [hL.n (i := 68) (d := 0) (List.mem_cons_of_mem _ List.mem_cons_self) e66]; exact congrArg some (by omega)
        · rw [hL.n (i := 69) (d := -1) (List.mem_cons_of_mem _ (List.mem_cons_of_mem _ List.mem_cons_self)) e67]; exact congrArg some (by omega)
        · rw [hL.n (i := 70) (d := -1) (List.mem_cons_of_mem _ (List.mem_cons_of_mem _ (List.mem_cons_of_mem _ List.mem_cons_self))) e68]; exact congrArg some (by omega)
      case c1 =>
        have hq : (Sum.inl _ : Option qV ⊕ (Nat × qL × List qV)) = Sum.inr q := hq
        cases hq
      case r2 =>
        have ht2 : ρ'.take 66 = ρb := by rw [htk2, List.take_append_of_le_length (by omega)]; exact ht
        obtain ⟨T1, hT1, hJ1⟩ := hj_cls hJ hv
        refine ⟨ht2, Or.inr (Or.inr (Or.inl ⟨(N + 1), T1, B, M, by omega, hJ1, Or.inr ⟨rfl, ?_, ?_, ?_⟩⟩))⟩
        · rw [hL.n (i := 71) (d := 0) List.mem_cons_self e66]; exact congrArg some (by omega)
        · rw [hL.n (i := 72) (d := -1) (List.mem_cons_of_mem _ List.mem_cons_self) e67]; exact congrArg some (by omega)
        · rw [hL.n (i := 73) (d := -1) (List.mem_cons_of_mem _ (List.mem_cons_of_mem _ List.mem_cons_self)) e68]; exact congrArg some (by omega)
      case c2 =>
        have hq : (Sum.inl _ : Option qV ⊕ (Nat × qL × List qV)) = Sum.inr q := hq
        cases hq
    · by_cases hv2 : (fc 5 (N + 1)).toInt ≤ 2
      · have hv3 : 1 ≤ (fc 5 (N + 1)).toInt := by omega
        refine qy_TP.pre (ρ' := ρ ++ [(fc 5 (N + 1)).toInt, (fc 6 (N + 1)).toInt]) (g' := zPT_s_l0a.1) (w' := zPT_s_l0a.2.1) (lo' := zPT_s_l0a.2.2.1) (st' := zPT_s_l0a.2.2.2) ?_ hw
          (fun h => h.to _ [(66, 560, 859), (67, 0, 7), (68, 2, 39), (71, 1, 2), (72, (.negSucc 2147483647), 2147483647)] [] (by decide +kernel) rfl (by decide +kernel) (fa_ex e66 (by omega) (by omega) (fa_ex e67 (by omega) (by omega) (fa_ex e68 (by omega) (by omega) (fa_ex (q_ap0 hl) (by omega) (by omega) (fa_ex (q_ap1 hl) hy.1 hy.2 fa_nil))))) fa_nil) (fun _ _ h => h.mono he) (fun _ h => h.mono he)
        refine qs_lnkB fa_nil hT hA zPg_l0a (fa_cons (fun ρ' htk2 hL hgE _ => ⟨fun rv hrv => ?r0, fun q hq => ?c0⟩) fa_nil)
        case r0 =>
          have hrv : (Sum.inr _ : Option qV ⊕ (Nat × qL × List qV)) = Sum.inl rv := hrv
          cases hrv
        case c0 =>
          have hq : (Sum.inr _ : Option qV ⊕ (Nat × qL × List qV)) = Sum.inr q := hq
          cases hq
          have ht2 : ρ'.take 66 = ρb := by rw [htk2, List.take_append_of_le_length (by omega)]; exact ht
          have a1 := hL.n (i := 69) (d := 0) (List.mem_cons_of_mem _ (List.mem_cons_of_mem _ (List.mem_cons_of_mem _ List.mem_cons_self))) e66
          have a2 := hL.n (i := 70) (d := 0) (List.mem_cons_of_mem _ (List.mem_cons_of_mem _ (List.mem_cons_of_mem _ (List.mem_cons_of_mem _ List.mem_cons_self)))) (q_ap1 hl)
          obtain ⟨T1, B1, hT1, hT2, hJ1⟩ := hj_pop hJ (by omega) (by omega)
          have eq : q_up fc 0 (((560 + M : Nat) : Int) + 0).toNat (Int32.ofInt ((fc 6 (N + 1)).toInt + 0)) = q_up fc 0 (560 + M) (fc 6 (N + 1)) := by rw [Int.add_zero, Int.add_zero, Int.toNat_natCast, Int32.ofInt_toInt]
          refine qy_TP.pre (fc' := q_up fc 0 (560 + M) (fc 6 (N + 1))) (ρ' := ρ') (g' := zPT_pop0.1) (w' := zPT_L0.2.1) (lo' := zPT_L0.2.2.1) (st' := []) ?_ (fun ws h => by
            have := h.rf (c := 17) (t := 0) (N := 1120) (κ := 0) (kn := []) (or := []) (a := qa 69) (x := qa 70) (z := ((560 + M : Nat) : Int) + 0) (y := (fc 6 (N + 1)).toInt + 0) rfl (by decide +kernel) (q_vs a1) (q_vs a2) rfl rfl
            rw [eq] at this
            exact this) (fun h => h) (fun _ _ h => h) (fun _ h => h)
          refine ih _ ρ' T1 B1 (M + 1) (by omega) ht2 ?_ ?_ ?_ hJ1
          · rw [hL.n (i := 66) (d := 1) List.mem_cons_self e66]; exact congrArg some (by omega)
          · rw [hL.n (i := 67) (d := 0) (List.mem_cons_of_mem _ List.mem_cons_self) e67]; exact congrArg some (by omega)
          · rw [hL.n (i := 68) (d := -1) (List.mem_cons_of_mem _ (List.mem_cons_of_mem _ List.mem_cons_self)) e68]; exact congrArg some (by omega)
      · have hv3 : 4 ≤ (fc 5 (N + 1)).toInt := by omega
        refine qy_TP.pre (ρ' := ρ ++ [(fc 5 (N + 1)).toInt, (fc 6 (N + 1)).toInt]) (g' := zPT_s_l0c.1) (w' := zPT_s_l0c.2.1) (lo' := zPT_s_l0c.2.2.1) (st' := zPT_s_l0c.2.2.2) ?_ hw
          (fun h => h.to _ [(66, 560, 859), (67, 0, 7), (68, 2, 39), (71, 4, 6), (72, (.negSucc 2147483647), 2147483647)] [] (by decide +kernel) rfl (by decide +kernel) (fa_ex e66 (by omega) (by omega) (fa_ex e67 (by omega) (by omega) (fa_ex e68 (by omega) (by omega) (fa_ex (q_ap0 hl) (by omega) (by omega) (fa_ex (q_ap1 hl) hy.1 hy.2 fa_nil))))) fa_nil) (fun _ _ h => h.mono he) (fun _ h => h.mono he)
        refine qs_lnkB fa_nil hT hA zPg_l0c (fa_cons (fun ρ' htk2 hL hgE _ => ⟨fun rv hrv => ?r0, fun q hq => ?c0⟩) fa_nil)
        case r0 =>
          have hrv : (Sum.inr _ : Option qV ⊕ (Nat × qL × List qV)) = Sum.inl rv := hrv
          cases hrv
        case c0 =>
          have hq : (Sum.inr _ : Option qV ⊕ (Nat × qL × List qV)) = Sum.inr q := hq
          cases hq
          have ht2 : ρ'.take 66 = ρb := by rw [htk2, List.take_append_of_le_length (by omega)]; exact ht
          have a1 := hL.n (i := 69) (d := 0) (List.mem_cons_of_mem _ (List.mem_cons_of_mem _ (List.mem_cons_of_mem _ List.mem_cons_self))) e66
          have a2 := hL.n (i := 70) (d := 0) (List.mem_cons_of_mem _ (List.mem_cons_of_mem _ (List.mem_cons_of_mem _ (List.mem_cons_of_mem _ List.mem_cons_self)))) (q_ap1 hl)
          obtain ⟨T1, B1, hT1, hT2, hJ1⟩ := hj_pop hJ (by omega) (by omega)
          have eq : q_up fc 0 (((560 + M : Nat) : Int) + 0).toNat (Int32.ofInt ((fc 6 (N + 1)).toInt + 0)) = q_up fc 0 (560 + M) (fc 6 (N + 1)) := by rw [Int.add_zero, Int.add_zero, Int.toNat_natCast, Int32.ofInt_toInt]
          refine qy_TP.pre (fc' := q_up fc 0 (560 + M) (fc 6 (N + 1))) (ρ' := ρ') (g' := zPT_pop0.1) (w' := zPT_L0.2.1) (lo' := zPT_L0.2.2.1) (st' := []) ?_ (fun ws h => by
            have := h.rf (c := 17) (t := 0) (N := 1120) (κ := 0) (kn := []) (or := []) (a := qa 69) (x := qa 70) (z := ((560 + M : Nat) : Int) + 0) (y := (fc 6 (N + 1)).toInt + 0) rfl (by decide +kernel) (q_vs a1) (q_vs a2) rfl rfl
            rw [eq] at this
            exact this) (fun h => h) (fun _ _ h => h) (fun _ h => h)
          refine ih _ ρ' T1 B1 (M + 1) (by omega) ht2 ?_ ?_ ?_ hJ1
          · rw [hL.n (i := 66) (d := 1) List.mem_cons_self e66]; exact congrArg some (by omega)
          · rw [hL.n (i := 67) (d := 0) (List.mem_cons_of_mem _ List.mem_cons_self) e67]; exact congrArg some (by omega)
          · rw [hL.n (i := 68) (d := -1) (List.mem_cons_of_mem _ (List.mem_cons_of_mem _ List.mem_cons_self)) e68]; exact congrArg some (by omega)
theorem zPl1 (hT : zk_t) (hA : zk_a) (hgo : ∀ fc, qy_V ex (qΓ1 fc) D as tys zPk2) {fc0 : Nat → Nat → Int32} {ρb : List Int} {Nb U : Nat} (htk : ∃ tk, ρb[58]? = some tk ∧ 1 ≤ tk) : ∀ (N : Nat) (fc : Nat → Nat → Int32) (ρ : List Int) (T B M : Nat), N + 1 ≤ Nb → ρ.take 66 = ρb → ρ[66]? = some ((560 + M : Nat) : Int) → ρ[67]? = some (T : Int) → ρ[68]? = some ((N + 1 : Nat) : Int) → hj_J fc fc0 560 (N + 1) T B M U false → qy_TP ex D as tys 10 187 fc ρ zPT_pop1.1 zPT_L1.2.1 zPT_L1.2.2.1 [] 23 (zPPB fc0 ρb Nb U) := by
  intro N
  induction N with
  | zero =>
    intro fc ρ T B M hN ht h66 h67 h68 hJ
    refine qy_TP.intro fun _ hg => ?_
    have hl : ρ.length = 71 := hg.len rfl
    have hbd := hj_bd hJ
    have hT7 := hJ.2.1
    have hi : (Int32.ofInt ((0 : Nat) : Int)).toInt = ((0 : Nat) : Int) := q_i32of (by omega) (by omega)
    have he : qe ρ (ρ ++ [(fc 5 0).toInt, (fc 6 0).toInt]) := ⟨_, rfl⟩
    have hy := q_i32 (fc 6 0)
    have hw : ∀ ws, qy_w ρ ex fc tys as zPT_L1.2.1 ws → qy_w (ρ ++ [(fc 5 0).toInt, (fc 6 0).toInt]) ex fc tys as ((zPT_L1.2.1.set 19 (.inr (.inr (.inr (0, 90, 5, [(ql 68 1 (.negSucc 0), qa 71)], []))))).set 20 (.inr (.inr (.inr (0, 90, 6, [(ql 68 1 (.negSucc 0), qa 72)], []))))) ws := fun ws h => ((h.mono he).chg (i := 19) (e := .inr (.inr (.inr (0, 90, 5, [], [])))) rfl (fun q hq => qy_knw (i := Int32.ofInt ((0 : Nat) : Int)) (qy_knd (he.at h68) (by rw [hi]; omega)) (by rw [hi]; omega) (by rw [hi]; show _ < ((90 : Nat) : Int); omega) (qy_kns (by rw [hi, Int.toNat_natCast]; exact q_ap0 hl)) hq)).chg (i := 20) (e := .inr (.inr (.inr (0, 90, 6, [], [])))) rfl (fun q hq => qy_knw (i := Int32.ofInt ((0 : Nat) : Int)) (qy_knd (he.at h68) (by rw [hi]; omega)) (by rw [hi]; omega) (by rw [hi]; show _ < ((90 : Nat) : Int); omega) (qy_kns (by rw [hi, Int.toNat_natCast]; exact q_ap1 hl)) hq)
    have e66 := he.at h66
    have e67 := he.at h67
    have e68 := he.at h68
    have hv : (fc 5 0).toInt = 8 := hJ.2.2.2.1
    refine qy_TP.pre (ρ' := ρ ++ [(fc 5 0).toInt, (fc 6 0).toInt]) (g' := zPT_s_l1e.1) (w' := zPT_s_l1e.2.1) (lo' := zPT_s_l1e.2.2.1) (st' := zPT_s_l1e.2.2.2) ?_ hw
      (fun h => h.to _ [(66, 560, 859), (67, 0, 7), (68, 1, 39), (71, 8, 8), (72, (.negSucc 2147483647), 2147483647)] [] (by decide +kernel) rfl (by decide +kernel) (fa_ex e66 (by omega) (by omega) (fa_ex e67 (by omega) (by omega) (fa_ex e68 (by omega) (by omega) (fa_ex (q_ap0 hl) (by omega) (by omega) (fa_ex (q_ap1 hl) hy.1 hy.2 fa_nil))))) fa_nil) (fun _ _ h => h.mono he) (fun _ h => h.mono he)
    refine qs_lnkB fa_nil hT hA zPg_l1e (fa_cons (fun ρ' htk2 hL hgE _ => ⟨fun rv hrv => ?r0, fun q hq => ?c0⟩) fa_nil)
    case r0 =>
      have hrv : (Sum.inr _ : Option qV ⊕ (Nat × qL × List qV)) = Sum.inl rv := hrv
      cases hrv
    case c0 =>
      have hq : (Sum.inr _ : Option qV ⊕ (Nat × qL × List qV)) = Sum.inr q := hq
      cases hq
      have ht2 : ρ'.take 66 = ρb := by rw [htk2, List.take_append_of_le_length (by omega)]; exact ht
      have a1 := hL.n (i := 69) (d := 0) (List.mem_cons_of_mem _ (List.mem_cons_of_mem _ (List.mem_cons_of_mem _ List.mem_cons_self))) e68
      have a2 := hL.n (i := 70) (d := 0) (List.mem_cons_of_mem _ (List.mem_cons_of_mem _ (List.mem_cons_of_mem _ (List.mem_cons_of_mem _ List.mem_cons_self)))) e68
      have hx3 : (Int32.ofInt (1 : Int)).toInt = 1 := q_i32of (by omega) (by omega)
      have hy3 : (Int32.ofInt (124 : Int)).toInt = (124 : Int) := q_i32of (by omega) (by omega)
      have eq : q_up (q_up fc 5 ((((0 + 1) : Nat) : Int) + 0).toNat (Int32.ofInt (1 : Int))) 6 ((((0 + 1) : Nat) : Int) + 0).toNat (Int32.ofInt (124 : Int)) = q_up (q_up fc 5 (0 + 1) (Int32.ofInt (1 : Int))) 6 (0 + 1) (Int32.ofInt (124 : Int)) := by rw [Int.add_zero, Int.toNat_natCast]
      have hJ1 := hj_psh hJ (x := Int32.ofInt (1 : Int)) (y := Int32.ofInt (124 : Int)) (by rw [hx3]; omega) (by rw [hy3]; unfold hj_b; omega)
      refine qy_TP.pre (fc' := q_up (q_up fc 5 (0 + 1) (Int32.ofInt (1 : Int))) 6 (0 + 1) (Int32.ofInt (124 : Int))) (ρ' := ρ') (g' := zPT_s_p1.1) (w' := zPT_s_p1.2.1) (lo' := zPT_s_p1.2.2.1) (st' := []) ?_ (fun ws h => by
        have h1 := h.rf (c := 19) (t := 0) (N := 90) (κ := 5) (kn := []) (or := []) (a := qa 69) (x := .inl 1) (z := (((0 + 1) : Nat) : Int) + 0) (y := 1) rfl (by decide +kernel) (q_vs a1) rfl rfl rfl
        have h2 := h1.rf (c := 20) (t := 0) (N := 90) (κ := 6) (kn := []) (or := []) (a := qa 70) (x := .inl 124) (z := (((0 + 1) : Nat) : Int) + 0) (y := (124 : Int)) rfl (by decide +kernel) (q_vs a2) rfl rfl rfl
        rw [eq] at h2
        exact h2) (fun h => h) (fun _ _ h => h) (fun _ h => h)
      have b66 := hL.n (i := 66) (d := 0) List.mem_cons_self e66
      have b67 := hL.n (i := 67) (d := 0) (List.mem_cons_of_mem _ List.mem_cons_self) e67
      have b68 := hL.n (i := 68) (d := 1) (List.mem_cons_of_mem _ (List.mem_cons_of_mem _ List.mem_cons_self)) e68
      have hlp : ρ'.length = 71 := hgE.len rfl
      refine qs_lnkB (fa_cons (hgo _) fa_nil) hT hA zPg_p1 (fa_cons (fun ρ2 htk3 hL2 _ _ => ⟨fun rv hrv => ?_, fun q hq => ?_⟩) (fa_cons (fun ρ2 htk3 hL2 _ _ => ⟨fun rv hrv => ?_, fun q hq => ?_⟩) fa_nil))
      · refine ⟨by rw [htk3]; exact ht2, Or.inr (Or.inl ⟨(0 + 1) + 1, T, B + 1, M, htk, by omega, hJ1, Or.inl ⟨rfl, ?_, ?_, ?_⟩⟩)⟩
        · rw [hL2.n (i := 68) (d := 0) (List.mem_cons_of_mem _ List.mem_cons_self) b66]; exact congrArg some (by omega)
        · rw [hL2.n (i := 69) (d := 0) (List.mem_cons_of_mem _ (List.mem_cons_of_mem _ List.mem_cons_self)) b67]; exact congrArg some (by omega)
        · rw [hL2.n (i := 70) (d := 0) (List.mem_cons_of_mem _ (List.mem_cons_of_mem _ (List.mem_cons_of_mem _ List.mem_cons_self))) b68]; exact congrArg some (by omega)
      · have hq : (Sum.inl _ : Option qV ⊕ (Nat × qL × List qV)) = Sum.inr q := hq
        cases hq
      · refine ⟨by rw [htk3]; exact ht2, Or.inr (Or.inl ⟨(0 + 1) + 1, T, B + 1, M, htk, by omega, hJ1, Or.inr ⟨rfl, ?_, ?_, ?_⟩⟩)⟩
        · rw [hL2.n (i := 71) (d := 0) List.mem_cons_self b66]; exact congrArg some (by omega)
        · rw [hL2.n (i := 72) (d := 0) (List.mem_cons_of_mem _ List.mem_cons_self) b67]; exact congrArg some (by omega)
        · rw [hL2.n (i := 73) (d := 0) (List.mem_cons_of_mem _ (List.mem_cons_of_mem _ List.mem_cons_self)) b68]; exact congrArg some (by omega)
      · have hq : (Sum.inl _ : Option qV ⊕ (Nat × qL × List qV)) = Sum.inr q := hq
        cases hq
  | succ N ih =>
    intro fc ρ T B M hN ht h66 h67 h68 hJ
    refine qy_TP.intro fun _ hg => ?_
    have hl : ρ.length = 71 := hg.len rfl
    have hbd := hj_bd hJ
    have hT7 := hJ.2.1
    have hi : (Int32.ofInt (((N + 1) : Nat) : Int)).toInt = (((N + 1) : Nat) : Int) := q_i32of (by omega) (by omega)
    have he : qe ρ (ρ ++ [(fc 5 (N + 1)).toInt, (fc 6 (N + 1)).toInt]) := ⟨_, rfl⟩
    have hy := q_i32 (fc 6 (N + 1))
    have hw : ∀ ws, qy_w ρ ex fc tys as zPT_L1.2.1 ws → qy_w (ρ ++ [(fc 5 (N + 1)).toInt, (fc 6 (N + 1)).toInt]) ex fc tys as ((zPT_L1.2.1.set 19 (.inr (.inr (.inr (0, 90, 5, [(ql 68 1 (.negSucc 0), qa 71)], []))))).set 20 (.inr (.inr (.inr (0, 90, 6, [(ql 68 1 (.negSucc 0), qa 72)], []))))) ws := fun ws h => ((h.mono he).chg (i := 19) (e := .inr (.inr (.inr (0, 90, 5, [], [])))) rfl (fun q hq => qy_knw (i := Int32.ofInt (((N + 1) : Nat) : Int)) (qy_knd (he.at h68) (by rw [hi]; omega)) (by rw [hi]; omega) (by rw [hi]; show _ < ((90 : Nat) : Int); omega) (qy_kns (by rw [hi, Int.toNat_natCast]; exact q_ap0 hl)) hq)).chg (i := 20) (e := .inr (.inr (.inr (0, 90, 6, [], [])))) rfl (fun q hq => qy_knw (i := Int32.ofInt (((N + 1) : Nat) : Int)) (qy_knd (he.at h68) (by rw [hi]; omega)) (by rw [hi]; omega) (by rw [hi]; show _ < ((90 : Nat) : Int); omega) (qy_kns (by rw [hi, Int.toNat_natCast]; exact q_ap1 hl)) hq)
    have e66 := he.at h66
    have e67 := he.at h67
    have e68 := he.at h68
    have he5 := hJ.2.2.2.2.1 (N + 1) (by omega) (by omega)
    have htop := hj_top hJ
    rcases htop with ⟨z, -⟩ | ⟨-, -, hz1, hz2⟩
    · omega
    rcases he5 with ⟨hv, -⟩ | hv | ⟨hv, -⟩
    · have hTT := hz1 (Or.inl hv)
      refine qy_TP.pre (ρ' := ρ ++ [(fc 5 (N + 1)).toInt, (fc 6 (N + 1)).toInt]) (g' := zPT_s_l1b.1) (w' := zPT_s_l1b.2.1) (lo' := zPT_s_l1b.2.2.1) (st' := zPT_s_l1b.2.2.2) ?_ hw
        (fun h => h.to _ [(66, 560, 859), (67, 1, 7), (68, 2, 39), (71, 3, 3), (72, (.negSucc 2147483647), 2147483647)] [] (by decide +kernel) rfl (by decide +kernel) (fa_ex e66 (by omega) (by omega) (fa_ex e67 (by omega) (by omega) (fa_ex e68 (by omega) (by omega) (fa_ex (q_ap0 hl) (by omega) (by omega) (fa_ex (q_ap1 hl) hy.1 hy.2 fa_nil))))) fa_nil) (fun _ _ h => h.mono he) (fun _ h => h.mono he)
      refine qs_lnkB fa_nil hT hA zPg_l1b (fa_cons (fun ρ' htk2 hL hgE _ => ⟨fun rv hrv => ?r0, fun q hq => ?c0⟩) fa_nil)
      case r0 =>
        have hrv : (Sum.inr _ : Option qV ⊕ (Nat × qL × List qV)) = Sum.inl rv := hrv
        cases hrv
      case c0 =>
        have hq : (Sum.inr _ : Option qV ⊕ (Nat × qL × List qV)) = Sum.inr q := hq
        cases hq
        have ht2 : ρ'.take 66 = ρb := by rw [htk2, List.take_append_of_le_length (by omega)]; exact ht
        have a1 := hL.n (i := 69) (d := 0) (List.mem_cons_of_mem _ (List.mem_cons_of_mem _ (List.mem_cons_of_mem _ List.mem_cons_self))) e66
        have a2 := hL.n (i := 70) (d := 0) (List.mem_cons_of_mem _ (List.mem_cons_of_mem _ (List.mem_cons_of_mem _ (List.mem_cons_of_mem _ List.mem_cons_self)))) (q_ap1 hl)
        obtain ⟨T1, B1, hT1, hT2, hJ1⟩ := hj_pop hJ (by omega) (by omega)
        have eq : q_up fc 0 (((560 + M : Nat) : Int) + 0).toNat (Int32.ofInt ((fc 6 (N + 1)).toInt + 0)) = q_up fc 0 (560 + M) (fc 6 (N + 1)) := by rw [Int.add_zero, Int.add_zero, Int.toNat_natCast, Int32.ofInt_toInt]
        refine qy_TP.pre (fc' := q_up fc 0 (560 + M) (fc 6 (N + 1))) (ρ' := ρ') (g' := zPT_pop1.1) (w' := zPT_L1.2.1) (lo' := zPT_L1.2.2.1) (st' := []) ?_ (fun ws h => by
          have := h.rf (c := 17) (t := 0) (N := 1120) (κ := 0) (kn := []) (or := []) (a := qa 69) (x := qa 70) (z := ((560 + M : Nat) : Int) + 0) (y := (fc 6 (N + 1)).toInt + 0) rfl (by decide +kernel) (q_vs a1) (q_vs a2) rfl rfl
          rw [eq] at this
          exact this) (fun h => h) (fun _ _ h => h) (fun _ h => h)
        refine ih _ ρ' T1 B1 (M + 1) (by omega) ht2 ?_ ?_ ?_ hJ1
        · rw [hL.n (i := 66) (d := 1) List.mem_cons_self e66]; exact congrArg some (by omega)
        · rw [hL.n (i := 67) (d := -1) (List.mem_cons_of_mem _ List.mem_cons_self) e67]; exact congrArg some (by omega)
        · rw [hL.n (i := 68) (d := -1) (List.mem_cons_of_mem _ (List.mem_cons_of_mem _ List.mem_cons_self)) e68]; exact congrArg some (by omega)
    · have hTT := hz1 (Or.inr hv)
      refine qy_TP.pre (ρ' := ρ ++ [(fc 5 (N + 1)).toInt, (fc 6 (N + 1)).toInt]) (g' := zPT_s_l1d.1) (w' := zPT_s_l1d.2.1) (lo' := zPT_s_l1d.2.2.1) (st' := zPT_s_l1d.2.2.2) ?_ hw
        (fun h => h.to _ [(66, 560, 859), (67, 1, 7), (68, 2, 39), (71, 7, 7), (72, (.negSucc 2147483647), 2147483647)] [] (by decide +kernel) rfl (by decide +kernel) (fa_ex e66 (by omega) (by omega) (fa_ex e67 (by omega) (by omega) (fa_ex e68 (by omega) (by omega) (fa_ex (q_ap0 hl) (by omega) (by omega) (fa_ex (q_ap1 hl) hy.1 hy.2 fa_nil))))) fa_nil) (fun _ _ h => h.mono he) (fun _ h => h.mono he)
      refine qs_lnkB fa_nil hT hA zPg_l1d (fa_cons (fun ρ' htk2 hL hgE _ => ⟨fun rv hrv => ?r0, fun q hq => ?c0⟩) fa_nil)
      case r0 =>
        have hrv : (Sum.inr _ : Option qV ⊕ (Nat × qL × List qV)) = Sum.inl rv := hrv
        cases hrv
      case c0 =>
        have hq : (Sum.inr _ : Option qV ⊕ (Nat × qL × List qV)) = Sum.inr q := hq
        cases hq
        have ht2 : ρ'.take 66 = ρb := by rw [htk2, List.take_append_of_le_length (by omega)]; exact ht
        have a1 := hL.n (i := 69) (d := 0) (List.mem_cons_of_mem _ (List.mem_cons_of_mem _ (List.mem_cons_of_mem _ List.mem_cons_self))) e68
        have a2 := hL.n (i := 70) (d := 0) (List.mem_cons_of_mem _ (List.mem_cons_of_mem _ (List.mem_cons_of_mem _ (List.mem_cons_of_mem _ List.mem_cons_self)))) e68
        have hx3 : (Int32.ofInt (1 : Int)).toInt = 1 := q_i32of (by omega) (by omega)
        have hy3 : (Int32.ofInt (124 : Int)).toInt = (124 : Int) := q_i32of (by omega) (by omega)
        have eq : q_up (q_up fc 5 (((((N + 1) + 1) : Nat) : Int) + 0).toNat (Int32.ofInt (1 : Int))) 6 (((((N + 1) + 1) : Nat) : Int) + 0).toNat (Int32.ofInt (124 : Int)) = q_up (q_up fc 5 ((N + 1) + 1) (Int32.ofInt (1 : Int))) 6 ((N + 1) + 1) (Int32.ofInt (124 : Int)) := by rw [Int.add_zero, Int.toNat_natCast]
        have hJ1 := hj_psh hJ (x := Int32.ofInt (1 : Int)) (y := Int32.ofInt (124 : Int)) (by rw [hx3]; omega) (by rw [hy3]; unfold hj_b; omega)
        refine qy_TP.pre (fc' := q_up (q_up fc 5 ((N + 1) + 1) (Int32.ofInt (1 : Int))) 6 ((N + 1) + 1) (Int32.ofInt (124 : Int))) (ρ' := ρ') (g' := zPT_s_p1.1) (w' := zPT_s_p1.2.1) (lo' := zPT_s_p1.2.2.1) (st' := []) ?_ (fun ws h => by
          have h1 := h.rf (c := 19) (t := 0) (N := 90) (κ := 5) (kn := []) (or := []) (a := qa 69) (x := .inl 1) (z := ((((N + 1) + 1) : Nat) : Int) + 0) (y := 1) rfl (by decide +kernel) (q_vs a1) rfl rfl rfl
          have h2 := h1.rf (c := 20) (t := 0) (N := 90) (κ := 6) (kn := []) (or := []) (a := qa 70) (x := .inl 124) (z := ((((N + 1) + 1) : Nat) : Int) + 0) (y := (124 : Int)) rfl (by decide +kernel) (q_vs a2) rfl rfl rfl
          rw [eq] at h2
          exact h2) (fun h => h) (fun _ _ h => h) (fun _ h => h)
        have b66 := hL.n (i := 66) (d := 0) List.mem_cons_self e66
        have b67 := hL.n (i := 67) (d := 0) (List.mem_cons_of_mem _ List.mem_cons_self) e67
        have b68 := hL.n (i := 68) (d := 1) (List.mem_cons_of_mem _ (List.mem_cons_of_mem _ List.mem_cons_self)) e68
        have hlp : ρ'.length = 71 := hgE.len rfl
        refine qs_lnkB (fa_cons (hgo _) fa_nil) hT hA zPg_p1 (fa_cons (fun ρ2 htk3 hL2 _ _ => ⟨fun rv hrv => ?_, fun q hq => ?_⟩) (fa_cons (fun ρ2 htk3 hL2 _ _ => ⟨fun rv hrv => ?_, fun q hq => ?_⟩) fa_nil))
        · refine ⟨by rw [htk3]; exact ht2, Or.inr (Or.inl ⟨((N + 1) + 1) + 1, T, B + 1, M, htk, by omega, hJ1, Or.inl ⟨rfl, ?_, ?_, ?_⟩⟩)⟩
          · rw [hL2.n (i := 68) (d := 0) (List.mem_cons_of_mem _ List.mem_cons_self) b66]; exact congrArg some (by omega)
          · rw [hL2.n (i := 69) (d := 0) (List.mem_cons_of_mem _ (List.mem_cons_of_mem _ List.mem_cons_self)) b67]; exact congrArg some (by omega)
          · rw [hL2.n (i := 70) (d := 0) (List.mem_cons_of_mem _ (List.mem_cons_of_mem _ (List.mem_cons_of_mem _ List.mem_cons_self))) b68]; exact congrArg some (by omega)
        · have hq : (Sum.inl _ : Option qV ⊕ (Nat × qL × List qV)) = Sum.inr q := hq
          cases hq
        · refine ⟨by rw [htk3]; exact ht2, Or.inr (Or.inl ⟨((N + 1) + 1) + 1, T, B + 1, M, htk, by omega, hJ1, Or.inr ⟨rfl, ?_, ?_, ?_⟩⟩)⟩
          · rw [hL2.n (i := 71) (d := 0) List.mem_cons_self b66]; exact congrArg some (by omega)
          · rw [hL2.n (i := 72) (d := 0) (List.mem_cons_of_mem _ List.mem_cons_self) b67]; exact congrArg some (by omega)
          · rw [hL2.n (i := 73) (d := 0) (List.mem_cons_of_mem _ (List.mem_cons_of_mem _ List.mem_cons_self)) b68]; exact congrArg some (by omega)
        · have hq : (Sum.inl _ : Option qV ⊕ (Nat × qL × List qV)) = Sum.inr q := hq
          cases hq
    · by_cases hv2 : (fc 5 (N + 1)).toInt ≤ 2
      · have hv3 : 1 ≤ (fc 5 (N + 1)).toInt := by omega
        refine qy_TP.pre (ρ' := ρ ++ [(fc 5 (N + 1)).toInt, (fc 6 (N + 1)).toInt]) (g' := zPT_s_l1a.1) (w' := zPT_s_l1a.2.1) (lo' := zPT_s_l1a.2.2.1) (st' := zPT_s_l1a.2.2.2) ?_ hw
          (fun h => h.to _ [(66, 560, 859), (67, 0, 7), (68, 2, 39), (71, 1, 2), (72, (.negSucc 2147483647), 2147483647)] [] (by decide +kernel) rfl (by decide +kernel) (fa_ex e66 (by omega) (by omega) (fa_ex e67 (by omega) (by omega) (fa_ex e68 (by omega) (by omega) (fa_ex (q_ap0 hl) (by omega) (by omega) (fa_ex (q_ap1 hl) hy.1 hy.2 fa_nil))))) fa_nil) (fun _ _ h => h.mono he) (fun _ h => h.mono he)
        refine qs_lnkB fa_nil hT hA zPg_l1a (fa_cons (fun ρ' htk2 hL hgE _ => ⟨fun rv hrv => ?r0, fun q hq => ?c0⟩) fa_nil)
        case r0 =>
          have hrv : (Sum.inr _ : Option qV ⊕ (Nat × qL × List qV)) = Sum.inl rv := hrv
          cases hrv
        case c0 =>
          have hq : (Sum.inr _ : Option qV ⊕ (Nat × qL × List qV)) = Sum.inr q := hq
          cases hq
          have ht2 : ρ'.take 66 = ρb := by rw [htk2, List.take_append_of_le_length (by omega)]; exact ht
          have a1 := hL.n (i := 69) (d := 0) (List.mem_cons_of_mem _ (List.mem_cons_of_mem _ (List.mem_cons_of_mem _ List.mem_cons_self))) e66
          have a2 := hL.n (i := 70) (d := 0) (List.mem_cons_of_mem _ (List.mem_cons_of_mem _ (List.mem_cons_of_mem _ (List.mem_cons_of_mem _ List.mem_cons_self)))) (q_ap1 hl)
          obtain ⟨T1, B1, hT1, hT2, hJ1⟩ := hj_pop hJ (by omega) (by omega)
          have eq : q_up fc 0 (((560 + M : Nat) : Int) + 0).toNat (Int32.ofInt ((fc 6 (N + 1)).toInt + 0)) = q_up fc 0 (560 + M) (fc 6 (N + 1)) := by rw [Int.add_zero, Int.add_zero, Int.toNat_natCast, Int32.ofInt_toInt]
          refine qy_TP.pre (fc' := q_up fc 0 (560 + M) (fc 6 (N + 1))) (ρ' := ρ') (g' := zPT_pop1.1) (w' := zPT_L1.2.1) (lo' := zPT_L1.2.2.1) (st' := []) ?_ (fun ws h => by
            have := h.rf (c := 17) (t := 0) (N := 1120) (κ := 0) (kn := []) (or := []) (a := qa 69) (x := qa 70) (z := ((560 + M : Nat) : Int) + 0) (y := (fc 6 (N + 1)).toInt + 0) rfl (by decide +kernel) (q_vs a1) (q_vs a2) rfl rfl
            rw [eq] at this
            exact this) (fun h => h) (fun _ _ h => h) (fun _ h => h)
          refine ih _ ρ' T1 B1 (M + 1) (by omega) ht2 ?_ ?_ ?_ hJ1
          · rw [hL.n (i := 66) (d := 1) List.mem_cons_self e66]; exact congrArg some (by omega)
          · rw [hL.n (i := 67) (d := 0) (List.mem_cons_of_mem _ List.mem_cons_self) e67]; exact congrArg some (by omega)
          · rw [hL.n (i := 68) (d := -1) (List.mem_cons_of_mem _ (List.mem_cons_of_mem _ List.mem_cons_self)) e68]; exact congrArg some (by omega)
      · have hv3 : 4 ≤ (fc 5 (N + 1)).toInt := by omega
        refine qy_TP.pre (ρ' := ρ ++ [(fc 5 (N + 1)).toInt, (fc 6 (N + 1)).toInt]) (g' := zPT_s_l1c.1) (w' := zPT_s_l1c.2.1) (lo' := zPT_s_l1c.2.2.1) (st' := zPT_s_l1c.2.2.2) ?_ hw
          (fun h => h.to _ [(66, 560, 859), (67, 0, 7), (68, 2, 39), (71, 4, 6), (72, (.negSucc 2147483647), 2147483647)] [] (by decide +kernel) rfl (by decide +kernel) (fa_ex e66 (by omega) (by omega) (fa_ex e67 (by omega) (by omega) (fa_ex e68 (by omega) (by omega) (fa_ex (q_ap0 hl) (by omega) (by omega) (fa_ex (q_ap1 hl) hy.1 hy.2 fa_nil))))) fa_nil) (fun _ _ h => h.mono he) (fun _ h => h.mono he)
        refine qs_lnkB fa_nil hT hA zPg_l1c (fa_cons (fun ρ' htk2 hL hgE _ => ⟨fun rv hrv => ?r0, fun q hq => ?c0⟩) fa_nil)
        case r0 =>
          have hrv : (Sum.inr _ : Option qV ⊕ (Nat × qL × List qV)) = Sum.inl rv := hrv
          cases hrv
        case c0 =>
          have hq : (Sum.inr _ : Option qV ⊕ (Nat × qL × List qV)) = Sum.inr q := hq
          cases hq
          have ht2 : ρ'.take 66 = ρb := by rw [htk2, List.take_append_of_le_length (by omega)]; exact ht
          have a1 := hL.n (i := 69) (d := 0) (List.mem_cons_of_mem _ (List.mem_cons_of_mem _ (List.mem_cons_of_mem _ List.mem_cons_self))) e66
          have a2 := hL.n (i := 70) (d := 0) (List.mem_cons_of_mem _ (List.mem_cons_of_mem _ (List.mem_cons_of_mem _ (List.mem_cons_of_mem _ List.mem_cons_self)))) (q_ap1 hl)
          obtain ⟨T1, B1, hT1, hT2, hJ1⟩ := hj_pop hJ (by omega) (by omega)
          have eq : q_up fc 0 (((560 + M : Nat) : Int) + 0).toNat (Int32.ofInt ((fc 6 (N + 1)).toInt + 0)) = q_up fc 0 (560 + M) (fc 6 (N + 1)) := by rw [Int.add_zero, Int.add_zero, Int.toNat_natCast, Int32.ofInt_toInt]
          refine qy_TP.pre (fc' := q_up fc 0 (560 + M) (fc 6 (N + 1))) (ρ' := ρ') (g' := zPT_pop1.1) (w' := zPT_L1.2.1) (lo' := zPT_L1.2.2.1) (st' := []) ?_ (fun ws h => by
            have := h.rf (c := 17) (t := 0) (N := 1120) (κ := 0) (kn := []) (or := []) (a := qa 69) (x := qa 70) (z := ((560 + M : Nat) : Int) + 0) (y := (fc 6 (N + 1)).toInt + 0) rfl (by decide +kernel) (q_vs a1) (q_vs a2) rfl rfl
            rw [eq] at this
            exact this) (fun h => h) (fun _ _ h => h) (fun _ h => h)
          refine ih _ ρ' T1 B1 (M + 1) (by omega) ht2 ?_ ?_ ?_ hJ1
          · rw [hL.n (i := 66) (d := 1) List.mem_cons_self e66]; exact congrArg some (by omega)
          · rw [hL.n (i := 67) (d := 0) (List.mem_cons_of_mem _ List.mem_cons_self) e67]; exact congrArg some (by omega)
          · rw [hL.n (i := 68) (d := -1) (List.mem_cons_of_mem _ (List.mem_cons_of_mem _ List.mem_cons_self)) e68]; exact congrArg some (by omega)
theorem zPl2 (hT : zk_t) (hA : zk_a) (hgo : ∀ fc, qy_V ex (qΓ1 fc) D as tys zPk2) {fc0 : Nat → Nat → Int32} {ρb : List Int} {Nb U : Nat} (htk : ∃ tk, ρb[58]? = some tk ∧ 1 ≤ tk) : ∀ (N : Nat) (fc : Nat → Nat → Int32) (ρ : List Int) (T B M : Nat), N + 1 ≤ Nb → ρ.take 66 = ρb → ρ[66]? = some ((560 + M : Nat) : Int) → ρ[67]? = some (T : Int) → ρ[68]? = some ((N + 1 : Nat) : Int) → hj_J fc fc0 560 (N + 1) T B M U false → qy_TP ex D as tys 10 187 fc ρ zPT_pop2.1 zPT_L2.2.1 zPT_L2.2.2.1 [] 23 (zPPB fc0 ρb Nb U) := by
  intro N
  induction N with
  | zero =>
    intro fc ρ T B M hN ht h66 h67 h68 hJ
    refine qy_TP.intro fun _ hg => ?_
    have hl : ρ.length = 71 := hg.len rfl
    have hbd := hj_bd hJ
    have hT7 := hJ.2.1
    have hi : (Int32.ofInt ((0 : Nat) : Int)).toInt = ((0 : Nat) : Int) := q_i32of (by omega) (by omega)
    have he : qe ρ (ρ ++ [(fc 5 0).toInt, (fc 6 0).toInt]) := ⟨_, rfl⟩
    have hy := q_i32 (fc 6 0)
    have hw : ∀ ws, qy_w ρ ex fc tys as zPT_L2.2.1 ws → qy_w (ρ ++ [(fc 5 0).toInt, (fc 6 0).toInt]) ex fc tys as ((zPT_L2.2.1.set 19 (.inr (.inr (.inr (0, 90, 5, [(ql 68 1 (.negSucc 0), qa 71)], []))))).set 20 (.inr (.inr (.inr (0, 90, 6, [(ql 68 1 (.negSucc 0), qa 72)], []))))) ws := fun ws h => ((h.mono he).chg (i := 19) (e := .inr (.inr (.inr (0, 90, 5, [], [])))) rfl (fun q hq => qy_knw (i := Int32.ofInt ((0 : Nat) : Int)) (qy_knd (he.at h68) (by rw [hi]; omega)) (by rw [hi]; omega) (by rw [hi]; show _ < ((90 : Nat) : Int); omega) (qy_kns (by rw [hi, Int.toNat_natCast]; exact q_ap0 hl)) hq)).chg (i := 20) (e := .inr (.inr (.inr (0, 90, 6, [], [])))) rfl (fun q hq => qy_knw (i := Int32.ofInt ((0 : Nat) : Int)) (qy_knd (he.at h68) (by rw [hi]; omega)) (by rw [hi]; omega) (by rw [hi]; show _ < ((90 : Nat) : Int); omega) (qy_kns (by rw [hi, Int.toNat_natCast]; exact q_ap1 hl)) hq)
    have e66 := he.at h66
    have e67 := he.at h67
    have e68 := he.at h68
    have hv : (fc 5 0).toInt = 8 := hJ.2.2.2.1
    refine qy_TP.pre (ρ' := ρ ++ [(fc 5 0).toInt, (fc 6 0).toInt]) (g' := zPT_s_l2e.1) (w' := zPT_s_l2e.2.1) (lo' := zPT_s_l2e.2.2.1) (st' := zPT_s_l2e.2.2.2) ?_ hw
      (fun h => h.to _ [(66, 560, 859), (67, 0, 7), (68, 1, 39), (71, 8, 8), (72, (.negSucc 2147483647), 2147483647)] [] (by decide +kernel) rfl (by decide +kernel) (fa_ex e66 (by omega) (by omega) (fa_ex e67 (by omega) (by omega) (fa_ex e68 (by omega) (by omega) (fa_ex (q_ap0 hl) (by omega) (by omega) (fa_ex (q_ap1 hl) hy.1 hy.2 fa_nil))))) fa_nil) (fun _ _ h => h.mono he) (fun _ h => h.mono he)
    refine qs_lnkB fa_nil hT hA zPg_l2e (fa_cons (fun ρ' htk2 hL hgE _ => ⟨fun rv hrv => ?r0, fun q hq => ?c0⟩) fa_nil)
    case r0 =>
      have hrv : (Sum.inr _ : Option qV ⊕ (Nat × qL × List qV)) = Sum.inl rv := hrv
      cases hrv
    case c0 =>
      have hq : (Sum.inr _ : Option qV ⊕ (Nat × qL × List qV)) = Sum.inr q := hq
      cases hq
      have ht2 : ρ'.take 66 = ρb := by rw [htk2, List.take_append_of_le_length (by omega)]; exact ht
      have a1 := hL.n (i := 69) (d := 0) (List.mem_cons_of_mem _ (List.mem_cons_of_mem _ (List.mem_cons_of_mem _ List.mem_cons_self))) e68
      have a2 := hL.n (i := 70) (d := 0) (List.mem_cons_of_mem _ (List.mem_cons_of_mem _ (List.mem_cons_of_mem _ (List.mem_cons_of_mem _ List.mem_cons_self)))) e68
      have hx3 : (Int32.ofInt (2 : Int)).toInt = 2 := q_i32of (by omega) (by omega)
      have hy3 : (Int32.ofInt (38 : Int)).toInt = (38 : Int) := q_i32of (by omega) (by omega)
      have eq : q_up (q_up fc 5 ((((0 + 1) : Nat) : Int) + 0).toNat (Int32.ofInt (2 : Int))) 6 ((((0 + 1) : Nat) : Int) + 0).toNat (Int32.ofInt (38 : Int)) = q_up (q_up fc 5 (0 + 1) (Int32.ofInt (2 : Int))) 6 (0 + 1) (Int32.ofInt (38 : Int)) := by rw [Int.add_zero, Int.toNat_natCast]
      have hJ1 := hj_psh hJ (x := Int32.ofInt (2 : Int)) (y := Int32.ofInt (38 : Int)) (by rw [hx3]; omega) (by rw [hy3]; unfold hj_b; omega)
      refine qy_TP.pre (fc' := q_up (q_up fc 5 (0 + 1) (Int32.ofInt (2 : Int))) 6 (0 + 1) (Int32.ofInt (38 : Int))) (ρ' := ρ') (g' := zPT_s_p2.1) (w' := zPT_s_p2.2.1) (lo' := zPT_s_p2.2.2.1) (st' := []) ?_ (fun ws h => by
        have h1 := h.rf (c := 19) (t := 0) (N := 90) (κ := 5) (kn := []) (or := []) (a := qa 69) (x := .inl 2) (z := (((0 + 1) : Nat) : Int) + 0) (y := 2) rfl (by decide +kernel) (q_vs a1) rfl rfl rfl
        have h2 := h1.rf (c := 20) (t := 0) (N := 90) (κ := 6) (kn := []) (or := []) (a := qa 70) (x := .inl 38) (z := (((0 + 1) : Nat) : Int) + 0) (y := (38 : Int)) rfl (by decide +kernel) (q_vs a2) rfl rfl rfl
        rw [eq] at h2
        exact h2) (fun h => h) (fun _ _ h => h) (fun _ h => h)
      have b66 := hL.n (i := 66) (d := 0) List.mem_cons_self e66
      have b67 := hL.n (i := 67) (d := 0) (List.mem_cons_of_mem _ List.mem_cons_self) e67
      have b68 := hL.n (i := 68) (d := 1) (List.mem_cons_of_mem _ (List.mem_cons_of_mem _ List.mem_cons_self)) e68
      have hlp : ρ'.length = 71 := hgE.len rfl
      refine qs_lnkB (fa_cons (hgo _) fa_nil) hT hA zPg_p2 (fa_cons (fun ρ2 htk3 hL2 _ _ => ⟨fun rv hrv => ?_, fun q hq => ?_⟩) (fa_cons (fun ρ2 htk3 hL2 _ _ => ⟨fun rv hrv => ?_, fun q hq => ?_⟩) fa_nil))
      · refine ⟨by rw [htk3]; exact ht2, Or.inr (Or.inl ⟨(0 + 1) + 1, T, B + 1, M, htk, by omega, hJ1, Or.inl ⟨rfl, ?_, ?_, ?_⟩⟩)⟩
        · rw [hL2.n (i := 68) (d := 0) (List.mem_cons_of_mem _ List.mem_cons_self) b66]; exact congrArg some (by omega)
        · rw [hL2.n (i := 69) (d := 0) (List.mem_cons_of_mem _ (List.mem_cons_of_mem _ List.mem_cons_self)) b67]; exact congrArg some (by omega)
        · rw [hL2.n (i := 70) (d := 0) (List.mem_cons_of_mem _ (List.mem_cons_of_mem _ (List.mem_cons_of_mem _ List.mem_cons_self))) b68]; exact congrArg some (by omega)
      · have hq : (Sum.inl _ : Option qV ⊕ (Nat × qL × List qV)) = Sum.inr q := hq
        cases hq
      · refine ⟨by rw [htk3]; exact ht2, Or.inr (Or.inl ⟨(0 + 1) + 1, T, B + 1, M, htk, by omega, hJ1, Or.inr ⟨rfl, ?_, ?_, ?_⟩⟩)⟩
        · rw [hL2.n (i := 71) (d := 0) List.mem_cons_self b66]; exact congrArg some (by omega)
        · rw [hL2.n (i := 72) (d := 0) (List.mem_cons_of_mem _ List.mem_cons_self) b67]; exact congrArg some (by omega)
        · rw [hL2.n (i := 73) (d := 0) (List.mem_cons_of_mem _ (List.mem_cons_of_mem _ List.mem_cons_self)) b68]; exact congrArg some (by omega)
      · have hq : (Sum.inl _ : Option qV ⊕ (Nat × qL × List qV)) = Sum.inr q := hq
        cases hq
  | succ N ih =>
    intro fc ρ T B M hN ht h66 h67 h68 hJ
    refine qy_TP.intro fun _ hg => ?_
    have hl : ρ.length = 71 := hg.len rfl
    have hbd := hj_bd hJ
    have hT7 := hJ.2.1
    have hi : (Int32.ofInt (((N + 1) : Nat) : Int)).toInt = (((N + 1) : Nat) : Int) := q_i32of (by omega) (by omega)
    have he : qe ρ (ρ ++ [(fc 5 (N + 1)).toInt, (fc 6 (N + 1)).toInt]) := ⟨_, rfl⟩
    have hy := q_i32 (fc 6 (N + 1))
    have hw : ∀ ws, qy_w ρ ex fc tys as zPT_L2.2.1 ws → qy_w (ρ ++ [(fc 5 (N + 1)).toInt, (fc 6 (N + 1)).toInt]) ex fc tys as ((zPT_L2.2.1.set 19 (.inr (.inr (.inr (0, 90, 5, [(ql 68 1 (.negSucc 0), qa 71)], []))))).set 20 (.inr (.inr (.inr (0, 90, 6, [(ql 68 1 (.negSucc 0), qa 72)], []))))) ws := fun ws h => ((h.mono he).chg (i := 19) (e := .inr (.inr (.inr (0, 90, 5, [], [])))) rfl (fun q hq => qy_knw (i := Int32.ofInt (((N + 1) : Nat) : Int)) (qy_knd (he.at h68) (by rw [hi]; omega)) (by rw [hi]; omega) (by rw [hi]; show _ < ((90 : Nat) : Int); omega) (qy_kns (by rw [hi, Int.toNat_natCast]; exact q_ap0 hl)) hq)).chg (i := 20) (e := .inr (.inr (.inr (0, 90, 6, [], [])))) rfl (fun q hq => qy_knw (i := Int32.ofInt (((N + 1) : Nat) : Int)) (qy_knd (he.at h68) (by rw [hi]; omega)) (by rw [hi]; omega) (by rw [hi]; show _ < ((90 : Nat) : Int); omega) (qy_kns (by rw [hi, Int.toNat_natCast]; exact q_ap1 hl)) hq)
    have e66 := he.at h66
    have e67 := he.at h67
    have e68 := he.at h68
    have he5 := hJ.2.2.2.2.1 (N + 1) (by omega) (by omega)
    have htop := hj_top hJ
    rcases htop with ⟨z, -⟩ | ⟨-, -, hz1, hz2⟩
    · omega
    rcases he5 with ⟨hv, -⟩ | hv | ⟨hv, -⟩
    · have hTT := hz1 (Or.inl hv)
      refine qy_TP.pre (ρ' := ρ ++ [(fc 5 (N + 1)).toInt, (fc 6 (N + 1)).toInt]) (g' := zPT_s_l2b.1) (w' := zPT_s_l2b.2.1) (lo' := zPT_s_l2b.2.2.1) (st' := zPT_s_l2b.2.2.2) ?_ hw
        (fun h => h.to _ [(66, 560, 859), (67, 1, 7), (68, 2, 39), (71, 3, 3), (72, (.negSucc 2147483647), 2147483647)] [] (by decide +kernel) rfl (by decide +kernel) (fa_ex e66 (by omega) (by omega) (fa_ex e67 (by omega) (by omega) (fa_ex e68 (by omega) (by omega) (fa_ex (q_ap0 hl) (by omega) (by omega) (fa_ex (q_ap1 hl) hy.1 hy.2 fa_nil))))) fa_nil) (fun _ _ h => h.mono he) (fun _ h => h.mono he)
      refine qs_lnkB fa_nil hT hA zPg_l2b (fa_cons (fun ρ' htk2 hL hgE _ => ⟨fun rv hrv => ?r0, fun q hq => ?c0⟩) fa_nil)
      case r0 =>
        have hrv : (Sum.inr _ : Option qV ⊕ (Nat × qL × List qV)) = Sum.inl rv := hrv
        cases hrv
      case c0 =>
        have hq : (Sum.inr _ : Option qV ⊕ (Nat × qL × List qV)) = Sum.inr q := hq
        cases hq
        have ht2 : ρ'.take 66 = ρb := by rw [htk2, List.take_append_of_le_length (by omega)]; exact ht
        have a1 := hL.n (i := 69) (d := 0) (List.mem_cons_of_mem _ (List.mem_cons_of_mem _ (List.mem_cons_of_mem _ List.mem_cons_self))) e66
        have a2 := hL.n (i := 70) (d := 0) (List.mem_cons_of_mem _ (List.mem_cons_of_mem _ (List.mem_cons_of_mem _ (List.mem_cons_of_mem _ List.mem_cons_self)))) (q_ap1 hl)
        obtain ⟨T1, B1, hT1, hT2, hJ1⟩ := hj_pop hJ (by omega) (by omega)
        have eq : q_up fc 0 (((560 + M : Nat) : Int) + 0).toNat (Int32.ofInt ((fc 6 (N + 1)).toInt + 0)) = q_up fc 0 (560 + M) (fc 6 (N + 1)) := by rw [Int.add_zero, Int.add_zero, Int.toNat_natCast, Int32.ofInt_toInt]
        refine qy_TP.pre (fc' := q_up fc 0 (560 + M) (fc 6 (N + 1))) (ρ' := ρ') (g' := zPT_pop2.1) (w' := zPT_L2.2.1) (lo' := zPT_L2.2.2.1) (st' := []) ?_ (fun ws h => by
          have := h.rf (c := 17) (t := 0) (N := 1120) (κ := 0) (kn := []) (or := []) (a := qa 69) (x := qa 70) (z := ((560 + M : Nat) : Int) + 0) (y := (fc 6 (N + 1)).toInt + 0) rfl (by decide +kernel) (q_vs a1) (q_vs a2) rfl rfl
          rw [eq] at this
          exact this) (fun h => h) (fun _ _ h => h) (fun _ h => h)
        refine ih _ ρ' T1 B1 (M + 1) (by omega) ht2 ?_ ?_ ?_ hJ1
        · rw [hL.n (i := 66) (d := 1) List.mem_cons_self e66]; exact congrArg some (by omega)
        · rw [hL.n (i := 67) (d := -1) (List.mem_cons_of_mem _ List.mem_cons_self) e67]; exact congrArg some (by omega)
        · rw [hL.n (i := 68) (d := -1) (List.mem_cons_of_mem _ (List.mem_cons_of_mem _ List.mem_cons_self)) e68]; exact congrArg some (by omega)
    · have hTT := hz1 (Or.inr hv)
      refine qy_TP.pre (ρ' := ρ ++ [(fc 5 (N + 1)).toInt, (fc 6 (N + 1)).toInt]) (g' := zPT_s_l2d.1) (w' := zPT_s_l2d.2.1) (lo' := zPT_s_l2d.2.2.1) (st' := zPT_s_l2d.2.2.2) ?_ hw
        (fun h => h.to _ [(66, 560, 859), (67, 1, 7), (68, 2, 39), (71, 7, 7), (72, (.negSucc 2147483647), 2147483647)] [] (by decide +kernel) rfl (by decide +kernel) (fa_ex e66 (by omega) (by omega) (fa_ex e67 (by omega) (by omega) (fa_ex e68 (by omega) (by omega) (fa_ex (q_ap0 hl) (by omega) (by omega) (fa_ex (q_ap1 hl) hy.1 hy.2 fa_nil))))) fa_nil) (fun _ _ h => h.mono he) (fun _ h => h.mono he)
      refine qs_lnkB fa_nil hT hA zPg_l2d (fa_cons (fun ρ' htk2 hL hgE _ => ⟨fun rv hrv => ?r0, fun q hq => ?c0⟩) fa_nil)
      case r0 =>
        have hrv : (Sum.inr _ : Option qV ⊕ (Nat × qL × List qV)) = Sum.inl rv := hrv
        cases hrv
      case c0 =>
        have hq : (Sum.inr _ : Option qV ⊕ (Nat × qL × List qV)) = Sum.inr q := hq
        cases hq
        have ht2 : ρ'.take 66 = ρb := by rw [htk2, List.take_append_of_le_length (by omega)]; exact ht
        have a1 := hL.n (i := 69) (d := 0) (List.mem_cons_of_mem _ (List.mem_cons_of_mem _ (List.mem_cons_of_mem _ List.mem_cons_self))) e68
        have a2 := hL.n (i := 70) (d := 0) (List.mem_cons_of_mem _ (List.mem_cons_of_mem _ (List.mem_cons_of_mem _ (List.mem_cons_of_mem _ List.mem_cons_self)))) e68
        have hx3 : (Int32.ofInt (2 : Int)).toInt = 2 := q_i32of (by omega) (by omega)
        have hy3 : (Int32.ofInt (38 : Int)).toInt = (38 : Int) := q_i32of (by omega) (by omega)
        have eq : q_up (q_up fc 5 (((((N + 1) + 1) : Nat) : Int) + 0).toNat (Int32.ofInt (2 : Int))) 6 (((((N + 1) + 1) : Nat) : Int) + 0).toNat (Int32.ofInt (38 : Int)) = q_up (q_up fc 5 ((N + 1) + 1) (Int32.ofInt (2 : Int))) 6 ((N + 1) + 1) (Int32.ofInt (38 : Int)) := by rw [Int.add_zero, Int.toNat_natCast]
        have hJ1 := hj_psh hJ (x := Int32.ofInt (2 : Int)) (y := Int32.ofInt (38 : Int)) (by rw [hx3]; omega) (by rw [hy3]; unfold hj_b; omega)
        refine qy_TP.pre (fc' := q_up (q_up fc 5 ((N + 1) + 1) (Int32.ofInt (2 : Int))) 6 ((N + 1) + 1) (Int32.ofInt (38 : Int))) (ρ' := ρ') (g' := zPT_s_p2.1) (w' := zPT_s_p2.2.1) (lo' := zPT_s_p2.2.2.1) (st' := []) ?_ (fun ws h => by
          have h1 := h.rf (c := 19) (t := 0) (N := 90) (κ := 5) (kn := []) (or := []) (a := qa 69) (x := .inl 2) (z := ((((N + 1) + 1) : Nat) : Int) + 0) (y := 2) rfl (by decide +kernel) (q_vs a1) rfl rfl rfl
          have h2 := h1.rf (c := 20) (t := 0) (N := 90) (κ := 6) (kn := []) (or := []) (a := qa 70) (x := .inl 38) (z := ((((N + 1) + 1) : Nat) : Int) + 0) (y := (38 : Int)) rfl (by decide +kernel) (q_vs a2) rfl rfl rfl
          rw [eq] at h2
          exact h2) (fun h => h) (fun _ _ h => h) (fun _ h => h)
        have b66 := hL.n (i := 66) (d := 0) List.mem_cons_self e66
        have b67 := hL.n (i := 67) (d := 0) (List.mem_cons_of_mem _ List.mem_cons_self) e67
        have b68 := hL.n (i := 68) (d := 1) (List.mem_cons_of_mem _ (List.mem_cons_of_mem _ List.mem_cons_self)) e68
        have hlp : ρ'.length = 71 := hgE.len rfl
        refine qs_lnkB (fa_cons (hgo _) fa_nil) hT hA zPg_p2 (fa_cons (fun ρ2 htk3 hL2 _ _ => ⟨fun rv hrv => ?_, fun q hq => ?_⟩) (fa_cons (fun ρ2 htk3 hL2 _ _ => ⟨fun rv hrv => ?_, fun q hq => ?_⟩) fa_nil))
        · refine ⟨by rw [htk3]; exact ht2, Or.inr (Or.inl ⟨((N + 1) + 1) + 1, T, B + 1, M, htk, by omega, hJ1, Or.inl ⟨rfl, ?_, ?_, ?_⟩⟩)⟩
          · rw [hL2.n (i := 68) (d := 0) (List.mem_cons_of_mem _ List.mem_cons_self) b66]; exact congrArg some (by omega)
          · rw [hL2.n (i := 69) (d := 0) (List.mem_cons_of_mem _ (List.mem_cons_of_mem _ List.mem_cons_self)) b67]; exact congrArg some (by omega)
          · rw [hL2.n (i := 70) (d := 0) (List.mem_cons_of_mem _ (List.mem_cons_of_mem _ (List.mem_cons_of_mem _ List.mem_cons_self))) b68]; exact congrArg some (by omega)
        · have hq : (Sum.inl _ : Option qV ⊕ (Nat × qL × List qV)) = Sum.inr q := hq
          cases hq
        · refine ⟨by rw [htk3]; exact ht2, Or.inr (Or.inl ⟨((N + 1) + 1) + 1, T, B + 1, M, htk, by omega, hJ1, Or.inr ⟨rfl, ?_, ?_, ?_⟩⟩)⟩
          · rw [hL2.n (i := 71) (d := 0) List.mem_cons_self b66]; exact congrArg some (by omega)
          · rw [hL2.n (i := 72) (d := 0) (List.mem_cons_of_mem _ List.mem_cons_self) b67]; exact congrArg some (by omega)
          · rw [hL2.n (i := 73) (d := 0) (List.mem_cons_of_mem _ (List.mem_cons_of_mem _ List.mem_cons_self)) b68]; exact congrArg some (by omega)
        · have hq : (Sum.inl _ : Option qV ⊕ (Nat × qL × List qV)) = Sum.inr q := hq
          cases hq
    · by_cases hv2 : (fc 5 (N + 1)).toInt ≤ 2
      · have hv3 : 1 ≤ (fc 5 (N + 1)).toInt := by omega
        refine qy_TP.pre (ρ' := ρ ++ [(fc 5 (N + 1)).toInt, (fc 6 (N + 1)).toInt]) (g' := zPT_s_l2a.1) (w' := zPT_s_l2a.2.1) (lo' := zPT_s_l2a.2.2.1) (st' := zPT_s_l2a.2.2.2) ?_ hw
          (fun h => h.to _ [(66, 560, 859), (67, 0, 7), (68, 2, 39), (71, 1, 2), (72, (.negSucc 2147483647), 2147483647)] [] (by decide +kernel) rfl (by decide +kernel) (fa_ex e66 (by omega) (by omega) (fa_ex e67 (by omega) (by omega) (fa_ex e68 (by omega) (by omega) (fa_ex (q_ap0 hl) (by omega) (by omega) (fa_ex (q_ap1 hl) hy.1 hy.2 fa_nil))))) fa_nil) (fun _ _ h => h.mono he) (fun _ h => h.mono he)
        refine qs_lnkB fa_nil hT hA zPg_l2a (fa_cons (fun ρ' htk2 hL hgE _ => ⟨fun rv hrv => ?r0, fun q hq => ?c0⟩) (fa_cons (fun ρ' htk2 hL hgE _ => ⟨fun rv hrv => ?r1, fun q hq => ?c1⟩) fa_nil))
        case r0 =>
          have hrv : (Sum.inr _ : Option qV ⊕ (Nat × qL × List qV)) = Sum.inl rv := hrv
          cases hrv
        case c0 =>
          have hq : (Sum.inr _ : Option qV ⊕ (Nat × qL × List qV)) = Sum.inr q := hq
          cases hq
          have ht2 : ρ'.take 66 = ρb := by rw [htk2, List.take_append_of_le_length (by omega)]; exact ht
          have a1 := hL.n (i := 69) (d := 0) (List.mem_cons_of_mem _ (List.mem_cons_of_mem _ (List.mem_cons_of_mem _ List.mem_cons_self))) e66
          have a2 := hL.n (i := 70) (d := 0) (List.mem_cons_of_mem _ (List.mem_cons_of_mem _ (List.mem_cons_of_mem _ (List.mem_cons_of_mem _ List.mem_cons_self)))) (q_ap1 hl)
          obtain ⟨T1, B1, hT1, hT2, hJ1⟩ := hj_pop hJ (by omega) (by omega)
          have eq : q_up fc 0 (((560 + M : Nat) : Int) + 0).toNat (Int32.ofInt ((fc 6 (N + 1)).toInt + 0)) = q_up fc 0 (560 + M) (fc 6 (N + 1)) := by rw [Int.add_zero, Int.add_zero, Int.toNat_natCast, Int32.ofInt_toInt]
          refine qy_TP.pre (fc' := q_up fc 0 (560 + M) (fc 6 (N + 1))) (ρ' := ρ') (g' := zPT_pop2.1) (w' := zPT_L2.2.1) (lo' := zPT_L2.2.2.1) (st' := []) ?_ (fun ws h => by
            have := h.rf (c := 17) (t := 0) (N := 1120) (κ := 0) (kn := []) (or := []) (a := qa 69) (x := qa 70) (z := ((560 + M : Nat) : Int) + 0) (y := (fc 6 (N + 1)).toInt + 0) rfl (by decide +kernel) (q_vs a1) (q_vs a2) rfl rfl
            rw [eq] at this
            exact this) (fun h => h) (fun _ _ h => h) (fun _ h => h)
          refine ih _ ρ' T1 B1 (M + 1) (by omega) ht2 ?_ ?_ ?_ hJ1
          · rw [hL.n (i := 66) (d := 1) List.mem_cons_self e66]; exact congrArg some (by omega)
          · rw [hL.n (i := 67) (d := 0) (List.mem_cons_of_mem _ List.mem_cons_self) e67]; exact congrArg some (by omega)
          · rw [hL.n (i := 68) (d := -1) (List.mem_cons_of_mem _ (List.mem_cons_of_mem _ List.mem_cons_self)) e68]; exact congrArg some (by omega)
        case r1 =>
          have hrv : (Sum.inr _ : Option qV ⊕ (Nat × qL × List qV)) = Sum.inl rv := hrv
          cases hrv
        case c1 =>
          have hq : (Sum.inr _ : Option qV ⊕ (Nat × qL × List qV)) = Sum.inr q := hq
          cases hq
          have ht2 : ρ'.take 66 = ρb := by rw [htk2, List.take_append_of_le_length (by omega)]; exact ht
          have a1 := hL.n (i := 69) (d := 0) (List.mem_cons_of_mem _ (List.mem_cons_of_mem _ (List.mem_cons_of_mem _ List.mem_cons_self))) e68
          have a2 := hL.n (i := 70) (d := 0) (List.mem_cons_of_mem _ (List.mem_cons_of_mem _ (List.mem_cons_of_mem _ (List.mem_cons_of_mem _ List.mem_cons_self)))) e68
          have hx3 : (Int32.ofInt (2 : Int)).toInt = 2 := q_i32of (by omega) (by omega)
          have hy3 : (Int32.ofInt (38 : Int)).toInt = (38 : Int) := q_i32of (by omega) (by omega)
          have eq : q_up (q_up fc 5 (((((N + 1) + 1) : Nat) : Int) + 0).toNat (Int32.ofInt (2 : Int))) 6 (((((N + 1) + 1) : Nat) : Int) + 0).toNat (Int32.ofInt (38 : Int)) = q_up (q_up fc 5 ((N + 1) + 1) (Int32.ofInt (2 : Int))) 6 ((N + 1) + 1) (Int32.ofInt (38 : Int)) := by rw [Int.add_zero, Int.toNat_natCast]
          have hJ1 := hj_psh hJ (x := Int32.ofInt (2 : Int)) (y := Int32.ofInt (38 : Int)) (by rw [hx3]; omega) (by rw [hy3]; unfold hj_b; omega)
          refine qy_TP.pre (fc' := q_up (q_up fc 5 ((N + 1) + 1) (Int32.ofInt (2 : Int))) 6 ((N + 1) + 1) (Int32.ofInt (38 : Int))) (ρ' := ρ') (g' := zPT_s_p2.1) (w' := zPT_s_p2.2.1) (lo' := zPT_s_p2.2.2.1) (st' := []) ?_ (fun ws h => by
            have h1 := h.rf (c := 19) (t := 0) (N := 90) (κ := 5) (kn := []) (or := []) (a := qa 69) (x := .inl 2) (z := ((((N + 1) + 1) : Nat) : Int) + 0) (y := 2) rfl (by decide +kernel) (q_vs a1) rfl rfl rfl
            have h2 := h1.rf (c := 20) (t := 0) (N := 90) (κ := 6) (kn := []) (or := []) (a := qa 70) (x := .inl 38) (z := ((((N + 1) + 1) : Nat) : Int) + 0) (y := (38 : Int)) rfl (by decide +kernel) (q_vs a2) rfl rfl rfl
            rw [eq] at h2
            exact h2) (fun h => h) (fun _ _ h => h) (fun _ h => h)
          have b66 := hL.n (i := 66) (d := 0) List.mem_cons_self e66
          have b67 := hL.n (i := 67) (d := 0) (List.mem_cons_of_mem _ List.mem_cons_self) e67
          have b68 := hL.n (i := 68) (d := 1) (List.mem_cons_of_mem _ (List.mem_cons_of_mem _ List.mem_cons_self)) e68
          have hlp : ρ'.length = 71 := hgE.len rfl
          refine qs_lnkB (fa_cons (hgo _) fa_nil) hT hA zPg_p2 (fa_cons (fun ρ2 htk3 hL2 _ _ => ⟨fun rv hrv => ?_, fun q hq => ?_⟩) (fa_cons (fun ρ2 htk3 hL2 _ _ => ⟨fun rv hrv => ?_, fun q hq => ?_⟩) fa_nil))
          · refine ⟨by rw [htk3]; exact ht2, Or.inr (Or.inl ⟨((N + 1) + 1) + 1, T, B + 1, M, htk, by omega, hJ1, Or.inl ⟨rfl, ?_, ?_, ?_⟩⟩)⟩
            · rw [hL2.n (i := 68) (d := 0) (List.mem_cons_of_mem _ List.mem_cons_self) b66]; exact congrArg some (by omega)
            · rw [hL2.n (i := 69) (d := 0) (List.mem_cons_of_mem _ (List.mem_cons_of_mem _ List.mem_cons_self)) b67]; exact congrArg some (by omega)
            · rw [hL2.n (i := 70) (d := 0) (List.mem_cons_of_mem _ (List.mem_cons_of_mem _ (List.mem_cons_of_mem _ List.mem_cons_self))) b68]; exact congrArg some (by omega)
          · have hq : (Sum.inl _ : Option qV ⊕ (Nat × qL × List qV)) = Sum.inr q := hq
            cases hq
          · refine ⟨by rw [htk3]; exact ht2, Or.inr (Or.inl ⟨((N + 1) + 1) + 1, T, B + 1, M, htk, by omega, hJ1, Or.inr ⟨rfl, ?_, ?_, ?_⟩⟩)⟩
            · rw [hL2.n (i := 71) (d := 0) List.mem_cons_self b66]; exact congrArg some (by omega)
            · rw [hL2.n (i := 72) (d := 0) (List.mem_cons_of_mem _ List.mem_cons_self) b67]; exact congrArg some (by omega)
            · rw [hL2.n (i := 73) (d := 0) (List.mem_cons_of_mem _ (List.mem_cons_of_mem _ List.mem_cons_self)) b68]; exact congrArg some (by omega)
          · have hq : (Sum.inl _ : Option qV ⊕ (Nat × qL × List qV)) = Sum.inr q := hq
            cases hq
      · have hv3 : 4 ≤ (fc 5 (N + 1)).toInt := by omega
        refine qy_TP.pre (ρ' := ρ ++ [(fc 5 (N + 1)).toInt, (fc 6 (N + 1)).toInt]) (g' := zPT_s_l2c.1) (w' := zPT_s_l2c.2.1) (lo' := zPT_s_l2c.2.2.1) (st' := zPT_s_l2c.2.2.2) ?_ hw
          (fun h => h.to _ [(66, 560, 859), (67, 0, 7), (68, 2, 39), (71, 4, 6), (72, (.negSucc 2147483647), 2147483647)] [] (by decide +kernel) rfl (by decide +kernel) (fa_ex e66 (by omega) (by omega) (fa_ex e67 (by omega) (by omega) (fa_ex e68 (by omega) (by omega) (fa_ex (q_ap0 hl) (by omega) (by omega) (fa_ex (q_ap1 hl) hy.1 hy.2 fa_nil))))) fa_nil) (fun _ _ h => h.mono he) (fun _ h => h.mono he)
        refine qs_lnkB fa_nil hT hA zPg_l2c (fa_cons (fun ρ' htk2 hL hgE _ => ⟨fun rv hrv => ?r0, fun q hq => ?c0⟩) fa_nil)
        case r0 =>
          have hrv : (Sum.inr _ : Option qV ⊕ (Nat × qL × List qV)) = Sum.inl rv := hrv
          cases hrv
        case c0 =>
          have hq : (Sum.inr _ : Option qV ⊕ (Nat × qL × List qV)) = Sum.inr q := hq
          cases hq
          have ht2 : ρ'.take 66 = ρb := by rw [htk2, List.take_append_of_le_length (by omega)]; exact ht
          have a1 := hL.n (i := 69) (d := 0) (List.mem_cons_of_mem _ (List.mem_cons_of_mem _ (List.mem_cons_of_mem _ List.mem_cons_self))) e66
          have a2 := hL.n (i := 70) (d := 0) (List.mem_cons_of_mem _ (List.mem_cons_of_mem _ (List.mem_cons_of_mem _ (List.mem_cons_of_mem _ List.mem_cons_self)))) (q_ap1 hl)
          obtain ⟨T1, B1, hT1, hT2, hJ1⟩ := hj_pop hJ (by omega) (by omega)
          have eq : q_up fc 0 (((560 + M : Nat) : Int) + 0).toNat (Int32.ofInt ((fc 6 (N + 1)).toInt + 0)) = q_up fc 0 (560 + M) (fc 6 (N + 1)) := by rw [Int.add_zero, Int.add_zero, Int.toNat_natCast, Int32.ofInt_toInt]
          refine qy_TP.pre (fc' := q_up fc 0 (560 + M) (fc 6 (N + 1))) (ρ' := ρ') (g' := zPT_pop2.1) (w' := zPT_L2.2.1) (lo' := zPT_L2.2.2.1) (st' := []) ?_ (fun ws h => by
            have := h.rf (c := 17) (t := 0) (N := 1120) (κ := 0) (kn := []) (or := []) (a := qa 69) (x := qa 70) (z := ((560 + M : Nat) : Int) + 0) (y := (fc 6 (N + 1)).toInt + 0) rfl (by decide +kernel) (q_vs a1) (q_vs a2) rfl rfl
            rw [eq] at this
            exact this) (fun h => h) (fun _ _ h => h) (fun _ h => h)
          refine ih _ ρ' T1 B1 (M + 1) (by omega) ht2 ?_ ?_ ?_ hJ1
          · rw [hL.n (i := 66) (d := 1) List.mem_cons_self e66]; exact congrArg some (by omega)
          · rw [hL.n (i := 67) (d := 0) (List.mem_cons_of_mem _ List.mem_cons_self) e67]; exact congrArg some (by omega)
          · rw [hL.n (i := 68) (d := -1) (List.mem_cons_of_mem _ (List.mem_cons_of_mem _ List.mem_cons_self)) e68]; exact congrArg some (by omega)
theorem zPl4 (hT : zk_t) (hA : zk_a) (hgo : ∀ fc, qy_V ex (qΓ1 fc) D as tys zPk2) {fc0 : Nat → Nat → Int32} {ρb : List Int} {Nb U : Nat} (htk : ∃ tk, ρb[58]? = some tk ∧ 1 ≤ tk) : ∀ (N : Nat) (fc : Nat → Nat → Int32) (ρ : List Int) (T B M : Nat), N + 1 ≤ Nb → ρ.take 66 = ρb → ρ[66]? = some ((560 + M : Nat) : Int) → ρ[67]? = some (T : Int) → ρ[68]? = some ((N + 1 : Nat) : Int) → hj_J fc fc0 560 (N + 1) T B M U false → qy_TP ex D as tys 10 187 fc ρ zPT_pop4.1 zPT_L4.2.1 zPT_L4.2.2.1 [] 23 (zPPB fc0 ρb Nb U) := by
  intro N
  induction N with
  | zero =>
    intro fc ρ T B M hN ht h66 h67 h68 hJ
    refine qy_TP.intro fun _ hg => ?_
    have hl : ρ.length = 72 := hg.len rfl
    have hbd := hj_bd hJ
    have hT7 := hJ.2.1
    have hi : (Int32.ofInt ((0 : Nat) : Int)).toInt = ((0 : Nat) : Int) := q_i32of (by omega) (by omega)
    have he : qe ρ (ρ ++ [(fc 5 0).toInt, (fc 6 0).toInt]) := ⟨_, rfl⟩
    have hy := q_i32 (fc 6 0)
    have hw : ∀ ws, qy_w ρ ex fc tys as zPT_L4.2.1 ws → qy_w (ρ ++ [(fc 5 0).toInt, (fc 6 0).toInt]) ex fc tys as ((zPT_L4.2.1.set 19 (.inr (.inr (.inr (0, 90, 5, [(ql 68 1 (.negSucc 0), qa 72)], []))))).set 20 (.inr (.inr (.inr (0, 90, 6, [(ql 68 1 (.negSucc 0), qa 73)], []))))) ws := fun ws h => ((h.mono he).chg (i := 19) (e := .inr (.inr (.inr (0, 90, 5, [], [])))) rfl (fun q hq => qy_knw (i := Int32.ofInt ((0 : Nat) : Int)) (qy_knd (he.at h68) (by rw [hi]; omega)) (by rw [hi]; omega) (by rw [hi]; show _ < ((90 : Nat) : Int); omega) (qy_kns (by rw [hi, Int.toNat_natCast]; exact q_ap0 hl)) hq)).chg (i := 20) (e := .inr (.inr (.inr (0, 90, 6, [], [])))) rfl (fun q hq => qy_knw (i := Int32.ofInt ((0 : Nat) : Int)) (qy_knd (he.at h68) (by rw [hi]; omega)) (by rw [hi]; omega) (by rw [hi]; show _ < ((90 : Nat) : Int); omega) (qy_kns (by rw [hi, Int.toNat_natCast]; exact q_ap1 hl)) hq)
    have e66 := he.at h66
    have e67 := he.at h67
    have e68 := he.at h68
    have hv : (fc 5 0).toInt = 8 := hJ.2.2.2.1
    refine qy_TP.pre (ρ' := ρ ++ [(fc 5 0).toInt, (fc 6 0).toInt]) (g' := zPT_s_l4e.1) (w' := zPT_s_l4e.2.1) (lo' := zPT_s_l4e.2.2.1) (st' := zPT_s_l4e.2.2.2) ?_ hw
      (fun h => h.to _ [(66, 560, 859), (67, 0, 7), (68, 1, 39), (72, 8, 8), (73, (.negSucc 2147483647), 2147483647)] [] (by decide +kernel) rfl (by decide +kernel) (fa_ex e66 (by omega) (by omega) (fa_ex e67 (by omega) (by omega) (fa_ex e68 (by omega) (by omega) (fa_ex (q_ap0 hl) (by omega) (by omega) (fa_ex (q_ap1 hl) hy.1 hy.2 fa_nil))))) fa_nil) (fun _ _ h => h.mono he) (fun _ h => h.mono he)
    refine qs_lnkB fa_nil hT hA zPg_l4e (fa_cons (fun ρ' htk2 hL hgE _ => ⟨fun rv hrv => ?r0, fun q hq => ?c0⟩) fa_nil)
    case r0 =>
      have hrv : (Sum.inr _ : Option qV ⊕ (Nat × qL × List qV)) = Sum.inl rv := hrv
      cases hrv
    case c0 =>
      have hq : (Sum.inr _ : Option qV ⊕ (Nat × qL × List qV)) = Sum.inr q := hq
      cases hq
      have ht2 : ρ'.take 66 = ρb := by rw [htk2, List.take_append_of_le_length (by omega)]; exact ht
      have a1 := hL.n (i := 70) (d := 0) (List.mem_cons_of_mem _ (List.mem_cons_of_mem _ (List.mem_cons_of_mem _ (List.mem_cons_of_mem _ List.mem_cons_self)))) e68
      have a2 := hL.n (i := 71) (d := 0) (List.mem_cons_of_mem _ (List.mem_cons_of_mem _ (List.mem_cons_of_mem _ (List.mem_cons_of_mem _ (List.mem_cons_of_mem _ List.mem_cons_self))))) e68
      obtain ⟨sv, s1, s2, s3⟩ := hgE.2.1 72 (37, 62) rfl
      have hx3 : (Int32.ofInt (4 : Int)).toInt = 4 := q_i32of (by omega) (by omega)
      have hy3 : (Int32.ofInt sv).toInt = sv := q_i32of (by omega) (by omega)
      have eq : q_up (q_up fc 5 ((((0 + 1) : Nat) : Int) + 0).toNat (Int32.ofInt (4 : Int))) 6 ((((0 + 1) : Nat) : Int) + 0).toNat (Int32.ofInt sv) = q_up (q_up fc 5 (0 + 1) (Int32.ofInt (4 : Int))) 6 (0 + 1) (Int32.ofInt sv) := by rw [Int.add_zero, Int.toNat_natCast]
      have hJ1 := hj_psh hJ (x := Int32.ofInt (4 : Int)) (y := Int32.ofInt sv) (by rw [hx3]; omega) (by rw [hy3]; exact Or.inl ⟨s2, s3⟩)
      refine qy_TP.pre (fc' := q_up (q_up fc 5 (0 + 1) (Int32.ofInt (4 : Int))) 6 (0 + 1) (Int32.ofInt sv)) (ρ' := ρ') (g' := zPT_s_p4.1) (w' := zPT_s_p4.2.1) (lo' := zPT_s_p4.2.2.1) (st' := []) ?_ (fun ws h => by
        have h1 := h.rf (c := 19) (t := 0) (N := 90) (κ := 5) (kn := []) (or := []) (a := qa 70) (x := .inl 4) (z := (((0 + 1) : Nat) : Int) + 0) (y := 4) rfl (by decide +kernel) (q_vs a1) rfl rfl rfl
        have h2 := h1.rf (c := 20) (t := 0) (N := 90) (κ := 6) (kn := []) (or := []) (a := qa 71) (x := qa 72) (z := (((0 + 1) : Nat) : Int) + 0) (y := sv) rfl (by decide +kernel) (q_vs a2) (q_vs s1) rfl rfl
        rw [eq] at h2
        exact h2.chg (i := 2) (e := .inr (.inr (.inl (1, 1600, [(1, .negSucc 127, 127)], [(qa 56, qa 69)])))) rfl (fun q hq => qy_kdrop hq)) (fun h => h) (fun _ _ h => h) (fun _ h => h)
      have b66 := hL.n (i := 66) (d := 0) List.mem_cons_self e66
      have b67 := hL.n (i := 67) (d := 0) (List.mem_cons_of_mem _ List.mem_cons_self) e67
      have b68 := hL.n (i := 68) (d := 1) (List.mem_cons_of_mem _ (List.mem_cons_of_mem _ List.mem_cons_self)) e68
      have hlp : ρ'.length = 73 := hgE.len rfl
      refine qs_lnkB (fa_cons (hgo _) fa_nil) hT hA zPg_p4 (fa_cons (fun ρ2 htk3 hL2 _ _ => ⟨fun rv hrv => ?_, fun q hq => ?_⟩) (fa_cons (fun ρ2 htk3 hL2 _ _ => ⟨fun rv hrv => ?_, fun q hq => ?_⟩) fa_nil))
      · refine ⟨by rw [htk3]; exact ht2, Or.inr (Or.inl ⟨(0 + 1) + 1, T, B + 1, M, htk, by omega, hJ1, Or.inl ⟨rfl, ?_, ?_, ?_⟩⟩)⟩
        · rw [hL2.n (i := 68) (d := 0) (List.mem_cons_of_mem _ List.mem_cons_self) b66]; exact congrArg some (by omega)
        · rw [hL2.n (i := 69) (d := 0) (List.mem_cons_of_mem _ (List.mem_cons_of_mem _ List.mem_cons_self)) b67]; exact congrArg some (by omega)
        · rw [hL2.n (i := 70) (d := 0) (List.mem_cons_of_mem _ (List.mem_cons_of_mem _ (List.mem_cons_of_mem _ List.mem_cons_self))) b68]; exact congrArg some (by omega)
      · have hq : (Sum.inl _ : Option qV ⊕ (Nat × qL × List qV)) = Sum.inr q := hq
        cases hq
      · refine ⟨by rw [htk3]; exact ht2, Or.inr (Or.inl ⟨(0 + 1) + 1, T, B + 1, M, htk, by omega, hJ1, Or.inr ⟨rfl, ?_, ?_, ?_⟩⟩)⟩
        · rw [hL2.n (i := 71) (d := 0) List.mem_cons_self b66]; exact congrArg some (by omega)
        · rw [hL2.n (i := 72) (d := 0) (List.mem_cons_of_mem _ List.mem_cons_self) b67]; exact congrArg some (by omega)
        · rw [hL2.n (i := 73) (d := 0) (List.mem_cons_of_mem _ (List.mem_cons_of_mem _ List.mem_cons_self)) b68]; exact congrArg some (by omega)
      · have hq : (Sum.inl _ : Option qV ⊕ (Nat × qL × List qV)) = Sum.inr q := hq
        cases hq
  | succ N ih =>
    intro fc ρ T B M hN ht h66 h67 h68 hJ
    refine qy_TP.intro fun _ hg => ?_
    have hl : ρ.length = 72 := hg.len rfl
    have hbd := hj_bd hJ
    have hT7 := hJ.2.1
    have hi : (Int32.ofInt (((N + 1) : Nat) : Int)).toInt = (((N + 1) : Nat) : Int) := q_i32of (by omega) (by omega)
    have he : qe ρ (ρ ++ [(fc 5 (N + 1)).toInt, (fc 6 (N + 1)).toInt]) := ⟨_, rfl⟩
    have hy := q_i32 (fc 6 (N + 1))
    have hw : ∀ ws, qy_w ρ ex fc tys as zPT_L4.2.1 ws → qy_w (ρ ++ [(fc 5 (N + 1)).toInt, (fc 6 (N + 1)).toInt]) ex fc tys as ((zPT_L4.2.1.set 19 (.inr (.inr (.inr (0, 90, 5, [(ql 68 1 (.negSucc 0), qa 72)], []))))).set 20 (.inr (.inr (.inr (0, 90, 6, [(ql 68 1 (.negSucc 0), qa 73)], []))))) ws := fun ws h => ((h.mono he).chg (i := 19) (e := .inr (.inr (.inr (0, 90, 5, [], [])))) rfl (fun q hq => qy_knw (i := Int32.ofInt (((N + 1) : Nat) : Int)) (qy_knd (he.at h68) (by rw [hi]; omega)) (by rw [hi]; omega) (by rw [hi]; show _ < ((90 : Nat) : Int); omega) (qy_kns (by rw [hi, Int.toNat_natCast]; exact q_ap0 hl)) hq)).chg (i := 20) (e := .inr (.inr (.inr (0, 90, 6, [], [])))) rfl (fun q hq => qy_knw (i := Int32.ofInt (((N + 1) : Nat) : Int)) (qy_knd (he.at h68) (by rw [hi]; omega)) (by rw [hi]; omega) (by rw [hi]; show _ < ((90 : Nat) : Int); omega) (qy_kns (by rw [hi, Int.toNat_natCast]; exact q_ap1 hl)) hq)
    have e66 := he.at h66
    have e67 := he.at h67
    have e68 := he.at h68
    have he5 := hJ.2.2.2.2.1 (N + 1) (by omega) (by omega)
    have htop := hj_top hJ
    rcases htop with ⟨z, -⟩ | ⟨-, -, hz1, hz2⟩
    · omega
    rcases he5 with ⟨hv, -⟩ | hv | ⟨hv, -⟩
    · have hTT := hz1 (Or.inl hv)
      refine qy_TP.pre (ρ' := ρ ++ [(fc 5 (N + 1)).toInt, (fc 6 (N + 1)).toInt]) (g' := zPT_s_l4b.1) (w' := zPT_s_l4b.2.1) (lo' := zPT_s_l4b.2.2.1) (st' := zPT_s_l4b.2.2.2) ?_ hw
        (fun h => h.to _ [(66, 560, 859), (67, 1, 7), (68, 2, 39), (72, 3, 3), (73, (.negSucc 2147483647), 2147483647)] [] (by decide +kernel) rfl (by decide +kernel) (fa_ex e66 (by omega) (by omega) (fa_ex e67 (by omega) (by omega) (fa_ex e68 (by omega) (by omega) (fa_ex (q_ap0 hl) (by omega) (by omega) (fa_ex (q_ap1 hl) hy.1 hy.2 fa_nil))))) fa_nil) (fun _ _ h => h.mono he) (fun _ h => h.mono he)
      refine qs_lnkB fa_nil hT hA zPg_l4b (fa_cons (fun ρ' htk2 hL hgE _ => ⟨fun rv hrv => ?r0, fun q hq => ?c0⟩) fa_nil)
      case r0 =>
        have hrv : (Sum.inr _ : Option qV ⊕ (Nat × qL × List qV)) = Sum.inl rv := hrv
        cases hrv
      case c0 =>
        have hq : (Sum.inr _ : Option qV ⊕ (Nat × qL × List qV)) = Sum.inr q := hq
        cases hq
        have ht2 : ρ'.take 66 = ρb := by rw [htk2, List.take_append_of_le_length (by omega)]; exact ht
        have a1 := hL.n (i := 70) (d := 0) (List.mem_cons_of_mem _ (List.mem_cons_of_mem _ (List.mem_cons_of_mem _ (List.mem_cons_of_mem _ List.mem_cons_self)))) e68
        have a2 := hL.n (i := 71) (d := 0) (List.mem_cons_of_mem _ (List.mem_cons_of_mem _ (List.mem_cons_of_mem _ (List.mem_cons_of_mem _ (List.mem_cons_of_mem _ List.mem_cons_self))))) e68
        obtain ⟨sv, s1, s2, s3⟩ := hgE.2.1 72 (37, 62) rfl
        have hx3 : (Int32.ofInt (4 : Int)).toInt = 4 := q_i32of (by omega) (by omega)
        have hy3 : (Int32.ofInt sv).toInt = sv := q_i32of (by omega) (by omega)
        have eq : q_up (q_up fc 5 (((((N + 1) + 1) : Nat) : Int) + 0).toNat (Int32.ofInt (4 : Int))) 6 (((((N + 1) + 1) : Nat) : Int) + 0).toNat (Int32.ofInt sv) = q_up (q_up fc 5 ((N + 1) + 1) (Int32.ofInt (4 : Int))) 6 ((N + 1) + 1) (Int32.ofInt sv) := by rw [Int.add_zero, Int.toNat_natCast]
        have hJ1 := hj_psh hJ (x := Int32.ofInt (4 : Int)) (y := Int32.ofInt sv) (by rw [hx3]; omega) (by rw [hy3]; exact Or.inl ⟨s2, s3⟩)
        refine qy_TP.pre (fc' := q_up (q_up fc 5 ((N + 1) + 1) (Int32.ofInt (4 : Int))) 6 ((N + 1) + 1) (Int32.ofInt sv)) (ρ' := ρ') (g' := zPT_s_p4.1) (w' := zPT_s_p4.2.1) (lo' := zPT_s_p4.2.2.1) (st' := []) ?_ (fun ws h => by
          have h1 := h.rf (c := 19) (t := 0) (N := 90) (κ := 5) (kn := []) (or := []) (a := qa 70) (x := .inl 4) (z := ((((N + 1) + 1) : Nat) : Int) + 0) (y := 4) rfl (by decide +kernel) (q_vs a1) rfl rfl rfl
          have h2 := h1.rf (c := 20) (t := 0) (N := 90) (κ := 6) (kn := []) (or := []) (a := qa 71) (x := qa 72) (z := ((((N + 1) + 1) : Nat) : Int) + 0) (y := sv) rfl (by decide +kernel) (q_vs a2) (q_vs s1) rfl rfl
          rw [eq] at h2
          exact h2.chg (i := 2) (e := .inr (.inr (.inl (1, 1600, [(1, .negSucc 127, 127)], [(qa 56, qa 69)])))) rfl (fun q hq => qy_kdrop hq)) (fun h => h) (fun _ _ h => h) (fun _ h => h)
        have b66 := hL.n (i := 66) (d := 0) List.mem_cons_self e66
        have b67 := hL.n (i := 67) (d := 0) (List.mem_cons_of_mem _ List.mem_cons_self) e67
        have b68 := hL.n (i := 68) (d := 1) (List.mem_cons_of_mem _ (List.mem_cons_of_mem _ List.mem_cons_self)) e68
        have hlp : ρ'.length = 73 := hgE.len rfl
        refine qs_lnkB (fa_cons (hgo _) fa_nil) hT hA zPg_p4 (fa_cons (fun ρ2 htk3 hL2 _ _ => ⟨fun rv hrv => ?_, fun q hq => ?_⟩) (fa_cons (fun ρ2 htk3 hL2 _ _ => ⟨fun rv hrv => ?_, fun q hq => ?_⟩) fa_nil))
        · refine ⟨by rw [htk3]; exact ht2, Or.inr (Or.inl ⟨((N + 1) + 1) + 1, T, B + 1, M, htk, by omega, hJ1, Or.inl ⟨rfl, ?_, ?_, ?_⟩⟩)⟩
          · rw [hL2.n (i := 68) (d := 0) (List.mem_cons_of_mem _ List.mem_cons_self) b66]; exact congrArg some (by omega)
          · rw [hL2.n (i := 69) (d := 0) (List.mem_cons_of_mem _ (List.mem_cons_of_mem _ List.mem_cons_self)) b67]; exact congrArg some (by omega)
          · rw [hL2.n (i := 70) (d := 0) (List.mem_cons_of_mem _ (List.mem_cons_of_mem _ (List.mem_cons_of_mem _ List.mem_cons_self))) b68]; exact congrArg some (by omega)
        · have hq : (Sum.inl _ : Option qV ⊕ (Nat × qL × List qV)) = Sum.inr q := hq
          cases hq
        · refine ⟨by rw [htk3]; exact ht2, Or.inr (Or.inl ⟨((N + 1) + 1) + 1, T, B + 1, M, htk, by omega, hJ1, Or.inr ⟨rfl, ?_, ?_, ?_⟩⟩)⟩
          · rw [hL2.n (i := 71) (d := 0) List.mem_cons_self b66]; exact congrArg some (by omega)
          · rw [hL2.n (i := 72) (d := 0) (List.mem_cons_of_mem _ List.mem_cons_self) b67]; exact congrArg some (by omega)
          · rw [hL2.n (i := 73) (d := 0) (List.mem_cons_of_mem _ (List.mem_cons_of_mem _ List.mem_cons_self)) b68]; exact congrArg some (by omega)
        · have hq : (Sum.inl _ : Option qV ⊕ (Nat × qL × List qV)) = Sum.inr q := hq
          cases hq
    · have hTT := hz1 (Or.inr hv)
      refine qy_TP.pre (ρ' := ρ ++ [(fc 5 (N + 1)).toInt, (fc 6 (N + 1)).toInt]) (g' := zPT_s_l4d.1) (w' := zPT_s_l4d.2.1) (lo' := zPT_s_l4d.2.2.1) (st' := zPT_s_l4d.2.2.2) ?_ hw
        (fun h => h.to _ [(66, 560, 859), (67, 1, 7), (68, 2, 39), (72, 7, 7), (73, (.negSucc 2147483647), 2147483647)] [] (by decide +kernel) rfl (by decide +kernel) (fa_ex e66 (by omega) (by omega) (fa_ex e67 (by omega) (by omega) (fa_ex e68 (by omega) (by omega) (fa_ex (q_ap0 hl) (by omega) (by omega) (fa_ex (q_ap1 hl) hy.1 hy.2 fa_nil))))) fa_nil) (fun _ _ h => h.mono he) (fun _ h => h.mono he)
      refine qs_lnkB fa_nil hT hA zPg_l4d (fa_cons (fun ρ' htk2 hL hgE _ => ⟨fun rv hrv => ?r0, fun q hq => ?c0⟩) fa_nil)
      case r0 =>
        have hrv : (Sum.inr _ : Option qV ⊕ (Nat × qL × List qV)) = Sum.inl rv := hrv
        cases hrv
      case c0 =>
        have hq : (Sum.inr _ : Option qV ⊕ (Nat × qL × List qV)) = Sum.inr q := hq
        cases hq
        have ht2 : ρ'.take 66 = ρb := by rw [htk2, List.take_append_of_le_length (by omega)]; exact ht
        have a1 := hL.n (i := 70) (d := 0) (List.mem_cons_of_mem _ (List.mem_cons_of_mem _ (List.mem_cons_of_mem _ (List.mem_cons_of_mem _ List.mem_cons_self)))) e68
        have a2 := hL.n (i := 71) (d := 0) (List.mem_cons_of_mem _ (List.mem_cons_of_mem _ (List.mem_cons_of_mem _ (List.mem_cons_of_mem _ (List.mem_cons_of_mem _ List.mem_cons_self))))) e68
        obtain ⟨sv, s1, s2, s3⟩ := hgE.2.1 72 (37, 62) rfl
        have hx3 : (Int32.ofInt (4 : Int)).toInt = 4 := q_i32of (by omega) (by omega)
        have hy3 : (Int32.ofInt sv).toInt = sv := q_i32of (by omega) (by omega)
        have eq : q_up (q_up fc 5 (((((N + 1) + 1) : Nat) : Int) + 0).toNat (Int32.ofInt (4 : Int))) 6 (((((N + 1) + 1) : Nat) : Int) + 0).toNat (Int32.ofInt sv) = q_up (q_up fc 5 ((N + 1) + 1) (Int32.ofInt (4 : Int))) 6 ((N + 1) + 1) (Int32.ofInt sv) := by rw [Int.add_zero, Int.toNat_natCast]
        have hJ1 := hj_psh hJ (x := Int32.ofInt (4 : Int)) (y := Int32.ofInt sv) (by rw [hx3]; omega) (by rw [hy3]; exact Or.inl ⟨s2, s3⟩)
        refine qy_TP.pre (fc' := q_up (q_up fc 5 ((N + 1) + 1) (Int32.ofInt (4 : Int))) 6 ((N + 1) + 1) (Int32.ofInt sv)) (ρ' := ρ') (g' := zPT_s_p4.1) (w' := zPT_s_p4.2.1) (lo' := zPT_s_p4.2.2.1) (st' := []) ?_ (fun ws h => by
          have h1 := h.rf (c := 19) (t := 0) (N := 90) (κ := 5) (kn := []) (or := []) (a := qa 70) (x := .inl 4) (z := ((((N + 1) + 1) : Nat) : Int) + 0) (y := 4) rfl (by decide +kernel) (q_vs a1) rfl rfl rfl
          have h2 := h1.rf (c := 20) (t := 0) (N := 90) (κ := 6) (kn := []) (or := []) (a := qa 71) (x := qa 72) (z := ((((N + 1) + 1) : Nat) : Int) + 0) (y := sv) rfl (by decide +kernel) (q_vs a2) (q_vs s1) rfl rfl
          rw [eq] at h2
          exact h2.chg (i := 2) (e := .inr (.inr (.inl (1, 1600, [(1, .negSucc 127, 127)], [(qa 56, qa 69)])))) rfl (fun q hq => qy_kdrop hq)) (fun h => h) (fun _ _ h => h) (fun _ h => h)
        have b66 := hL.n (i := 66) (d := 0) List.mem_cons_self e66
        have b67 := hL.n (i := 67) (d := 0) (List.mem_cons_of_mem _ List.mem_cons_self) e67
        have b68 := hL.n (i := 68) (d := 1) (List.mem_cons_of_mem _ (List.mem_cons_of_mem _ List.mem_cons_self)) e68
        have hlp : ρ'.length = 73 := hgE.len rfl
        refine qs_lnkB (fa_cons (hgo _) fa_nil) hT hA zPg_p4 (fa_cons (fun ρ2 htk3 hL2 _ _ => ⟨fun rv hrv => ?_, fun q hq => ?_⟩) (fa_cons (fun ρ2 htk3 hL2 _ _ => ⟨fun rv hrv => ?_, fun q hq => ?_⟩) fa_nil))
        · refine ⟨by rw [htk3]; exact ht2, Or.inr (Or.inl ⟨((N + 1) + 1) + 1, T, B + 1, M, htk, by omega, hJ1, Or.inl ⟨rfl, ?_, ?_, ?_⟩⟩)⟩
          · rw [hL2.n (i := 68) (d := 0) (List.mem_cons_of_mem _ List.mem_cons_self) b66]; exact congrArg some (by omega)
          · rw [hL2.n (i := 69) (d := 0) (List.mem_cons_of_mem _ (List.mem_cons_of_mem _ List.mem_cons_self)) b67]; exact congrArg some (by omega)
          · rw [hL2.n (i := 70) (d := 0) (List.mem_cons_of_mem _ (List.mem_cons_of_mem _ (List.mem_cons_of_mem _ List.mem_cons_self))) b68]; exact congrArg some (by omega)
        · have hq : (Sum.inl _ : Option qV ⊕ (Nat × qL × List qV)) = Sum.inr q := hq
          cases hq
        · refine ⟨by rw [htk3]; exact ht2, Or.inr (Or.inl ⟨((N + 1) + 1) + 1, T, B + 1, M, htk, by omega, hJ1, Or.inr ⟨rfl, ?_, ?_, ?_⟩⟩)⟩
          · rw [hL2.n (i := 71) (d := 0) List.mem_cons_self b66]; exact congrArg some (by omega)
          · rw [hL2.n (i := 72) (d := 0) (List.mem_cons_of_mem _ List.mem_cons_self) b67]; exact congrArg some (by omega)
          · rw [hL2.n (i := 73) (d := 0) (List.mem_cons_of_mem _ (List.mem_cons_of_mem _ List.mem_cons_self)) b68]; exact congrArg some (by omega)
        · have hq : (Sum.inl _ : Option qV ⊕ (Nat × qL × List qV)) = Sum.inr q := hq
          cases hq
    · by_cases hv2 : (fc 5 (N + 1)).toInt ≤ 2
      · have hv3 : 1 ≤ (fc 5 (N + 1)).toInt := by omega
        refine qy_TP.pre (ρ' := ρ ++ [(fc 5 (N + 1)).toInt, (fc 6 (N + 1)).toInt]) (g' := zPT_s_l4a.1) (w' := zPT_s_l4a.2.1) (lo' := zPT_s_l4a.2.2.1) (st' := zPT_s_l4a.2.2.2) ?_ hw
          (fun h => h.to _ [(66, 560, 859), (67, 0, 7), (68, 2, 39), (72, 1, 2), (73, (.negSucc 2147483647), 2147483647)] [] (by decide +kernel) rfl (by decide +kernel) (fa_ex e66 (by omega) (by omega) (fa_ex e67 (by omega) (by omega) (fa_ex e68 (by omega) (by omega) (fa_ex (q_ap0 hl) (by omega) (by omega) (fa_ex (q_ap1 hl) hy.1 hy.2 fa_nil))))) fa_nil) (fun _ _ h => h.mono he) (fun _ h => h.mono he)
        refine qs_lnkB fa_nil hT hA zPg_l4a (fa_cons (fun ρ' htk2 hL hgE _ => ⟨fun rv hrv => ?r0, fun q hq => ?c0⟩) fa_nil)
        case r0 =>
          have hrv : (Sum.inr _ : Option qV ⊕ (Nat × qL × List qV)) = Sum.inl rv := hrv
          cases hrv
        case c0 =>
          have hq : (Sum.inr _ : Option qV ⊕ (Nat × qL × List qV)) = Sum.inr q := hq
          cases hq
          have ht2 : ρ'.take 66 = ρb := by rw [htk2, List.take_append_of_le_length (by omega)]; exact ht
          have a1 := hL.n (i := 70) (d := 0) (List.mem_cons_of_mem _ (List.mem_cons_of_mem _ (List.mem_cons_of_mem _ (List.mem_cons_of_mem _ List.mem_cons_self)))) e68
          have a2 := hL.n (i := 71) (d := 0) (List.mem_cons_of_mem _ (List.mem_cons_of_mem _ (List.mem_cons_of_mem _ (List.mem_cons_of_mem _ (List.mem_cons_of_mem _ List.mem_cons_self))))) e68
          obtain ⟨sv, s1, s2, s3⟩ := hgE.2.1 72 (37, 62) rfl
          have hx3 : (Int32.ofInt (4 : Int)).toInt = 4 := q_i32of (by omega) (by omega)
          have hy3 : (Int32.ofInt sv).toInt = sv := q_i32of (by omega) (by omega)
          have eq : q_up (q_up fc 5 (((((N + 1) + 1) : Nat) : Int) + 0).toNat (Int32.ofInt (4 : Int))) 6 (((((N + 1) + 1) : Nat) : Int) + 0).toNat (Int32.ofInt sv) = q_up (q_up fc 5 ((N + 1) + 1) (Int32.ofInt (4 : Int))) 6 ((N + 1) + 1) (Int32.ofInt sv) := by rw [Int.add_zero, Int.toNat_natCast]
          have hJ1 := hj_psh hJ (x := Int32.ofInt (4 : Int)) (y := Int32.ofInt sv) (by rw [hx3]; omega) (by rw [hy3]; exact Or.inl ⟨s2, s3⟩)
          refine qy_TP.pre (fc' := q_up (q_up fc 5 ((N + 1) + 1) (Int32.ofInt (4 : Int))) 6 ((N + 1) + 1) (Int32.ofInt sv)) (ρ' := ρ') (g' := zPT_s_p4.1) (w' := zPT_s_p4.2.1) (lo' := zPT_s_p4.2.2.1) (st' := []) ?_ (fun ws h => by
            have h1 := h.rf (c := 19) (t := 0) (N := 90) (κ := 5) (kn := []) (or := []) (a := qa 70) (x := .inl 4) (z := ((((N + 1) + 1) : Nat) : Int) + 0) (y := 4) rfl (by decide +kernel) (q_vs a1) rfl rfl rfl
            have h2 := h1.rf (c := 20) (t := 0) (N := 90) (κ := 6) (kn := []) (or := []) (a := qa 71) (x := qa 72) (z := ((((N + 1) + 1) : Nat) : Int) + 0) (y := sv) rfl (by decide +kernel) (q_vs a2) (q_vs s1) rfl rfl
            rw [eq] at h2
            exact h2.chg (i := 2) (e := .inr (.inr (.inl (1, 1600, [(1, .negSucc 127, 127)], [(qa 56, qa 69)])))) rfl (fun q hq => qy_kdrop hq)) (fun h => h) (fun _ _ h => h) (fun _ h => h)
          have b66 := hL.n (i := 66) (d := 0) List.mem_cons_self e66
          have b67 := hL.n (i := 67) (d := 0) (List.mem_cons_of_mem _ List.mem_cons_self) e67
          have b68 := hL.n (i := 68) (d := 1) (List.mem_cons_of_mem _ (List.mem_cons_of_mem _ List.mem_cons_self)) e68
          have hlp : ρ'.length = 73 := hgE.len rfl
          refine qs_lnkB (fa_cons (hgo _) fa_nil) hT hA zPg_p4 (fa_cons (fun ρ2 htk3 hL2 _ _ => ⟨fun rv hrv => ?_, fun q hq => ?_⟩) (fa_cons (fun ρ2 htk3 hL2 _ _ => ⟨fun rv hrv => ?_, fun q hq => ?_⟩) fa_nil))
          · refine ⟨by rw [htk3]; exact ht2, Or.inr (Or.inl ⟨((N + 1) + 1) + 1, T, B + 1, M, htk, by omega, hJ1, Or.inl ⟨rfl, ?_, ?_, ?_⟩⟩)⟩
            · rw [hL2.n (i := 68) (d := 0) (List.mem_cons_of_mem _ List.mem_cons_self) b66]; exact congrArg some (by omega)
            · rw [hL2.n (i := 69) (d := 0) (List.mem_cons_of_mem _ (List.mem_cons_of_mem _ List.mem_cons_self)) b67]; exact congrArg some (by omega)
            · rw [hL2.n (i := 70) (d := 0) (List.mem_cons_of_mem _ (List.mem_cons_of_mem _ (List.mem_cons_of_mem _ List.mem_cons_self))) b68]; exact congrArg some (by omega)
          · have hq : (Sum.inl _ : Option qV ⊕ (Nat × qL × List qV)) = Sum.inr q := hq
            cases hq
          · refine ⟨by rw [htk3]; exact ht2, Or.inr (Or.inl ⟨((N + 1) + 1) + 1, T, B + 1, M, htk, by omega, hJ1, Or.inr ⟨rfl, ?_, ?_, ?_⟩⟩)⟩
            · rw [hL2.n (i := 71) (d := 0) List.mem_cons_self b66]; exact congrArg some (by omega)
            · rw [hL2.n (i := 72) (d := 0) (List.mem_cons_of_mem _ List.mem_cons_self) b67]; exact congrArg some (by omega)
            · rw [hL2.n (i := 73) (d := 0) (List.mem_cons_of_mem _ (List.mem_cons_of_mem _ List.mem_cons_self)) b68]; exact congrArg some (by omega)
          · have hq : (Sum.inl _ : Option qV ⊕ (Nat × qL × List qV)) = Sum.inr q := hq
            cases hq
      · have hv3 : 4 ≤ (fc 5 (N + 1)).toInt := by omega
        refine qy_TP.pre (ρ' := ρ ++ [(fc 5 (N + 1)).toInt, (fc 6 (N + 1)).toInt]) (g' := zPT_s_l4c.1) (w' := zPT_s_l4c.2.1) (lo' := zPT_s_l4c.2.2.1) (st' := zPT_s_l4c.2.2.2) ?_ hw
          (fun h => h.to _ [(66, 560, 859), (67, 0, 7), (68, 2, 39), (72, 4, 6), (73, (.negSucc 2147483647), 2147483647)] [] (by decide +kernel) rfl (by decide +kernel) (fa_ex e66 (by omega) (by omega) (fa_ex e67 (by omega) (by omega) (fa_ex e68 (by omega) (by omega) (fa_ex (q_ap0 hl) (by omega) (by omega) (fa_ex (q_ap1 hl) hy.1 hy.2 fa_nil))))) fa_nil) (fun _ _ h => h.mono he) (fun _ h => h.mono he)
        refine qs_lnkB fa_nil hT hA zPg_l4c (fa_cons (fun ρ' htk2 hL hgE _ => ⟨fun rv hrv => ?r0, fun q hq => ?c0⟩) fa_nil)
        case r0 =>
          have hrv : (Sum.inr _ : Option qV ⊕ (Nat × qL × List qV)) = Sum.inl rv := hrv
          cases hrv
        case c0 =>
          have hq : (Sum.inr _ : Option qV ⊕ (Nat × qL × List qV)) = Sum.inr q := hq
          cases hq
          have ht2 : ρ'.take 66 = ρb := by rw [htk2, List.take_append_of_le_length (by omega)]; exact ht
          have a1 := hL.n (i := 70) (d := 0) (List.mem_cons_of_mem _ (List.mem_cons_of_mem _ (List.mem_cons_of_mem _ (List.mem_cons_of_mem _ List.mem_cons_self)))) e66
          have a2 := hL.n (i := 71) (d := 0) (List.mem_cons_of_mem _ (List.mem_cons_of_mem _ (List.mem_cons_of_mem _ (List.mem_cons_of_mem _ (List.mem_cons_of_mem _ List.mem_cons_self))))) (q_ap1 hl)
          obtain ⟨T1, B1, hT1, hT2, hJ1⟩ := hj_pop hJ (by omega) (by omega)
          have eq : q_up fc 0 (((560 + M : Nat) : Int) + 0).toNat (Int32.ofInt ((fc 6 (N + 1)).toInt + 0)) = q_up fc 0 (560 + M) (fc 6 (N + 1)) := by rw [Int.add_zero, Int.add_zero, Int.toNat_natCast, Int32.ofInt_toInt]
          refine qy_TP.pre (fc' := q_up fc 0 (560 + M) (fc 6 (N + 1))) (ρ' := ρ') (g' := zPT_pop4.1) (w' := zPT_L4.2.1) (lo' := zPT_L4.2.2.1) (st' := []) ?_ (fun ws h => by
            have := h.rf (c := 17) (t := 0) (N := 1120) (κ := 0) (kn := []) (or := []) (a := qa 70) (x := qa 71) (z := ((560 + M : Nat) : Int) + 0) (y := (fc 6 (N + 1)).toInt + 0) rfl (by decide +kernel) (q_vs a1) (q_vs a2) rfl rfl
            rw [eq] at this
            exact this) (fun h => h) (fun _ _ h => h) (fun _ h => h)
          refine ih _ ρ' T1 B1 (M + 1) (by omega) ht2 ?_ ?_ ?_ hJ1
          · rw [hL.n (i := 66) (d := 1) List.mem_cons_self e66]; exact congrArg some (by omega)
          · rw [hL.n (i := 67) (d := 0) (List.mem_cons_of_mem _ List.mem_cons_self) e67]; exact congrArg some (by omega)
          · rw [hL.n (i := 68) (d := -1) (List.mem_cons_of_mem _ (List.mem_cons_of_mem _ List.mem_cons_self)) e68]; exact congrArg some (by omega)
theorem zPl5 (hT : zk_t) (hA : zk_a) (hgo : ∀ fc, qy_V ex (qΓ1 fc) D as tys zPk2) {fc0 : Nat → Nat → Int32} {ρb : List Int} {Nb U : Nat} (htk : ∃ tk, ρb[58]? = some tk ∧ 1 ≤ tk) : ∀ (N : Nat) (fc : Nat → Nat → Int32) (ρ : List Int) (T B M : Nat), N + 1 ≤ Nb → ρ.take 66 = ρb → ρ[66]? = some ((560 + M : Nat) : Int) → ρ[67]? = some (T : Int) → ρ[68]? = some ((N + 1 : Nat) : Int) → hj_J fc fc0 560 (N + 1) T B M U false → qy_TP ex D as tys 10 187 fc ρ zPT_pop5.1 zPT_L5.2.1 zPT_L5.2.2.1 [] 23 (zPPB fc0 ρb Nb U) := by
  intro N
  induction N with
  | zero =>
    intro fc ρ T B M hN ht h66 h67 h68 hJ
    refine qy_TP.intro fun _ hg => ?_
    have hl : ρ.length = 72 := hg.len rfl
    have hbd := hj_bd hJ
    have hT7 := hJ.2.1
    have hi : (Int32.ofInt ((0 : Nat) : Int)).toInt = ((0 : Nat) : Int) := q_i32of (by omega) (by omega)
    have he : qe ρ (ρ ++ [(fc 5 0).toInt, (fc 6 0).toInt]) := ⟨_, rfl⟩
    have hy := q_i32 (fc 6 0)
    have hw : ∀ ws, qy_w ρ ex fc tys as zPT_L5.2.1 ws → qy_w (ρ ++ [(fc 5 0).toInt, (fc 6 0).toInt]) ex fc tys as ((zPT_L5.2.1.set 19 (.inr (.inr (.inr (0, 90, 5, [(ql 68 1 (.negSucc 0), qa 72)], []))))).set 20 (.inr (.inr (.inr (0, 90, 6, [(ql 68 1 (.negSucc 0), qa 73)], []))))) ws := fun ws h => ((h.mono he).chg (i := 19) (e := .inr (.inr (.inr (0, 90, 5, [], [])))) rfl (fun q hq => qy_knw (i := Int32.ofInt ((0 : Nat) : Int)) (qy_knd (he.at h68) (by rw [hi]; omega)) (by rw [hi]; omega) (by rw [hi]; show _ < ((90 : Nat) : Int); omega) (qy_kns (by rw [hi, Int.toNat_natCast]; exact q_ap0 hl)) hq)).chg (i := 20) (e := .inr (.inr (.inr (0, 90, 6, [], [])))) rfl (fun q hq => qy_knw (i := Int32.ofInt ((0 : Nat) : Int)) (qy_knd (he.at h68) (by rw [hi]; omega)) (by rw [hi]; omega) (by rw [hi]; show _ < ((90 : Nat) : Int); omega) (qy_kns (by rw [hi, Int.toNat_natCast]; exact q_ap1 hl)) hq)
    have e66 := he.at h66
    have e67 := he.at h67
    have e68 := he.at h68
    have hv : (fc 5 0).toInt = 8 := hJ.2.2.2.1
    refine qy_TP.pre (ρ' := ρ ++ [(fc 5 0).toInt, (fc 6 0).toInt]) (g' := zPT_s_l5e.1) (w' := zPT_s_l5e.2.1) (lo' := zPT_s_l5e.2.2.1) (st' := zPT_s_l5e.2.2.2) ?_ hw
      (fun h => h.to _ [(66, 560, 859), (67, 0, 7), (68, 1, 39), (72, 8, 8), (73, (.negSucc 2147483647), 2147483647)] [] (by decide +kernel) rfl (by decide +kernel) (fa_ex e66 (by omega) (by omega) (fa_ex e67 (by omega) (by omega) (fa_ex e68 (by omega) (by omega) (fa_ex (q_ap0 hl) (by omega) (by omega) (fa_ex (q_ap1 hl) hy.1 hy.2 fa_nil))))) fa_nil) (fun _ _ h => h.mono he) (fun _ h => h.mono he)
    refine qs_lnkB fa_nil hT hA zPg_l5e (fa_cons (fun ρ' htk2 hL hgE _ => ⟨fun rv hrv => ?r0, fun q hq => ?c0⟩) fa_nil)
    case r0 =>
      have hrv : (Sum.inr _ : Option qV ⊕ (Nat × qL × List qV)) = Sum.inl rv := hrv
      cases hrv
    case c0 =>
      have hq : (Sum.inr _ : Option qV ⊕ (Nat × qL × List qV)) = Sum.inr q := hq
      cases hq
      have ht2 : ρ'.take 66 = ρb := by rw [htk2, List.take_append_of_le_length (by omega)]; exact ht
      have a1 := hL.n (i := 70) (d := 0) (List.mem_cons_of_mem _ (List.mem_cons_of_mem _ (List.mem_cons_of_mem _ (List.mem_cons_of_mem _ List.mem_cons_self)))) e68
      have a2 := hL.n (i := 71) (d := 0) (List.mem_cons_of_mem _ (List.mem_cons_of_mem _ (List.mem_cons_of_mem _ (List.mem_cons_of_mem _ (List.mem_cons_of_mem _ List.mem_cons_self))))) e68
      obtain ⟨sv, s1, s2, s3⟩ := hgE.2.1 72 (37, 62) rfl
      have hx3 : (Int32.ofInt (5 : Int)).toInt = 5 := q_i32of (by omega) (by omega)
      have hy3 : (Int32.ofInt sv).toInt = sv := q_i32of (by omega) (by omega)
      have eq : q_up (q_up fc 5 ((((0 + 1) : Nat) : Int) + 0).toNat (Int32.ofInt (5 : Int))) 6 ((((0 + 1) : Nat) : Int) + 0).toNat (Int32.ofInt sv) = q_up (q_up fc 5 (0 + 1) (Int32.ofInt (5 : Int))) 6 (0 + 1) (Int32.ofInt sv) := by rw [Int.add_zero, Int.toNat_natCast]
      have hJ1 := hj_psh hJ (x := Int32.ofInt (5 : Int)) (y := Int32.ofInt sv) (by rw [hx3]; omega) (by rw [hy3]; exact Or.inl ⟨s2, s3⟩)
      refine qy_TP.pre (fc' := q_up (q_up fc 5 (0 + 1) (Int32.ofInt (5 : Int))) 6 (0 + 1) (Int32.ofInt sv)) (ρ' := ρ') (g' := zPT_s_p5.1) (w' := zPT_s_p5.2.1) (lo' := zPT_s_p5.2.2.1) (st' := []) ?_ (fun ws h => by
        have h1 := h.rf (c := 19) (t := 0) (N := 90) (κ := 5) (kn := []) (or := []) (a := qa 70) (x := .inl 5) (z := (((0 + 1) : Nat) : Int) + 0) (y := 5) rfl (by decide +kernel) (q_vs a1) rfl rfl rfl
        have h2 := h1.rf (c := 20) (t := 0) (N := 90) (κ := 6) (kn := []) (or := []) (a := qa 71) (x := qa 72) (z := (((0 + 1) : Nat) : Int) + 0) (y := sv) rfl (by decide +kernel) (q_vs a2) (q_vs s1) rfl rfl
        rw [eq] at h2
        exact h2.chg (i := 2) (e := .inr (.inr (.inl (1, 1600, [(1, .negSucc 127, 127)], [(qa 56, qa 69)])))) rfl (fun q hq => qy_kdrop hq)) (fun h => h) (fun _ _ h => h) (fun _ h => h)
      have b66 := hL.n (i := 66) (d := 0) List.mem_cons_self e66
      have b67 := hL.n (i := 67) (d := 0) (List.mem_cons_of_mem _ List.mem_cons_self) e67
      have b68 := hL.n (i := 68) (d := 1) (List.mem_cons_of_mem _ (List.mem_cons_of_mem _ List.mem_cons_self)) e68
      have hlp : ρ'.length = 73 := hgE.len rfl
      refine qs_lnkB (fa_cons (hgo _) fa_nil) hT hA zPg_p5 (fa_cons (fun ρ2 htk3 hL2 _ _ => ⟨fun rv hrv => ?_, fun q hq => ?_⟩) (fa_cons (fun ρ2 htk3 hL2 _ _ => ⟨fun rv hrv => ?_, fun q hq => ?_⟩) fa_nil))
      · refine ⟨by rw [htk3]; exact ht2, Or.inr (Or.inl ⟨(0 + 1) + 1, T, B + 1, M, htk, by omega, hJ1, Or.inl ⟨rfl, ?_, ?_, ?_⟩⟩)⟩
        · rw [hL2.n (i := 68) (d := 0) (List.mem_cons_of_mem _ List.mem_cons_self) b66]; exact congrArg some (by omega)
        · rw [hL2.n (i := 69) (d := 0) (List.mem_cons_of_mem _ (List.mem_cons_of_mem _ List.mem_cons_self)) b67]; exact congrArg some (by omega)
        · rw [hL2.n (i := 70) (d := 0) (List.mem_cons_of_mem _ (List.mem_cons_of_mem _ (List.mem_cons_of_mem _ List.mem_cons_self))) b68]; exact congrArg some (by omega)
      · have hq : (Sum.inl _ : Option qV ⊕ (Nat × qL × List qV)) = Sum.inr q := hq
        cases hq
      · refine ⟨by rw [htk3]; exact ht2, Or.inr (Or.inl ⟨(0 + 1) + 1, T, B + 1, M, htk, by omega, hJ1, Or.inr ⟨rfl, ?_, ?_, ?_⟩⟩)⟩
        · rw [hL2.n (i := 71) (d := 0) List.mem_cons_self b66]; exact congrArg some (by omega)
        · rw [hL2.n (i := 72) (d := 0) (List.mem_cons_of_mem _ List.mem_cons_self) b67]; exact congrArg some (by omega)
        · rw [hL2.n (i := 73) (d := 0) (List.mem_cons_of_mem _ (List.mem_cons_of_mem _ List.mem_cons_self)) b68]; exact congrArg some (by omega)
      · have hq : (Sum.inl _ : Option qV ⊕ (Nat × qL × List qV)) = Sum.inr q := hq
        cases hq
  | succ N ih =>
    intro fc ρ T B M hN ht h66 h67 h68 hJ
    refine qy_TP.intro fun _ hg => ?_
    have hl : ρ.length = 72 := hg.len rfl
    have hbd := hj_bd hJ
    have hT7 := hJ.2.1
    have hi : (Int32.ofInt (((N + 1) : Nat) : Int)).toInt = (((N + 1) : Nat) : Int) := q_i32of (by omega) (by omega)
    have he : qe ρ (ρ ++ [(fc 5 (N + 1)).toInt, (fc 6 (N + 1)).toInt]) := ⟨_, rfl⟩
    have hy := q_i32 (fc 6 (N + 1))
    have hw : ∀ ws, qy_w ρ ex fc tys as zPT_L5.2.1 ws → qy_w (ρ ++ [(fc 5 (N + 1)).toInt, (fc 6 (N + 1)).toInt]) ex fc tys as ((zPT_L5.2.1.set 19 (.inr (.inr (.inr (0, 90, 5, [(ql 68 1 (.negSucc 0), qa 72)], []))))).set 20 (.inr (.inr (.inr (0, 90, 6, [(ql 68 1 (.negSucc 0), qa 73)], []))))) ws := fun ws h => ((h.mono he).chg (i := 19) (e := .inr (.inr (.inr (0, 90, 5, [], [])))) rfl (fun q hq => qy_knw (i := Int32.ofInt (((N + 1) : Nat) : Int)) (qy_knd (he.at h68) (by rw [hi]; omega)) (by rw [hi]; omega) (by rw [hi]; show _ < ((90 : Nat) : Int); omega) (qy_kns (by rw [hi, Int.toNat_natCast]; exact q_ap0 hl)) hq)).chg (i := 20) (e := .inr (.inr (.inr (0, 90, 6, [], [])))) rfl (fun q hq => qy_knw (i := Int32.ofInt (((N + 1) : Nat) : Int)) (qy_knd (he.at h68) (by rw [hi]; omega)) (by rw [hi]; omega) (by rw [hi]; show _ < ((90 : Nat) : Int); omega) (qy_kns (by rw [hi, Int.toNat_natCast]; exact q_ap1 hl)) hq)
    have e66 := he.at h66
    have e67 := he.at h67
    have e68 := he.at h68
    have he5 := hJ.2.2.2.2.1 (N + 1) (by omega) (by omega)
    have htop := hj_top hJ
    rcases htop with ⟨z, -⟩ | ⟨-, -, hz1, hz2⟩
    · omega
    rcases he5 with ⟨hv, -⟩ | hv | ⟨hv, -⟩
    · have hTT := hz1 (Or.inl hv)
      refine qy_TP.pre (ρ' := ρ ++ [(fc 5 (N + 1)).toInt, (fc 6 (N + 1)).toInt]) (g' := zPT_s_l5b.1) (w' := zPT_s_l5b.2.1) (lo' := zPT_s_l5b.2.2.1) (st' := zPT_s_l5b.2.2.2) ?_ hw
        (fun h => h.to _ [(66, 560, 859), (67, 1, 7), (68, 2, 39), (72, 3, 3), (73, (.negSucc 2147483647), 2147483647)] [] (by decide +kernel) rfl (by decide +kernel) (fa_ex e66 (by omega) (by omega) (fa_ex e67 (by omega) (by omega) (fa_ex e68 (by omega) (by omega) (fa_ex (q_ap0 hl) (by omega) (by omega) (fa_ex (q_ap1 hl) hy.1 hy.2 fa_nil))))) fa_nil) (fun _ _ h => h.mono he) (fun _ h => h.mono he)
      refine qs_lnkB fa_nil hT hA zPg_l5b (fa_cons (fun ρ' htk2 hL hgE _ => ⟨fun rv hrv => ?r0, fun q hq => ?c0⟩) fa_nil)
      case r0 =>
        have hrv : (Sum.inr _ : Option qV ⊕ (Nat × qL × List qV)) = Sum.inl rv := hrv
        cases hrv
      case c0 =>
        have hq : (Sum.inr _ : Option qV ⊕ (Nat × qL × List qV)) = Sum.inr q := hq
        cases hq
        have ht2 : ρ'.take 66 = ρb := by rw [htk2, List.take_append_of_le_length (by omega)]; exact ht
        have a1 := hL.n (i := 70) (d := 0) (List.mem_cons_of_mem _ (List.mem_cons_of_mem _ (List.mem_cons_of_mem _ (List.mem_cons_of_mem _ List.mem_cons_self)))) e68
        have a2 := hL.n (i := 71) (d := 0) (List.mem_cons_of_mem _ (List.mem_cons_of_mem _ (List.mem_cons_of_mem _ (List.mem_cons_of_mem _ (List.mem_cons_of_mem _ List.mem_cons_self))))) e68
        obtain ⟨sv, s1, s2, s3⟩ := hgE.2.1 72 (37, 62) rfl
        have hx3 : (Int32.ofInt (5 : Int)).toInt = 5 := q_i32of (by omega) (by omega)
        have hy3 : (Int32.ofInt sv).toInt = sv := q_i32of (by omega) (by omega)
        have eq : q_up (q_up fc 5 (((((N + 1) + 1) : Nat) : Int) + 0).toNat (Int32.ofInt (5 : Int))) 6 (((((N + 1) + 1) : Nat) : Int) + 0).toNat (Int32.ofInt sv) = q_up (q_up fc 5 ((N + 1) + 1) (Int32.ofInt (5 : Int))) 6 ((N + 1) + 1) (Int32.ofInt sv) := by rw [Int.add_zero, Int.toNat_natCast]
        have hJ1 := hj_psh hJ (x := Int32.ofInt (5 : Int)) (y := Int32.ofInt sv) (by rw [hx3]; omega) (by rw [hy3]; exact Or.inl ⟨s2, s3⟩)
        refine qy_TP.pre (fc' := q_up (q_up fc 5 ((N + 1) + 1) (Int32.ofInt (5 : Int))) 6 ((N + 1) + 1) (Int32.ofInt sv)) (ρ' := ρ') (g' := zPT_s_p5.1) (w' := zPT_s_p5.2.1) (lo' := zPT_s_p5.2.2.1) (st' := []) ?_ (fun ws h => by
          have h1 := h.rf (c := 19) (t := 0) (N := 90) (κ := 5) (kn := []) (or := []) (a := qa 70) (x := .inl 5) (z := ((((N + 1) + 1) : Nat) : Int) + 0) (y := 5) rfl (by decide +kernel) (q_vs a1) rfl rfl rfl
          have h2 := h1.rf (c := 20) (t := 0) (N := 90) (κ := 6) (kn := []) (or := []) (a := qa 71) (x := qa 72) (z := ((((N + 1) + 1) : Nat) : Int) + 0) (y := sv) rfl (by decide +kernel) (q_vs a2) (q_vs s1) rfl rfl
          rw [eq] at h2
          exact h2.chg (i := 2) (e := .inr (.inr (.inl (1, 1600, [(1, .negSucc 127, 127)], [(qa 56, qa 69)])))) rfl (fun q hq => qy_kdrop hq)) (fun h => h) (fun _ _ h => h) (fun _ h => h)
        have b66 := hL.n (i := 66) (d := 0) List.mem_cons_self e66
        have b67 := hL.n (i := 67) (d := 0) (List.mem_cons_of_mem _ List.mem_cons_self) e67
        have b68 := hL.n (i := 68) (d := 1) (List.mem_cons_of_mem _ (List.mem_cons_of_mem _ List.mem_cons_self)) e68
        have hlp : ρ'.length = 73 := hgE.len rfl
        refine qs_lnkB (fa_cons (hgo _) fa_nil) hT hA zPg_p5 (fa_cons (fun ρ2 htk3 hL2 _ _ => ⟨fun rv hrv => ?_, fun q hq => ?_⟩) (fa_cons (fun ρ2 htk3 hL2 _ _ => ⟨fun rv hrv => ?_, fun q hq => ?_⟩) fa_nil))
        · refine ⟨by rw [htk3]; exact ht2, Or.inr (Or.inl ⟨((N + 1) + 1) + 1, T, B + 1, M, htk, by omega, hJ1, Or.inl ⟨rfl, ?_, ?_, ?_⟩⟩)⟩
          · rw [hL2.n (i := 68) (d := 0) (List.mem_cons_of_mem _ List.mem_cons_self) b66]; exact congrArg some (by omega)
          · rw [hL2.n (i := 69) (d := 0) (List.mem_cons_of_mem _ (List.mem_cons_of_mem _ List.mem_cons_self)) b67]; exact congrArg some (by omega)
          · rw [hL2.n (i := 70) (d := 0) (List.mem_cons_of_mem _ (List.mem_cons_of_mem _ (List.mem_cons_of_mem _ List.mem_cons_self))) b68]; exact congrArg some (by omega)
        · have hq : (Sum.inl _ : Option qV ⊕ (Nat × qL × List qV)) = Sum.inr q := hq
          cases hq
        · refine ⟨by rw [htk3]; exact ht2, Or.inr (Or.inl ⟨((N + 1) + 1) + 1, T, B + 1, M, htk, by omega, hJ1, Or.inr ⟨rfl, ?_, ?_, ?_⟩⟩)⟩
          · rw [hL2.n (i := 71) (d := 0) List.mem_cons_self b66]; exact congrArg some (by omega)
          · rw [hL2.n (i := 72) (d := 0) (List.mem_cons_of_mem _ List.mem_cons_self) b67]; exact congrArg some (by omega)
          · rw [hL2.n (i := 73) (d := 0) (List.mem_cons_of_mem _ (List.mem_cons_of_mem _ List.mem_cons_self)) b68]; exact congrArg some (by omega)
        · have hq : (Sum.inl _ : Option qV ⊕ (Nat × qL × List qV)) = Sum.inr q := hq
          cases hq
    · have hTT := hz1 (Or.inr hv)
      refine qy_TP.pre (ρ' := ρ ++ [(fc 5 (N + 1)).toInt, (fc 6 (N + 1)).toInt]) (g' := zPT_s_l5d.1) (w' := zPT_s_l5d.2.1) (lo' := zPT_s_l5d.2.2.1) (st' := zPT_s_l5d.2.2.2) ?_ hw
        (fun h => h.to _ [(66, 560, 859), (67, 1, 7), (68, 2, 39), (72, 7, 7), (73, (.negSucc 2147483647), 2147483647)] [] (by decide +kernel) rfl (by decide +kernel) (fa_ex e66 (by omega) (by omega) (fa_ex e67 (by omega) (by omega) (fa_ex e68 (by omega) (by omega) (fa_ex (q_ap0 hl) (by omega) (by omega) (fa_ex (q_ap1 hl) hy.1 hy.2 fa_nil))))) fa_nil) (fun _ _ h => h.mono he) (fun _ h => h.mono he)
      refine qs_lnkB fa_nil hT hA zPg_l5d (fa_cons (fun ρ' htk2 hL hgE _ => ⟨fun rv hrv => ?r0, fun q hq => ?c0⟩) fa_nil)
      case r0 =>
        have hrv : (Sum.inr _ : Option qV ⊕ (Nat × qL × List qV)) = Sum.inl rv := hrv
        cases hrv
      case c0 =>
        have hq : (Sum.inr _ : Option qV ⊕ (Nat × qL × List qV)) = Sum.inr q := hq
        cases hq
        have ht2 : ρ'.take 66 = ρb := by rw [htk2, List.take_append_of_le_length (by omega)]; exact ht
        have a1 := hL.n (i := 70) (d := 0) (List.mem_cons_of_mem _ (List.mem_cons_of_mem _ (List.mem_cons_of_mem _ (List.mem_cons_of_mem _ List.mem_cons_self)))) e68
        have a2 := hL.n (i := 71) (d := 0) (List.mem_cons_of_mem _ (List.mem_cons_of_mem _ (List.mem_cons_of_mem _ (List.mem_cons_of_mem _ (List.mem_cons_of_mem _ List.mem_cons_self))))) e68
        obtain ⟨sv, s1, s2, s3⟩ := hgE.2.1 72 (37, 62) rfl
        have hx3 : (Int32.ofInt (5 : Int)).toInt = 5 := q_i32of (by omega) (by omega)
        have hy3 : (Int32.ofInt sv).toInt = sv := q_i32of (by omega) (by omega)
        have eq : q_up (q_up fc 5 (((((N + 1) + 1) : Nat) : Int) + 0).toNat (Int32.ofInt (5 : Int))) 6 (((((N + 1) + 1) : Nat) : Int) + 0).toNat (Int32.ofInt sv) = q_up (q_up fc 5 ((N + 1) + 1) (Int32.ofInt (5 : Int))) 6 ((N + 1) + 1) (Int32.ofInt sv) := by rw [Int.add_zero, Int.toNat_natCast]
        have hJ1 := hj_psh hJ (x := Int32.ofInt (5 : Int)) (y := Int32.ofInt sv) (by rw [hx3]; omega) (by rw [hy3]; exact Or.inl ⟨s2, s3⟩)
        refine qy_TP.pre (fc' := q_up (q_up fc 5 ((N + 1) + 1) (Int32.ofInt (5 : Int))) 6 ((N + 1) + 1) (Int32.ofInt sv)) (ρ' := ρ') (g' := zPT_s_p5.1) (w' := zPT_s_p5.2.1) (lo' := zPT_s_p5.2.2.1) (st' := []) ?_ (fun ws h => by
          have h1 := h.rf (c := 19) (t := 0) (N := 90) (κ := 5) (kn := []) (or := []) (a := qa 70) (x := .inl 5) (z := ((((N + 1) + 1) : Nat) : Int) + 0) (y := 5) rfl (by decide +kernel) (q_vs a1) rfl rfl rfl
          have h2 := h1.rf (c := 20) (t := 0) (N := 90) (κ := 6) (kn := []) (or := []) (a := qa 71) (x := qa 72) (z := ((((N + 1) + 1) : Nat) : Int) + 0) (y := sv) rfl (by decide +kernel) (q_vs a2) (q_vs s1) rfl rfl
          rw [eq] at h2
          exact h2.chg (i := 2) (e := .inr (.inr (.inl (1, 1600, [(1, .negSucc 127, 127)], [(qa 56, qa 69)])))) rfl (fun q hq => qy_kdrop hq)) (fun h => h) (fun _ _ h => h) (fun _ h => h)
        have b66 := hL.n (i := 66) (d := 0) List.mem_cons_self e66
        have b67 := hL.n (i := 67) (d := 0) (List.mem_cons_of_mem _ List.mem_cons_self) e67
        have b68 := hL.n (i := 68) (d := 1) (List.mem_cons_of_mem _ (List.mem_cons_of_mem _ List.mem_cons_self)) e68
        have hlp : ρ'.length = 73 := hgE.len rfl
        refine qs_lnkB (fa_cons (hgo _) fa_nil) hT hA zPg_p5 (fa_cons (fun ρ2 htk3 hL2 _ _ => ⟨fun rv hrv => ?_, fun q hq => ?_⟩) (fa_cons (fun ρ2 htk3 hL2 _ _ => ⟨fun rv hrv => ?_, fun q hq => ?_⟩) fa_nil))
        · refine ⟨by rw [htk3]; exact ht2, Or.inr (Or.inl ⟨((N + 1) + 1) + 1, T, B + 1, M, htk, by omega, hJ1, Or.inl ⟨rfl, ?_, ?_, ?_⟩⟩)⟩
          · rw [hL2.n (i := 68) (d := 0) (List.mem_cons_of_mem _ List.mem_cons_self) b66]; exact congrArg some (by omega)
          · rw [hL2.n (i := 69) (d := 0) (List.mem_cons_of_mem _ (List.mem_cons_of_mem _ List.mem_cons_self)) b67]; exact congrArg some (by omega)
          · rw [hL2.n (i := 70) (d := 0) (List.mem_cons_of_mem _ (List.mem_cons_of_mem _ (List.mem_cons_of_mem _ List.mem_cons_self))) b68]; exact congrArg some (by omega)
        · have hq : (Sum.inl _ : Option qV ⊕ (Nat × qL × List qV)) = Sum.inr q := hq
          cases hq
        · refine ⟨by rw [htk3]; exact ht2, Or.inr (Or.inl ⟨((N + 1) + 1) + 1, T, B + 1, M, htk, by omega, hJ1, Or.inr ⟨rfl, ?_, ?_, ?_⟩⟩)⟩
          · rw [hL2.n (i := 71) (d := 0) List.mem_cons_self b66]; exact congrArg some (by omega)
          · rw [hL2.n (i := 72) (d := 0) (List.mem_cons_of_mem _ List.mem_cons_self) b67]; exact congrArg some (by omega)
          · rw [hL2.n (i := 73) (d := 0) (List.mem_cons_of_mem _ (List.mem_cons_of_mem _ List.mem_cons_self)) b68]; exact congrArg some (by omega)
        · have hq : (Sum.inl _ : Option qV ⊕ (Nat × qL × List qV)) = Sum.inr q := hq
          cases hq
    · by_cases hv2 : (fc 5 (N + 1)).toInt ≤ 2
      · have hv3 : 1 ≤ (fc 5 (N + 1)).toInt := by omega
        refine qy_TP.pre (ρ' := ρ ++ [(fc 5 (N + 1)).toInt, (fc 6 (N + 1)).toInt]) (g' := zPT_s_l5a.1) (w' := zPT_s_l5a.2.1) (lo' := zPT_s_l5a.2.2.1) (st' := zPT_s_l5a.2.2.2) ?_ hw
          (fun h => h.to _ [(66, 560, 859), (67, 0, 7), (68, 2, 39), (72, 1, 2), (73, (.negSucc 2147483647), 2147483647)] [] (by decide +kernel) rfl (by decide +kernel) (fa_ex e66 (by omega) (by omega) (fa_ex e67 (by omega) (by omega) (fa_ex e68 (by omega) (by omega) (fa_ex (q_ap0 hl) (by omega) (by omega) (fa_ex (q_ap1 hl) hy.1 hy.2 fa_nil))))) fa_nil) (fun _ _ h => h.mono he) (fun _ h => h.mono he)
        refine qs_lnkB fa_nil hT hA zPg_l5a (fa_cons (fun ρ' htk2 hL hgE _ => ⟨fun rv hrv => ?r0, fun q hq => ?c0⟩) fa_nil)
        case r0 =>
          have hrv : (Sum.inr _ : Option qV ⊕ (Nat × qL × List qV)) = Sum.inl rv := hrv
          cases hrv
        case c0 =>
          have hq : (Sum.inr _ : Option qV ⊕ (Nat × qL × List qV)) = Sum.inr q := hq
          cases hq
          have ht2 : ρ'.take 66 = ρb := by rw [htk2, List.take_append_of_le_length (by omega)]; exact ht
          have a1 := hL.n (i := 70) (d := 0) (List.mem_cons_of_mem _ (List.mem_cons_of_mem _ (List.mem_cons_of_mem _ (List.mem_cons_of_mem _ List.mem_cons_self)))) e68
          have a2 := hL.n (i := 71) (d := 0) (List.mem_cons_of_mem _ (List.mem_cons_of_mem _ (List.mem_cons_of_mem _ (List.mem_cons_of_mem _ (List.mem_cons_of_mem _ List.mem_cons_self))))) e68
          obtain ⟨sv, s1, s2, s3⟩ := hgE.2.1 72 (37, 62) rfl
          have hx3 : (Int32.ofInt (5 : Int)).toInt = 5 := q_i32of (by omega) (by omega)
          have hy3 : (Int32.ofInt sv).toInt = sv := q_i32of (by omega) (by omega)
          have eq : q_up (q_up fc 5 (((((N + 1) + 1) : Nat) : Int) + 0).toNat (Int32.ofInt (5 : Int))) 6 (((((N + 1) + 1) : Nat) : Int) + 0).toNat (Int32.ofInt sv) = q_up (q_up fc 5 ((N + 1) + 1) (Int32.ofInt (5 : Int))) 6 ((N + 1) + 1) (Int32.ofInt sv) := by rw [Int.add_zero, Int.toNat_natCast]
          have hJ1 := hj_psh hJ (x := Int32.ofInt (5 : Int)) (y := Int32.ofInt sv) (by rw [hx3]; omega) (by rw [hy3]; exact Or.inl ⟨s2, s3⟩)
          refine qy_TP.pre (fc' := q_up (q_up fc 5 ((N + 1) + 1) (Int32.ofInt (5 : Int))) 6 ((N + 1) + 1) (Int32.ofInt sv)) (ρ' := ρ') (g' := zPT_s_p5.1) (w' := zPT_s_p5.2.1) (lo' := zPT_s_p5.2.2.1) (st' := []) ?_ (fun ws h => by
            have h1 := h.rf (c := 19) (t := 0) (N := 90) (κ := 5) (kn := []) (or := []) (a := qa 70) (x := .inl 5) (z := ((((N + 1) + 1) : Nat) : Int) + 0) (y := 5) rfl (by decide +kernel) (q_vs a1) rfl rfl rfl
            have h2 := h1.rf (c := 20) (t := 0) (N := 90) (κ := 6) (kn := []) (or := []) (a := qa 71) (x := qa 72) (z := ((((N + 1) + 1) : Nat) : Int) + 0) (y := sv) rfl (by decide +kernel) (q_vs a2) (q_vs s1) rfl rfl
            rw [eq] at h2
            exact h2.chg (i := 2) (e := .inr (.inr (.inl (1, 1600, [(1, .negSucc 127, 127)], [(qa 56, qa 69)])))) rfl (fun q hq => qy_kdrop hq)) (fun h => h) (fun _ _ h => h) (fun _ h => h)
          have b66 := hL.n (i := 66) (d := 0) List.mem_cons_self e66
          have b67 := hL.n (i := 67) (d := 0) (List.mem_cons_of_mem _ List.mem_cons_self) e67
          have b68 := hL.n (i := 68) (d := 1) (List.mem_cons_of_mem _ (List.mem_cons_of_mem _ List.mem_cons_self)) e68
          have hlp : ρ'.length = 73 := hgE.len rfl
          refine qs_lnkB (fa_cons (hgo _) fa_nil) hT hA zPg_p5 (fa_cons (fun ρ2 htk3 hL2 _ _ => ⟨fun rv hrv => ?_, fun q hq => ?_⟩) (fa_cons (fun ρ2 htk3 hL2 _ _ => ⟨fun rv hrv => ?_, fun q hq => ?_⟩) fa_nil))
          · refine ⟨by rw [htk3]; exact ht2, Or.inr (Or.inl ⟨((N + 1) + 1) + 1, T, B + 1, M, htk, by omega, hJ1, Or.inl ⟨rfl, ?_, ?_, ?_⟩⟩)⟩
            · rw [hL2.n (i := 68) (d := 0) (List.mem_cons_of_mem _ List.mem_cons_self) b66]; exact congrArg some (by omega)
            · rw [hL2.n (i := 69) (d := 0) (List.mem_cons_of_mem _ (List.mem_cons_of_mem _ List.mem_cons_self)) b67]; exact congrArg some (by omega)
            · rw [hL2.n (i := 70) (d := 0) (List.mem_cons_of_mem _ (List.mem_cons_of_mem _ (List.mem_cons_of_mem _ List.mem_cons_self))) b68]; exact congrArg some (by omega)
          · have hq : (Sum.inl _ : Option qV ⊕ (Nat × qL × List qV)) = Sum.inr q := hq
            cases hq
          · refine ⟨by rw [htk3]; exact ht2, Or.inr (Or.inl ⟨((N + 1) + 1) + 1, T, B + 1, M, htk, by omega, hJ1, Or.inr ⟨rfl, ?_, ?_, ?_⟩⟩)⟩
            · rw [hL2.n (i := 71) (d := 0) List.mem_cons_self b66]; exact congrArg some (by omega)
            · rw [hL2.n (i := 72) (d := 0) (List.mem_cons_of_mem _ List.mem_cons_self) b67]; exact congrArg some (by omega)
            · rw [hL2.n (i := 73) (d := 0) (List.mem_cons_of_mem _ (List.mem_cons_of_mem _ List.mem_cons_self)) b68]; exact congrArg some (by omega)
          · have hq : (Sum.inl _ : Option qV ⊕ (Nat × qL × List qV)) = Sum.inr q := hq
            cases hq
      · have hv3 : 4 ≤ (fc 5 (N + 1)).toInt := by omega
        refine qy_TP.pre (ρ' := ρ ++ [(fc 5 (N + 1)).toInt, (fc 6 (N + 1)).toInt]) (g' := zPT_s_l5c.1) (w' := zPT_s_l5c.2.1) (lo' := zPT_s_l5c.2.2.1) (st' := zPT_s_l5c.2.2.2) ?_ hw
          (fun h => h.to _ [(66, 560, 859), (67, 0, 7), (68, 2, 39), (72, 4, 6), (73, (.negSucc 2147483647), 2147483647)] [] (by decide +kernel) rfl (by decide +kernel) (fa_ex e66 (by omega) (by omega) (fa_ex e67 (by omega) (by omega) (fa_ex e68 (by omega) (by omega) (fa_ex (q_ap0 hl) (by omega) (by omega) (fa_ex (q_ap1 hl) hy.1 hy.2 fa_nil))))) fa_nil) (fun _ _ h => h.mono he) (fun _ h => h.mono he)
        refine qs_lnkB fa_nil hT hA zPg_l5c (fa_cons (fun ρ' htk2 hL hgE _ => ⟨fun rv hrv => ?r0, fun q hq => ?c0⟩) (fa_cons (fun ρ' htk2 hL hgE _ => ⟨fun rv hrv => ?r1, fun q hq => ?c1⟩) fa_nil))
        case r0 =>
          have hrv : (Sum.inr _ : Option qV ⊕ (Nat × qL × List qV)) = Sum.inl rv := hrv
          cases hrv
        case c0 =>
          have hq : (Sum.inr _ : Option qV ⊕ (Nat × qL × List qV)) = Sum.inr q := hq
          cases hq
          have ht2 : ρ'.take 66 = ρb := by rw [htk2, List.take_append_of_le_length (by omega)]; exact ht
          have a1 := hL.n (i := 70) (d := 0) (List.mem_cons_of_mem _ (List.mem_cons_of_mem _ (List.mem_cons_of_mem _ (List.mem_cons_of_mem _ List.mem_cons_self)))) e66
          have a2 := hL.n (i := 71) (d := 0) (List.mem_cons_of_mem _ (List.mem_cons_of_mem _ (List.mem_cons_of_mem _ (List.mem_cons_of_mem _ (List.mem_cons_of_mem _ List.mem_cons_self))))) (q_ap1 hl)
          obtain ⟨T1, B1, hT1, hT2, hJ1⟩ := hj_pop hJ (by omega) (by omega)
          have eq : q_up fc 0 (((560 + M : Nat) : Int) + 0).toNat (Int32.ofInt ((fc 6 (N + 1)).toInt + 0)) = q_up fc 0 (560 + M) (fc 6 (N + 1)) := by rw [Int.add_zero, Int.add_zero, Int.toNat_natCast, Int32.ofInt_toInt]
          refine qy_TP.pre (fc' := q_up fc 0 (560 + M) (fc 6 (N + 1))) (ρ' := ρ') (g' := zPT_pop5.1) (w' := zPT_L5.2.1) (lo' := zPT_L5.2.2.1) (st' := []) ?_ (fun ws h => by
            have := h.rf (c := 17) (t := 0) (N := 1120) (κ := 0) (kn := []) (or := []) (a := qa 70) (x := qa 71) (z := ((560 + M : Nat) : Int) + 0) (y := (fc 6 (N + 1)).toInt + 0) rfl (by decide +kernel) (q_vs a1) (q_vs a2) rfl rfl
            rw [eq] at this
            exact this) (fun h => h) (fun _ _ h => h) (fun _ h => h)
          refine ih _ ρ' T1 B1 (M + 1) (by omega) ht2 ?_ ?_ ?_ hJ1
          · rw [hL.n (i := 66) (d := 1) List.mem_cons_self e66]; exact congrArg some (by omega)
          · rw [hL.n (i := 67) (d := 0) (List.mem_cons_of_mem _ List.mem_cons_self) e67]; exact congrArg some (by omega)
          · rw [hL.n (i := 68) (d := -1) (List.mem_cons_of_mem _ (List.mem_cons_of_mem _ List.mem_cons_self)) e68]; exact congrArg some (by omega)
        case r1 =>
          have hrv : (Sum.inr _ : Option qV ⊕ (Nat × qL × List qV)) = Sum.inl rv := hrv
          cases hrv
        case c1 =>
          have hq : (Sum.inr _ : Option qV ⊕ (Nat × qL × List qV)) = Sum.inr q := hq
          cases hq
          have ht2 : ρ'.take 66 = ρb := by rw [htk2, List.take_append_of_le_length (by omega)]; exact ht
          have a1 := hL.n (i := 70) (d := 0) (List.mem_cons_of_mem _ (List.mem_cons_of_mem _ (List.mem_cons_of_mem _ (List.mem_cons_of_mem _ List.mem_cons_self)))) e68
          have a2 := hL.n (i := 71) (d := 0) (List.mem_cons_of_mem _ (List.mem_cons_of_mem _ (List.mem_cons_of_mem _ (List.mem_cons_of_mem _ (List.mem_cons_of_mem _ List.mem_cons_self))))) e68
          obtain ⟨sv, s1, s2, s3⟩ := hgE.2.1 72 (37, 62) rfl
          have hx3 : (Int32.ofInt (5 : Int)).toInt = 5 := q_i32of (by omega) (by omega)
          have hy3 : (Int32.ofInt sv).toInt = sv := q_i32of (by omega) (by omega)
          have eq : q_up (q_up fc 5 (((((N + 1) + 1) : Nat) : Int) + 0).toNat (Int32.ofInt (5 : Int))) 6 (((((N + 1) + 1) : Nat) : Int) + 0).toNat (Int32.ofInt sv) = q_up (q_up fc 5 ((N + 1) + 1) (Int32.ofInt (5 : Int))) 6 ((N + 1) + 1) (Int32.ofInt sv) := by rw [Int.add_zero, Int.toNat_natCast]
          have hJ1 := hj_psh hJ (x := Int32.ofInt (5 : Int)) (y := Int32.ofInt sv) (by rw [hx3]; omega) (by rw [hy3]; exact Or.inl ⟨s2, s3⟩)
          refine qy_TP.pre (fc' := q_up (q_up fc 5 ((N + 1) + 1) (Int32.ofInt (5 : Int))) 6 ((N + 1) + 1) (Int32.ofInt sv)) (ρ' := ρ') (g' := zPT_s_p5.1) (w' := zPT_s_p5.2.1) (lo' := zPT_s_p5.2.2.1) (st' := []) ?_ (fun ws h => by
            have h1 := h.rf (c := 19) (t := 0) (N := 90) (κ := 5) (kn := []) (or := []) (a := qa 70) (x := .inl 5) (z := ((((N + 1) + 1) : Nat) : Int) + 0) (y := 5) rfl (by decide +kernel) (q_vs a1) rfl rfl rfl
            have h2 := h1.rf (c := 20) (t := 0) (N := 90) (κ := 6) (kn := []) (or := []) (a := qa 71) (x := qa 72) (z := ((((N + 1) + 1) : Nat) : Int) + 0) (y := sv) rfl (by decide +kernel) (q_vs a2) (q_vs s1) rfl rfl
            rw [eq] at h2
            exact h2.chg (i := 2) (e := .inr (.inr (.inl (1, 1600, [(1, .negSucc 127, 127)], [(qa 56, qa 69)])))) rfl (fun q hq => qy_kdrop hq)) (fun h => h) (fun _ _ h => h) (fun _ h => h)
          have b66 := hL.n (i := 66) (d := 0) List.mem_cons_self e66
          have b67 := hL.n (i := 67) (d := 0) (List.mem_cons_of_mem _ List.mem_cons_self) e67
          have b68 := hL.n (i := 68) (d := 1) (List.mem_cons_of_mem _ (List.mem_cons_of_mem _ List.mem_cons_self)) e68
          have hlp : ρ'.length = 73 := hgE.len rfl
          refine qs_lnkB (fa_cons (hgo _) fa_nil) hT hA zPg_p5 (fa_cons (fun ρ2 htk3 hL2 _ _ => ⟨fun rv hrv => ?_, fun q hq => ?_⟩) (fa_cons (fun ρ2 htk3 hL2 _ _ => ⟨fun rv hrv => ?_, fun q hq => ?_⟩) fa_nil))
          · refine ⟨by rw [htk3]; exact ht2, Or.inr (Or.inl ⟨((N + 1) + 1) + 1, T, B + 1, M, htk, by omega, hJ1, Or.inl ⟨rfl, ?_, ?_, ?_⟩⟩)⟩
            · rw [hL2.n (i := 68) (d := 0) (List.mem_cons_of_mem _ List.mem_cons_self) b66]; exact congrArg some (by omega)
            · rw [hL2.n (i := 69) (d := 0) (List.mem_cons_of_mem _ (List.mem_cons_of_mem _ List.mem_cons_self)) b67]; exact congrArg some (by omega)
            · rw [hL2.n (i := 70) (d := 0) (List.mem_cons_of_mem _ (List.mem_cons_of_mem _ (List.mem_cons_of_mem _ List.mem_cons_self))) b68]; exact congrArg some (by omega)
          · have hq : (Sum.inl _ : Option qV ⊕ (Nat × qL × List qV)) = Sum.inr q := hq
            cases hq
          · refine ⟨by rw [htk3]; exact ht2, Or.inr (Or.inl ⟨((N + 1) + 1) + 1, T, B + 1, M, htk, by omega, hJ1, Or.inr ⟨rfl, ?_, ?_, ?_⟩⟩)⟩
            · rw [hL2.n (i := 71) (d := 0) List.mem_cons_self b66]; exact congrArg some (by omega)
            · rw [hL2.n (i := 72) (d := 0) (List.mem_cons_of_mem _ List.mem_cons_self) b67]; exact congrArg some (by omega)
            · rw [hL2.n (i := 73) (d := 0) (List.mem_cons_of_mem _ (List.mem_cons_of_mem _ List.mem_cons_self)) b68]; exact congrArg some (by omega)
          · have hq : (Sum.inl _ : Option qV ⊕ (Nat × qL × List qV)) = Sum.inr q := hq
            cases hq
theorem zPl6 (hT : zk_t) (hA : zk_a) (hgo : ∀ fc, qy_V ex (qΓ1 fc) D as tys zPk2) {fc0 : Nat → Nat → Int32} {ρb : List Int} {Nb U : Nat} (htk : ∃ tk, ρb[58]? = some tk ∧ 1 ≤ tk) : ∀ (N : Nat) (fc : Nat → Nat → Int32) (ρ : List Int) (T B M : Nat), N + 1 ≤ Nb → ρ.take 66 = ρb → ρ[66]? = some ((560 + M : Nat) : Int) → ρ[67]? = some (T : Int) → ρ[68]? = some ((N + 1 : Nat) : Int) → hj_J fc fc0 560 (N + 1) T B M U false → qy_TP ex D as tys 10 187 fc ρ zPT_pop6.1 zPT_L6.2.1 zPT_L6.2.2.1 [] 23 (zPPB fc0 ρb Nb U) := by
  intro N
  induction N with
  | zero =>
    intro fc ρ T B M hN ht h66 h67 h68 hJ
    refine qy_TP.intro fun _ hg => ?_
    have hl : ρ.length = 72 := hg.len rfl
    have hbd := hj_bd hJ
    have hT7 := hJ.2.1
    have hi : (Int32.ofInt ((0 : Nat) : Int)).toInt = ((0 : Nat) : Int) := q_i32of (by omega) (by omega)
    have he : qe ρ (ρ ++ [(fc 5 0).toInt, (fc 6 0).toInt]) := ⟨_, rfl⟩
    have hy := q_i32 (fc 6 0)
    have hw : ∀ ws, qy_w ρ ex fc tys as zPT_L6.2.1 ws → qy_w (ρ ++ [(fc 5 0).toInt, (fc 6 0).toInt]) ex fc tys as ((zPT_L6.2.1.set 19 (.inr (.inr (.inr (0, 90, 5, [(ql 68 1 (.negSucc 0), qa 72)], []))))).set 20 (.inr (.inr (.inr (0, 90, 6, [(ql 68 1 (.negSucc 0), qa 73)], []))))) ws := fun ws h => ((h.mono he).chg (i := 19) (e := .inr (.inr (.inr (0, 90, 5, [], [])))) rfl (fun q hq => qy_knw (i := Int32.ofInt ((0 : Nat) : Int)) (qy_knd (he.at h68) (by rw [hi]; omega)) (by rw [hi]; omega) (by rw [hi]; show _ < ((90 : Nat) : Int); omega) (qy_kns (by rw [hi, Int.toNat_natCast]; exact q_ap0 hl)) hq)).chg (i := 20) (e := .inr (.inr (.inr (0, 90, 6, [], [])))) rfl (fun q hq => qy_knw (i := Int32.ofInt ((0 : Nat) : Int)) (qy_knd (he.at h68) (by rw [hi]; omega)) (by rw [hi]; omega) (by rw [hi]; show _ < ((90 : Nat) : Int); omega) (qy_kns (by rw [hi, Int.toNat_natCast]; exact q_ap1 hl)) hq)
    have e66 := he.at h66
    have e67 := he.at h67
    have e68 := he.at h68
    have hv : (fc 5 0).toInt = 8 := hJ.2.2.2.1
    refine qy_TP.pre (ρ' := ρ ++ [(fc 5 0).toInt, (fc 6 0).toInt]) (g' := zPT_s_l6e.1) (w' := zPT_s_l6e.2.1) (lo' := zPT_s_l6e.2.2.1) (st' := zPT_s_l6e.2.2.2) ?_ hw
      (fun h => h.to _ [(66, 560, 859), (67, 0, 7), (68, 1, 39), (72, 8, 8), (73, (.negSucc 2147483647), 2147483647)] [] (by decide +kernel) rfl (by decide +kernel) (fa_ex e66 (by omega) (by omega) (fa_ex e67 (by omega) (by omega) (fa_ex e68 (by omega) (by omega) (fa_ex (q_ap0 hl) (by omega) (by omega) (fa_ex (q_ap1 hl) hy.1 hy.2 fa_nil))))) fa_nil) (fun _ _ h => h.mono he) (fun _ h => h.mono he)
    refine qs_lnkB fa_nil hT hA zPg_l6e (fa_cons (fun ρ' htk2 hL hgE _ => ⟨fun rv hrv => ?r0, fun q hq => ?c0⟩) fa_nil)
    case r0 =>
      have hrv : (Sum.inr _ : Option qV ⊕ (Nat × qL × List qV)) = Sum.inl rv := hrv
      cases hrv
    case c0 =>
      have hq : (Sum.inr _ : Option qV ⊕ (Nat × qL × List qV)) = Sum.inr q := hq
      cases hq
      have ht2 : ρ'.take 66 = ρb := by rw [htk2, List.take_append_of_le_length (by omega)]; exact ht
      have a1 := hL.n (i := 70) (d := 0) (List.mem_cons_of_mem _ (List.mem_cons_of_mem _ (List.mem_cons_of_mem _ (List.mem_cons_of_mem _ List.mem_cons_self)))) e68
      have a2 := hL.n (i := 71) (d := 0) (List.mem_cons_of_mem _ (List.mem_cons_of_mem _ (List.mem_cons_of_mem _ (List.mem_cons_of_mem _ (List.mem_cons_of_mem _ List.mem_cons_self))))) e68
      obtain ⟨sv, s1, s2, s3⟩ := hgE.2.1 72 (37, 62) rfl
      have hx3 : (Int32.ofInt (6 : Int)).toInt = 6 := q_i32of (by omega) (by omega)
      have hy3 : (Int32.ofInt sv).toInt = sv := q_i32of (by omega) (by omega)
      have eq : q_up (q_up fc 5 ((((0 + 1) : Nat) : Int) + 0).toNat (Int32.ofInt (6 : Int))) 6 ((((0 + 1) : Nat) : Int) + 0).toNat (Int32.ofInt sv) = q_up (q_up fc 5 (0 + 1) (Int32.ofInt (6 : Int))) 6 (0 + 1) (Int32.ofInt sv) := by rw [Int.add_zero, Int.toNat_natCast]
      have hJ1 := hj_psh hJ (x := Int32.ofInt (6 : Int)) (y := Int32.ofInt sv) (by rw [hx3]; omega) (by rw [hy3]; exact Or.inl ⟨s2, s3⟩)
      refine qy_TP.pre (fc' := q_up (q_up fc 5 (0 + 1) (Int32.ofInt (6 : Int))) 6 (0 + 1) (Int32.ofInt sv)) (ρ' := ρ') (g' := zPT_s_p6.1) (w' := zPT_s_p6.2.1) (lo' := zPT_s_p6.2.2.1) (st' := []) ?_ (fun ws h => by
        have h1 := h.rf (c := 19) (t := 0) (N := 90) (κ := 5) (kn := []) (or := []) (a := qa 70) (x := .inl 6) (z := (((0 + 1) : Nat) : Int) + 0) (y := 6) rfl (by decide +kernel) (q_vs a1) rfl rfl rfl
        have h2 := h1.rf (c := 20) (t := 0) (N := 90) (κ := 6) (kn := []) (or := []) (a := qa 71) (x := qa 72) (z := (((0 + 1) : Nat) : Int) + 0) (y := sv) rfl (by decide +kernel) (q_vs a2) (q_vs s1) rfl rfl
        rw [eq] at h2
        exact h2.chg (i := 2) (e := .inr (.inr (.inl (1, 1600, [(1, .negSucc 127, 127)], [(qa 56, qa 69)])))) rfl (fun q hq => qy_kdrop hq)) (fun h => h) (fun _ _ h => h) (fun _ h => h)
      have b66 := hL.n (i := 66) (d := 0) List.mem_cons_self e66
      have b67 := hL.n (i := 67) (d := 0) (List.mem_cons_of_mem _ List.mem_cons_self) e67
      have b68 := hL.n (i := 68) (d := 1) (List.mem_cons_of_mem _ (List.mem_cons_of_mem _ List.mem_cons_self)) e68
      have hlp : ρ'.length = 73 := hgE.len rfl
      refine qs_lnkB (fa_cons (hgo _) fa_nil) hT hA zPg_p6 (fa_cons (fun ρ2 htk3 hL2 _ _ => ⟨fun rv hrv => ?_, fun q hq => ?_⟩) (fa_cons (fun ρ2 htk3 hL2 _ _ => ⟨fun rv hrv => ?_, fun q hq => ?_⟩) fa_nil))
      · refine ⟨by rw [htk3]; exact ht2, Or.inr (Or.inl ⟨(0 + 1) + 1, T, B + 1, M, htk, by omega, hJ1, Or.inl ⟨rfl, ?_, ?_, ?_⟩⟩)⟩
        · rw [hL2.n (i := 68) (d := 0) (List.mem_cons_of_mem _ List.mem_cons_self) b66]; exact congrArg some (by omega)
        · rw [hL2.n (i := 69) (d := 0) (List.mem_cons_of_mem _ (List.mem_cons_of_mem _ List.mem_cons_self)) b67]; exact congrArg some (by omega)
        · rw [hL2.n (i := 70) (d := 0) (List.mem_cons_of_mem _ (List.mem_cons_of_mem _ (List.mem_cons_of_mem _ List.mem_cons_self))) b68]; exact congrArg some (by omega)
      · have hq : (Sum.inl _ : Option qV ⊕ (Nat × qL × List qV)) = Sum.inr q := hq
        cases hq
      · refine ⟨by rw [htk3]; exact ht2, Or.inr (Or.inl ⟨(0 + 1) + 1, T, B + 1, M, htk, by omega, hJ1, Or.inr ⟨rfl, ?_, ?_, ?_⟩⟩)⟩
        · rw [hL2.n (i := 71) (d := 0) List.mem_cons_self b66]; exact congrArg some (by omega)
        · rw [hL2.n (i := 72) (d := 0) (List.mem_cons_of_mem _ List.mem_cons_self) b67]; exact congrArg some (by omega)
        · rw [hL2.n (i := 73) (d := 0) (List.mem_cons_of_mem _ (List.mem_cons_of_mem _ List.mem_cons_self)) b68]; exact congrArg some (by omega)
      · have hq : (Sum.inl _ : Option qV ⊕ (Nat × qL × List qV)) = Sum.inr q := hq
        cases hq
  | succ N ih =>
    intro fc ρ T B M hN ht h66 h67 h68 hJ
    refine qy_TP.intro fun _ hg => ?_
    have hl : ρ.length = 72 := hg.len rfl
    have hbd := hj_bd hJ
    have hT7 := hJ.2.1
    have hi : (Int32.ofInt (((N + 1) : Nat) : Int)).toInt = (((N + 1) : Nat) : Int) := q_i32of (by omega) (by omega)
    have he : qe ρ (ρ ++ [(fc 5 (N + 1)).toInt, (fc 6 (N + 1)).toInt]) := ⟨_, rfl⟩
    have hy := q_i32 (fc 6 (N + 1))
    have hw : ∀ ws, qy_w ρ ex fc tys as zPT_L6.2.1 ws → qy_w (ρ ++ [(fc 5 (N + 1)).toInt, (fc 6 (N + 1)).toInt]) ex fc tys as ((zPT_L6.2.1.set 19 (.inr (.inr (.inr (0, 90, 5, [(ql 68 1 (.negSucc 0), qa 72)], []))))).set 20 (.inr (.inr (.inr (0, 90, 6, [(ql 68 1 (.negSucc 0), qa 73)], []))))) ws := fun ws h => ((h.mono he).chg (i := 19) (e := .inr (.inr (.inr (0, 90, 5, [], [])))) rfl (fun q hq => qy_knw (i := Int32.ofInt (((N + 1) : Nat) : Int)) (qy_knd (he.at h68) (by rw [hi]; omega)) (by rw [hi]; omega) (by rw [hi]; show _ < ((90 : Nat) : Int); omega) (qy_kns (by rw [hi, Int.toNat_natCast]; exact q_ap0 hl)) hq)).chg (i := 20) (e := .inr (.inr (.inr (0, 90, 6, [], [])))) rfl (fun q hq => qy_knw (i := Int32.ofInt (((N + 1) : Nat) : Int)) (qy_knd (he.at h68) (by rw [hi]; omega)) (by rw [hi]; omega) (by rw [hi]; show _ < ((90 : Nat) : Int); omega) (qy_kns (by rw [hi, Int.toNat_natCast]; exact q_ap1 hl)) hq)
    have e66 := he.at h66
    have e67 := he.at h67
    have e68 := he.at h68
    have he5 := hJ.2.2.2.2.1 (N + 1) (by omega) (by omega)
    have htop := hj_top hJ
    rcases htop with ⟨z, -⟩ | ⟨-, -, hz1, hz2⟩
    · omega
    rcases he5 with ⟨hv, -⟩ | hv | ⟨hv, -⟩
    · have hTT := hz1 (Or.inl hv)
      refine qy_TP.pre (ρ' := ρ ++ [(fc 5 (N + 1)).toInt, (fc 6 (N + 1)).toInt]) (g' := zPT_s_l6b.1) (w' := zPT_s_l6b.2.1) (lo' := zPT_s_l6b.2.2.1) (st' := zPT_s_l6b.2.2.2) ?_ hw
        (fun h => h.to _ [(66, 560, 859), (67, 1, 7), (68, 2, 39), (72, 3, 3), (73, (.negSucc 2147483647), 2147483647)] [] (by decide +kernel) rfl (by decide +kernel) (fa_ex e66 (by omega) (by omega) (fa_ex e67 (by omega) (by omega) (fa_ex e68 (by omega) (by omega) (fa_ex (q_ap0 hl) (by omega) (by omega) (fa_ex (q_ap1 hl) hy.1 hy.2 fa_nil))))) fa_nil) (fun _ _ h => h.mono he) (fun _ h => h.mono he)
      refine qs_lnkB fa_nil hT hA zPg_l6b (fa_cons (fun ρ' htk2 hL hgE _ => ⟨fun rv hrv => ?r0, fun q hq => ?c0⟩) fa_nil)
      case r0 =>
        have hrv : (Sum.inr _ : Option qV ⊕ (Nat × qL × List qV)) = Sum.inl rv := hrv
        cases hrv
      case c0 =>
        have hq : (Sum.inr _ : Option qV ⊕ (Nat × qL × List qV)) = Sum.inr q := hq
        cases hq
        have ht2 : ρ'.take 66 = ρb := by rw [htk2, List.take_append_of_le_length (by omega)]; exact ht
        have a1 := hL.n (i := 70) (d := 0) (List.mem_cons_of_mem _ (List.mem_cons_of_mem _ (List.mem_cons_of_mem _ (List.mem_cons_of_mem _ List.mem_cons_self)))) e68
        have a2 := hL.n (i := 71) (d := 0) (List.mem_cons_of_mem _ (List.mem_cons_of_mem _ (List.mem_cons_of_mem _ (List.mem_cons_of_mem _ (List.mem_cons_of_mem _ List.mem_cons_self))))) e68
        obtain ⟨sv, s1, s2, s3⟩ := hgE.2.1 72 (37, 62) rfl
        have hx3 : (Int32.ofInt (6 : Int)).toInt = 6 := q_i32of (by omega) (by omega)
        have hy3 : (Int32.ofInt sv).toInt = sv := q_i32of (by omega) (by omega)
        have eq : q_up (q_up fc 5 (((((N + 1) + 1) : Nat) : Int) + 0).toNat (Int32.ofInt (6 : Int))) 6 (((((N + 1) + 1) : Nat) : Int) + 0).toNat (Int32.ofInt sv) = q_up (q_up fc 5 ((N + 1) + 1) (Int32.ofInt (6 : Int))) 6 ((N + 1) + 1) (Int32.ofInt sv) := by rw [Int.add_zero, Int.toNat_natCast]
        have hJ1 := hj_psh hJ (x := Int32.ofInt (6 : Int)) (y := Int32.ofInt sv) (by rw [hx3]; omega) (by rw [hy3]; exact Or.inl ⟨s2, s3⟩)
        refine qy_TP.pre (fc' := q_up (q_up fc 5 ((N + 1) + 1) (Int32.ofInt (6 : Int))) 6 ((N + 1) + 1) (Int32.ofInt sv)) (ρ' := ρ') (g' := zPT_s_p6.1) (w' := zPT_s_p6.2.1) (lo' := zPT_s_p6.2.2.1) (st' := []) ?_ (fun ws h => by
          have h1 := h.rf (c := 19) (t := 0) (N := 90) (κ := 5) (kn := []) (or := []) (a := qa 70) (x := .inl 6) (z := ((((N + 1) + 1) : Nat) : Int) + 0) (y := 6) rfl (by decide +kernel) (q_vs a1) rfl rfl rfl
          have h2 := h1.rf (c := 20) (t := 0) (N := 90) (κ := 6) (kn := []) (or := []) (a := qa 71) (x := qa 72) (z := ((((N + 1) + 1) : Nat) : Int) + 0) (y := sv) rfl (by decide +kernel) (q_vs a2) (q_vs s1) rfl rfl
          rw [eq] at h2
          exact h2.chg (i := 2) (e := .inr (.inr (.inl (1, 1600, [(1, .negSucc 127, 127)], [(qa 56, qa 69)])))) rfl (fun q hq => qy_kdrop hq)) (fun h => h) (fun _ _ h => h) (fun _ h => h)
        have b66 := hL.n (i := 66) (d := 0) List.mem_cons_self e66
        have b67 := hL.n (i := 67) (d := 0) (List.mem_cons_of_mem _ List.mem_cons_self) e67
        have b68 := hL.n (i := 68) (d := 1) (List.mem_cons_of_mem _ (List.mem_cons_of_mem _ List.mem_cons_self)) e68
        have hlp : ρ'.length = 73 := hgE.len rfl
        refine qs_lnkB (fa_cons (hgo _) fa_nil) hT hA zPg_p6 (fa_cons (fun ρ2 htk3 hL2 _ _ => ⟨fun rv hrv => ?_, fun q hq => ?_⟩) (fa_cons (fun ρ2 htk3 hL2 _ _ => ⟨fun rv hrv => ?_, fun q hq => ?_⟩) fa_nil))
        · refine ⟨by rw [htk3]; exact ht2, Or.inr (Or.inl ⟨((N + 1) + 1) + 1, T, B + 1, M, htk, by omega, hJ1, Or.inl ⟨rfl, ?_, ?_, ?_⟩⟩)⟩
          · rw [hL2.n (i := 68) (d := 0) (List.mem_cons_of_mem _ List.mem_cons_self) b66]; exact congrArg some (by omega)
          · rw [hL2.n (i := 69) (d := 0) (List.mem_cons_of_mem _ (List.mem_cons_of_mem _ List.mem_cons_self)) b67]; exact congrArg some (by omega)
          · rw [hL2.n (i := 70) (d := 0) (List.mem_cons_of_mem _ (List.mem_cons_of_mem _ (List.mem_cons_of_mem _ List.mem_cons_self))) b68]; exact congrArg some (by omega)
        · have hq : (Sum.inl _ : Option qV ⊕ (Nat × qL × List qV)) = Sum.inr q := hq
          cases hq
        · refine ⟨by rw [htk3]; exact ht2, Or.inr (Or.inl ⟨((N + 1) + 1) + 1, T, B + 1, M, htk, by omega, hJ1, Or.inr ⟨rfl, ?_, ?_, ?_⟩⟩)⟩
          · rw [hL2.n (i := 71) (d := 0) List.mem_cons_self b66]; exact congrArg some (by omega)
          · rw [hL2.n (i := 72) (d := 0) (List.mem_cons_of_mem _ List.mem_cons_self) b67]; exact congrArg some (by omega)
          · rw [hL2.n (i := 73) (d := 0) (List.mem_cons_of_mem _ (List.mem_cons_of_mem _ List.mem_cons_self)) b68]; exact congrArg some (by omega)
        · have hq : (Sum.inl _ : Option qV ⊕ (Nat × qL × List qV)) = Sum.inr q := hq
          cases hq
    · have hTT := hz1 (Or.inr hv)
      refine qy_TP.pre (ρ' := ρ ++ [(fc 5 (N + 1)).toInt, (fc 6 (N + 1)).toInt]) (g' := zPT_s_l6d.1) (w' := zPT_s_l6d.2.1) (lo' := zPT_s_l6d.2.2.1) (st' := zPT_s_l6d.2.2.2) ?_ hw
        (fun h => h.to _ [(66, 560, 859), (67, 1, 7), (68, 2, 39), (72, 7, 7), (73, (.negSucc 2147483647), 2147483647)] [] (by decide +kernel) rfl (by decide +kernel) (fa_ex e66 (by omega) (by omega) (fa_ex e67 (by omega) (by omega) (fa_ex e68 (by omega) (by omega) (fa_ex (q_ap0 hl) (by omega) (by omega) (fa_ex (q_ap1 hl) hy.1 hy.2 fa_nil))))) fa_nil) (fun _ _ h => h.mono he) (fun _ h => h.mono he)
      refine qs_lnkB fa_nil hT hA zPg_l6d (fa_cons (fun ρ' htk2 hL hgE _ => ⟨fun rv hrv => ?r0, fun q hq => ?c0⟩) fa_nil)
      case r0 =>
        have hrv : (Sum.inr _ : Option qV ⊕ (Nat × qL × List qV)) = Sum.inl rv := hrv
        cases hrv
      case c0 =>
        have hq : (Sum.inr _ : Option qV ⊕ (Nat × qL × List qV)) = Sum.inr q := hq
        cases hq
        have ht2 : ρ'.take 66 = ρb := by rw [htk2, List.take_append_of_le_length (by omega)]; exact ht
        have a1 := hL.n (i := 70) (d := 0) (List.mem_cons_of_mem _ (List.mem_cons_of_mem _ (List.mem_cons_of_mem _ (List.mem_cons_of_mem _ List.mem_cons_self)))) e68
        have a2 := hL.n (i := 71) (d := 0) (List.mem_cons_of_mem _ (List.mem_cons_of_mem _ (List.mem_cons_of_mem _ (List.mem_cons_of_mem _ (List.mem_cons_of_mem _ List.mem_cons_self))))) e68
        obtain ⟨sv, s1, s2, s3⟩ := hgE.2.1 72 (37, 62) rfl
        have hx3 : (Int32.ofInt (6 : Int)).toInt = 6 := q_i32of (by omega) (by omega)
        have hy3 : (Int32.ofInt sv).toInt = sv := q_i32of (by omega) (by omega)
        have eq : q_up (q_up fc 5 (((((N + 1) + 1) : Nat) : Int) + 0).toNat (Int32.ofInt (6 : Int))) 6 (((((N + 1) + 1) : Nat) : Int) + 0).toNat (Int32.ofInt sv) = q_up (q_up fc 5 ((N + 1) + 1) (Int32.ofInt (6 : Int))) 6 ((N + 1) + 1) (Int32.ofInt sv) := by rw [Int.add_zero, Int.toNat_natCast]
        have hJ1 := hj_psh hJ (x := Int32.ofInt (6 : Int)) (y := Int32.ofInt sv) (by rw [hx3]; omega) (by rw [hy3]; exact Or.inl ⟨s2, s3⟩)
        refine qy_TP.pre (fc' := q_up (q_up fc 5 ((N + 1) + 1) (Int32.ofInt (6 : Int))) 6 ((N + 1) + 1) (Int32.ofInt sv)) (ρ' := ρ') (g' := zPT_s_p6.1) (w' := zPT_s_p6.2.1) (lo' := zPT_s_p6.2.2.1) (st' := []) ?_ (fun ws h => by
          have h1 := h.rf (c := 19) (t := 0) (N := 90) (κ := 5) (kn := []) (or := []) (a := qa 70) (x := .inl 6) (z := ((((N + 1) + 1) : Nat) : Int) + 0) (y := 6) rfl (by decide +kernel) (q_vs a1) rfl rfl rfl
          have h2 := h1.rf (c := 20) (t := 0) (N := 90) (κ := 6) (kn := []) (or := []) (a := qa 71) (x := qa 72) (z := ((((N + 1) + 1) : Nat) : Int) + 0) (y := sv) rfl (by decide +kernel) (q_vs a2) (q_vs s1) rfl rfl
          rw [eq] at h2
          exact h2.chg (i := 2) (e := .inr (.inr (.inl (1, 1600, [(1, .negSucc 127, 127)], [(qa 56, qa 69)])))) rfl (fun q hq => qy_kdrop hq)) (fun h => h) (fun _ _ h => h) (fun _ h => h)
        have b66 := hL.n (i := 66) (d := 0) List.mem_cons_self e66
        have b67 := hL.n (i := 67) (d := 0) (List.mem_cons_of_mem _ List.mem_cons_self) e67
        have b68 := hL.n (i := 68) (d := 1) (List.mem_cons_of_mem _ (List.mem_cons_of_mem _ List.mem_cons_self)) e68
        have hlp : ρ'.length = 73 := hgE.len rfl
        refine qs_lnkB (fa_cons (hgo _) fa_nil) hT hA zPg_p6 (fa_cons (fun ρ2 htk3 hL2 _ _ => ⟨fun rv hrv => ?_, fun q hq => ?_⟩) (fa_cons (fun ρ2 htk3 hL2 _ _ => ⟨fun rv hrv => ?_, fun q hq => ?_⟩) fa_nil))
        · refine ⟨by rw [htk3]; exact ht2, Or.inr (Or.inl ⟨((N + 1) + 1) + 1, T, B + 1, M, htk, by omega, hJ1, Or.inl ⟨rfl, ?_, ?_, ?_⟩⟩)⟩
          · rw [hL2.n (i := 68) (d := 0) (List.mem_cons_of_mem _ List.mem_cons_self) b66]; exact congrArg some (by omega)
          · rw [hL2.n (i := 69) (d := 0) (List.mem_cons_of_mem _ (List.mem_cons_of_mem _ List.mem_cons_self)) b67]; exact congrArg some (by omega)
          · rw [hL2.n (i := 70) (d := 0) (List.mem_cons_of_mem _ (List.mem_cons_of_mem _ (List.mem_cons_of_mem _ List.mem_cons_self))) b68]; exact congrArg some (by omega)
        · have hq : (Sum.inl _ : Option qV ⊕ (Nat × qL × List qV)) = Sum.inr q := hq
          cases hq
        · refine ⟨by rw [htk3]; exact ht2, Or.inr (Or.inl ⟨((N + 1) + 1) + 1, T, B + 1, M, htk, by omega, hJ1, Or.inr ⟨rfl, ?_, ?_, ?_⟩⟩)⟩
          · rw [hL2.n (i := 71) (d := 0) List.mem_cons_self b66]; exact congrArg some (by omega)
          · rw [hL2.n (i := 72) (d := 0) (List.mem_cons_of_mem _ List.mem_cons_self) b67]; exact congrArg some (by omega)
          · rw [hL2.n (i := 73) (d := 0) (List.mem_cons_of_mem _ (List.mem_cons_of_mem _ List.mem_cons_self)) b68]; exact congrArg some (by omega)
        · have hq : (Sum.inl _ : Option qV ⊕ (Nat × qL × List qV)) = Sum.inr q := hq
          cases hq
    · by_cases hv2 : (fc 5 (N + 1)).toInt ≤ 2
      · have hv3 : 1 ≤ (fc 5 (N + 1)).toInt := by omega
        refine qy_TP.pre (ρ' := ρ ++ [(fc 5 (N + 1)).toInt, (fc 6 (N + 1)).toInt]) (g' := zPT_s_l6a.1) (w' := zPT_s_l6a.2.1) (lo' := zPT_s_l6a.2.2.1) (st' := zPT_s_l6a.2.2.2) ?_ hw
          (fun h => h.to _ [(66, 560, 859), (67, 0, 7), (68, 2, 39), (72, 1, 2), (73, (.negSucc 2147483647), 2147483647)] [] (by decide +kernel) rfl (by decide +kernel) (fa_ex e66 (by omega) (by omega) (fa_ex e67 (by omega) (by omega) (fa_ex e68 (by omega) (by omega) (fa_ex (q_ap0 hl) (by omega) (by omega) (fa_ex (q_ap1 hl) hy.1 hy.2 fa_nil))))) fa_nil) (fun _ _ h => h.mono he) (fun _ h => h.mono he)
        refine qs_lnkB fa_nil hT hA zPg_l6a (fa_cons (fun ρ' htk2 hL hgE _ => ⟨fun rv hrv => ?r0, fun q hq => ?c0⟩) fa_nil)
        case r0 =>
          have hrv : (Sum.inr _ : Option qV ⊕ (Nat × qL × List qV)) = Sum.inl rv := hrv
          cases hrv
        case c0 =>
          have hq : (Sum.inr _ : Option qV ⊕ (Nat × qL × List qV)) = Sum.inr q := hq
          cases hq
          have ht2 : ρ'.take 66 = ρb := by rw [htk2, List.take_append_of_le_length (by omega)]; exact ht
          have a1 := hL.n (i := 70) (d := 0) (List.mem_cons_of_mem _ (List.mem_cons_of_mem _ (List.mem_cons_of_mem _ (List.mem_cons_of_mem _ List.mem_cons_self)))) e68
          have a2 := hL.n (i := 71) (d := 0) (List.mem_cons_of_mem _ (List.mem_cons_of_mem _ (List.mem_cons_of_mem _ (List.mem_cons_of_mem _ (List.mem_cons_of_mem _ List.mem_cons_self))))) e68
          obtain ⟨sv, s1, s2, s3⟩ := hgE.2.1 72 (37, 62) rfl
          have hx3 : (Int32.ofInt (6 : Int)).toInt = 6 := q_i32of (by omega) (by omega)
          have hy3 : (Int32.ofInt sv).toInt = sv := q_i32of (by omega) (by omega)
          have eq : q_up (q_up fc 5 (((((N + 1) + 1) : Nat) : Int) + 0).toNat (Int32.ofInt (6 : Int))) 6 (((((N + 1) + 1) : Nat) : Int) + 0).toNat (Int32.ofInt sv) = q_up (q_up fc 5 ((N + 1) + 1) (Int32.ofInt (6 : Int))) 6 ((N + 1) + 1) (Int32.ofInt sv) := by rw [Int.add_zero, Int.toNat_natCast]
          have hJ1 := hj_psh hJ (x := Int32.ofInt (6 : Int)) (y := Int32.ofInt sv) (by rw [hx3]; omega) (by rw [hy3]; exact Or.inl ⟨s2, s3⟩)
          refine qy_TP.pre (fc' := q_up (q_up fc 5 ((N + 1) + 1) (Int32.ofInt (6 : Int))) 6 ((N + 1) + 1) (Int32.ofInt sv)) (ρ' := ρ') (g' := zPT_s_p6.1) (w' := zPT_s_p6.2.1) (lo' := zPT_s_p6.2.2.1) (st' := []) ?_ (fun ws h => by
            have h1 := h.rf (c := 19) (t := 0) (N := 90) (κ := 5) (kn := []) (or := []) (a := qa 70) (x := .inl 6) (z := ((((N + 1) + 1) : Nat) : Int) + 0) (y := 6) rfl (by decide +kernel) (q_vs a1) rfl rfl rfl
            have h2 := h1.rf (c := 20) (t := 0) (N := 90) (κ := 6) (kn := []) (or := []) (a := qa 71) (x := qa 72) (z := ((((N + 1) + 1) : Nat) : Int) + 0) (y := sv) rfl (by decide +kernel) (q_vs a2) (q_vs s1) rfl rfl
            rw [eq] at h2
            exact h2.chg (i := 2) (e := .inr (.inr (.inl (1, 1600, [(1, .negSucc 127, 127)], [(qa 56, qa 69)])))) rfl (fun q hq => qy_kdrop hq)) (fun h => h) (fun _ _ h => h) (fun _ h => h)
          have b66 := hL.n (i := 66) (d := 0) List.mem_cons_self e66
          have b67 := hL.n (i := 67) (d := 0) (List.mem_cons_of_mem _ List.mem_cons_self) e67
          have b68 := hL.n (i := 68) (d := 1) (List.mem_cons_of_mem _ (List.mem_cons_of_mem _ List.mem_cons_self)) e68
          have hlp : ρ'.length = 73 := hgE.len rfl
          refine qs_lnkB (fa_cons (hgo _) fa_nil) hT hA zPg_p6 (fa_cons (fun ρ2 htk3 hL2 _ _ => ⟨fun rv hrv => ?_, fun q hq => ?_⟩) (fa_cons (fun ρ2 htk3 hL2 _ _ => ⟨fun rv hrv => ?_, fun q hq => ?_⟩) fa_nil))
          · refine ⟨by rw [htk3]; exact ht2, Or.inr (Or.inl ⟨((N + 1) + 1) + 1, T, B + 1, M, htk, by omega, hJ1, Or.inl ⟨rfl, ?_, ?_, ?_⟩⟩)⟩
            · rw [hL2.n (i := 68) (d := 0) (List.mem_cons_of_mem _ List.mem_cons_self) b66]; exact congrArg some (by omega)
            · rw [hL2.n (i := 69) (d := 0) (List.mem_cons_of_mem _ (List.mem_cons_of_mem _ List.mem_cons_self)) b67]; exact congrArg some (by omega)
            · rw [hL2.n (i := 70) (d := 0) (List.mem_cons_of_mem _ (List.mem_cons_of_mem _ (List.mem_cons_of_mem _ List.mem_cons_self))) b68]; exact congrArg some (by omega)
          · have hq : (Sum.inl _ : Option qV ⊕ (Nat × qL × List qV)) = Sum.inr q := hq
            cases hq
          · refine ⟨by rw [htk3]; exact ht2, Or.inr (Or.inl ⟨((N + 1) + 1) + 1, T, B + 1, M, htk, by omega, hJ1, Or.inr ⟨rfl, ?_, ?_, ?_⟩⟩)⟩
            · rw [hL2.n (i := 71) (d := 0) List.mem_cons_self b66]; exact congrArg some (by omega)
            · rw [hL2.n (i := 72) (d := 0) (List.mem_cons_of_mem _ List.mem_cons_self) b67]; exact congrArg some (by omega)
            · rw [hL2.n (i := 73) (d := 0) (List.mem_cons_of_mem _ (List.mem_cons_of_mem _ List.mem_cons_self)) b68]; exact congrArg some (by omega)
          · have hq : (Sum.inl _ : Option qV ⊕ (Nat × qL × List qV)) = Sum.inr q := hq
            cases hq
      · have hv3 : 4 ≤ (fc 5 (N + 1)).toInt := by omega
        refine qy_TP.pre (ρ' := ρ ++ [(fc 5 (N + 1)).toInt, (fc 6 (N + 1)).toInt]) (g' := zPT_s_l6c.1) (w' := zPT_s_l6c.2.1) (lo' := zPT_s_l6c.2.2.1) (st' := zPT_s_l6c.2.2.2) ?_ hw
          (fun h => h.to _ [(66, 560, 859), (67, 0, 7), (68, 2, 39), (72, 4, 6), (73, (.negSucc 2147483647), 2147483647)] [] (by decide +kernel) rfl (by decide +kernel) (fa_ex e66 (by omega) (by omega) (fa_ex e67 (by omega) (by omega) (fa_ex e68 (by omega) (by omega) (fa_ex (q_ap0 hl) (by omega) (by omega) (fa_ex (q_ap1 hl) hy.1 hy.2 fa_nil))))) fa_nil) (fun _ _ h => h.mono he) (fun _ h => h.mono he)
        refine qs_lnkB fa_nil hT hA zPg_l6c (fa_cons (fun ρ' htk2 hL hgE _ => ⟨fun rv hrv => ?r0, fun q hq => ?c0⟩) (fa_cons (fun ρ' htk2 hL hgE _ => ⟨fun rv hrv => ?r1, fun q hq => ?c1⟩) fa_nil))
        case r0 =>
          have hrv : (Sum.inr _ : Option qV ⊕ (Nat × qL × List qV)) = Sum.inl rv := hrv
          cases hrv
        case c0 =>
          have hq : (Sum.inr _ : Option qV ⊕ (Nat × qL × List qV)) = Sum.inr q := hq
          cases hq
          have ht2 : ρ'.take 66 = ρb := by rw [htk2, List.take_append_of_le_length (by omega)]; exact ht
          have a1 := hL.n (i := 70) (d := 0) (List.mem_cons_of_mem _ (List.mem_cons_of_mem _ (List.mem_cons_of_mem _ (List.mem_cons_of_mem _ List.mem_cons_self)))) e66
          have a2 := hL.n (i := 71) (d := 0) (List.mem_cons_of_mem _ (List.mem_cons_of_mem _ (List.mem_cons_of_mem _ (List.mem_cons_of_mem _ (List.mem_cons_of_mem _ List.mem_cons_self))))) (q_ap1 hl)
          obtain ⟨T1, B1, hT1, hT2, hJ1⟩ := hj_pop hJ (by omega) (by omega)
          have eq : q_up fc 0 (((560 + M : Nat) : Int) + 0).toNat (Int32.ofInt ((fc 6 (N + 1)).toInt + 0)) = q_up fc 0 (560 + M) (fc 6 (N + 1)) := by rw [Int.add_zero, Int.add_zero, Int.toNat_natCast, Int32.ofInt_toInt]
          refine qy_TP.pre (fc' := q_up fc 0 (560 + M) (fc 6 (N + 1))) (ρ' := ρ') (g' := zPT_pop6.1) (w' := zPT_L6.2.1) (lo' := zPT_L6.2.2.1) (st' := []) ?_ (fun ws h => by
            have := h.rf (c := 17) (t := 0) (N := 1120) (κ := 0) (kn := []) (or := []) (a := qa 70) (x := qa 71) (z := ((560 + M : Nat) : Int) + 0) (y := (fc 6 (N + 1)).toInt + 0) rfl (by decide +kernel) (q_vs a1) (q_vs a2) rfl rfl
            rw [eq] at this
            exact this) (fun h => h) (fun _ _ h => h) (fun _ h => h)
          refine ih _ ρ' T1 B1 (M + 1) (by omega) ht2 ?_ ?_ ?_ hJ1
          · rw [hL.n (i := 66) (d := 1) List.mem_cons_self e66]; exact congrArg some (by omega)
          · rw [hL.n (i := 67) (d := 0) (List.mem_cons_of_mem _ List.mem_cons_self) e67]; exact congrArg some (by omega)
          · rw [hL.n (i := 68) (d := -1) (List.mem_cons_of_mem _ (List.mem_cons_of_mem _ List.mem_cons_self)) e68]; exact congrArg some (by omega)
        case r1 =>
          have hrv : (Sum.inr _ : Option qV ⊕ (Nat × qL × List qV)) = Sum.inl rv := hrv
          cases hrv
        case c1 =>
          have hq : (Sum.inr _ : Option qV ⊕ (Nat × qL × List qV)) = Sum.inr q := hq
          cases hq
          have ht2 : ρ'.take 66 = ρb := by rw [htk2, List.take_append_of_le_length (by omega)]; exact ht
          have a1 := hL.n (i := 70) (d := 0) (List.mem_cons_of_mem _ (List.mem_cons_of_mem _ (List.mem_cons_of_mem _ (List.mem_cons_of_mem _ List.mem_cons_self)))) e68
          have a2 := hL.n (i := 71) (d := 0) (List.mem_cons_of_mem _ (List.mem_cons_of_mem _ (List.mem_cons_of_mem _ (List.mem_cons_of_mem _ (List.mem_cons_of_mem _ List.mem_cons_self))))) e68
          obtain ⟨sv, s1, s2, s3⟩ := hgE.2.1 72 (37, 62) rfl
          have hx3 : (Int32.ofInt (6 : Int)).toInt = 6 := q_i32of (by omega) (by omega)
          have hy3 : (Int32.ofInt sv).toInt = sv := q_i32of (by omega) (by omega)
          have eq : q_up (q_up fc 5 (((((N + 1) + 1) : Nat) : Int) + 0).toNat (Int32.ofInt (6 : Int))) 6 (((((N + 1) + 1) : Nat) : Int) + 0).toNat (Int32.ofInt sv) = q_up (q_up fc 5 ((N + 1) + 1) (Int32.ofInt (6 : Int))) 6 ((N + 1) + 1) (Int32.ofInt sv) := by rw [Int.add_zero, Int.toNat_natCast]
          have hJ1 := hj_psh hJ (x := Int32.ofInt (6 : Int)) (y := Int32.ofInt sv) (by rw [hx3]; omega) (by rw [hy3]; exact Or.inl ⟨s2, s3⟩)
          refine qy_TP.pre (fc' := q_up (q_up fc 5 ((N + 1) + 1) (Int32.ofInt (6 : Int))) 6 ((N + 1) + 1) (Int32.ofInt sv)) (ρ' := ρ') (g' := zPT_s_p6.1) (w' := zPT_s_p6.2.1) (lo' := zPT_s_p6.2.2.1) (st' := []) ?_ (fun ws h => by
            have h1 := h.rf (c := 19) (t := 0) (N := 90) (κ := 5) (kn := []) (or := []) (a := qa 70) (x := .inl 6) (z := ((((N + 1) + 1) : Nat) : Int) + 0) (y := 6) rfl (by decide +kernel) (q_vs a1) rfl rfl rfl
            have h2 := h1.rf (c := 20) (t := 0) (N := 90) (κ := 6) (kn := []) (or := []) (a := qa 71) (x := qa 72) (z := ((((N + 1) + 1) : Nat) : Int) + 0) (y := sv) rfl (by decide +kernel) (q_vs a2) (q_vs s1) rfl rfl
            rw [eq] at h2
            exact h2.chg (i := 2) (e := .inr (.inr (.inl (1, 1600, [(1, .negSucc 127, 127)], [(qa 56, qa 69)])))) rfl (fun q hq => qy_kdrop hq)) (fun h => h) (fun _ _ h => h) (fun _ h => h)
          have b66 := hL.n (i := 66) (d := 0) List.mem_cons_self e66
          have b67 := hL.n (i := 67) (d := 0) (List.mem_cons_of_mem _ List.mem_cons_self) e67
          have b68 := hL.n (i := 68) (d := 1) (List.mem_cons_of_mem _ (List.mem_cons_of_mem _ List.mem_cons_self)) e68
          have hlp : ρ'.length = 73 := hgE.len rfl
          refine qs_lnkB (fa_cons (hgo _) fa_nil) hT hA zPg_p6 (fa_cons (fun ρ2 htk3 hL2 _ _ => ⟨fun rv hrv => ?_, fun q hq => ?_⟩) (fa_cons (fun ρ2 htk3 hL2 _ _ => ⟨fun rv hrv => ?_, fun q hq => ?_⟩) fa_nil))
          · refine ⟨by rw [htk3]; exact ht2, Or.inr (Or.inl ⟨((N + 1) + 1) + 1, T, B + 1, M, htk, by omega, hJ1, Or.inl ⟨rfl, ?_, ?_, ?_⟩⟩)⟩
            · rw [hL2.n (i := 68) (d := 0) (List.mem_cons_of_mem _ List.mem_cons_self) b66]; exact congrArg some (by omega)
            · rw [hL2.n (i := 69) (d := 0) (List.mem_cons_of_mem _ (List.mem_cons_of_mem _ List.mem_cons_self)) b67]; exact congrArg some (by omega)
            · rw [hL2.n (i := 70) (d := 0) (List.mem_cons_of_mem _ (List.mem_cons_of_mem _ (List.mem_cons_of_mem _ List.mem_cons_self))) b68]; exact congrArg some (by omega)
          · have hq : (Sum.inl _ : Option qV ⊕ (Nat × qL × List qV)) = Sum.inr q := hq
            cases hq
          · refine ⟨by rw [htk3]; exact ht2, Or.inr (Or.inl ⟨((N + 1) + 1) + 1, T, B + 1, M, htk, by omega, hJ1, Or.inr ⟨rfl, ?_, ?_, ?_⟩⟩)⟩
            · rw [hL2.n (i := 71) (d := 0) List.mem_cons_self b66]; exact congrArg some (by omega)
            · rw [hL2.n (i := 72) (d := 0) (List.mem_cons_of_mem _ List.mem_cons_self) b67]; exact congrArg some (by omega)
            · rw [hL2.n (i := 73) (d := 0) (List.mem_cons_of_mem _ (List.mem_cons_of_mem _ List.mem_cons_self)) b68]; exact congrArg some (by omega)
          · have hq : (Sum.inl _ : Option qV ⊕ (Nat × qL × List qV)) = Sum.inr q := hq
            cases hq
end zPLOOP
