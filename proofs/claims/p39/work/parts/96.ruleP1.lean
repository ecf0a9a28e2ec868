/-! isCompared() of the reference, by hand (wip/p44/tmpl) -/
section zPIC
variable {ex : Nat → Value} {D : va_G} {as : List Nat} {tys : List (ClassId × FieldType)}
theorem zPic (hT : zk_t) (hA : zk_a) {fc : Nat → Nat → Int32} {ρ : List Int} {N : Nat} (hX0 : (fc 5 0).toInt = 8) (hX : ∀ i, 0 < i → i < N → hj_e (fc 5 i).toInt (fc 6 i).toInt) (hN : 1 ≤ N) (hN2 : N ≤ 39) (hP : ρ[63]? = some (N : Int)) :
    qy_TP ex D as tys 9 230 fc ρ zPT_C11.1 zPT_C11.2.1 [(0, .inr (.inr (.inl (some 0))))] [] 0 (fun fc' ρ' o => fc' = fc ∧ qe ρ ρ' ∧ o = (zPT_IR.1, zPT_IR.2.1, .inl (some (qa 67)))) := by
  refine qy_TP.intro fun _ hg => ?_
  have hl : ρ.length = 67 := hg.len rfl
  have ret : ∀ {ρ1 ρ' : List Int}, ρ1.take 67 = ρ → ρ'.take 67 = ρ1.take 67 → qe ρ ρ' := fun {ρ1 ρ'} h1 h2 => ⟨ρ'.drop 67, by rw [← h1, ← h2, List.take_append_drop]⟩
  have loop : ∀ (k : Nat) (ρ1 : List Int), k < N → ρ1.take 67 = ρ → ρ1[67]? = some (k : Int) → qy_TP ex D as tys 9 230 fc ρ1 zPT_T7.1 zPT_T7.2.1 zPT_T7.2.2.1 zPT_T7.2.2.2 7 (fun fc' ρ' o => fc' = fc ∧ qe ρ ρ' ∧ o = (zPT_IR.1, zPT_IR.2.1, .inl (some (qa 67)))) := by
    intro k
    induction k with
    | zero =>
      intro ρ1 hk ht h67
      refine qy_TP.intro fun _ hg1 => ?_
      have hl1 : ρ1.length = 68 := hg1.len rfl
      have he : qe ρ1 (ρ1 ++ [(fc 5 0).toInt]) := ⟨_, rfl⟩
      refine qy_TP.pre (ρ' := ρ1 ++ [(fc 5 0).toInt]) (g' := zPT_s_i7.1) (w' := zPT_s_i7.2.1) (lo' := zPT_s_i7.2.2.1) (st' := zPT_s_i7.2.2.2) ?_
        (fun ws h => (h.mono he).chg (i := 19) (e := .inr (.inr (.inr (0, 90, 5, [], [])))) rfl (fun q hq => qy_knw (i := 0) (qy_kns (he.at h67)) (by decide) (by decide) (qy_kns (q_ap0 hl1)) hq))
        (fun h => h.to _ [(67, 0, 39), (68, 7, 8)] [] (by decide +kernel) rfl (by decide +kernel) (fa_ex (he.at h67) (by omega) (by omega) (fa_ex (q_ap0 hl1) (by rw [hX0]; decide) (by rw [hX0]; decide) fa_nil)) fa_nil)
        (fun _ _ h => h.mono he) (fun _ h => h.mono he)
      refine qs_lnkB fa_nil hT hA zPg_i7 (fa_cons (fun ρ' htk hL _ _ => ⟨fun rv hrv => ⟨rfl, ret ht (by rw [htk, List.take_append_of_le_length (by omega)]), rfl⟩, fun q hq => ?_⟩) fa_nil)
      have hq : (Sum.inl (some (qa 67)) : Option qV ⊕ (Nat × qL × List qV)) = Sum.inr q := hq
      cases hq
    | succ k ih =>
      intro ρ1 hk ht h67
      refine qy_TP.intro fun _ hg1 => ?_
      have hl1 : ρ1.length = 68 := hg1.len rfl
      have he : qe ρ1 (ρ1 ++ [(fc 5 (k + 1)).toInt]) := ⟨_, rfl⟩
      have hi : (Int32.ofInt ((k + 1 : Nat) : Int)).toInt = ((k + 1 : Nat) : Int) := q_i32of (by omega) (by omega)
      have hw : ∀ ws, qy_w ρ1 ex fc tys as zPT_T7.2.1 ws → qy_w (ρ1 ++ [(fc 5 (k + 1)).toInt]) ex fc tys as (zPT_T7.2.1.set 19 (.inr (.inr (.inr (0, 90, 5, [(qa 67, qa 68)], []))))) ws := fun ws h => (h.mono he).chg (i := 19) (e := .inr (.inr (.inr (0, 90, 5, [], [])))) rfl (fun q hq => qy_knw (i := Int32.ofInt ((k + 1 : Nat) : Int)) (qy_kns (by rw [hi]; exact he.at h67)) (by rw [hi]; omega) (by rw [hi]; show _ < ((90 : Nat) : Int); omega) (qy_kns (by rw [hi, Int.toNat_natCast]; exact q_ap0 hl1)) hq)
      have fin : ∀ {q : qSp}, (7 ≤ (fc 5 (k + 1)).toInt ∧ (fc 5 (k + 1)).toInt ≤ 8) ∨ (1 ≤ (fc 5 (k + 1)).toInt ∧ (fc 5 (k + 1)).toInt ≤ 4) → qy_TP ex D as tys 9 230 fc ρ1 zPT_T7.1 zPT_T7.2.1 zPT_T7.2.2.1 zPT_T7.2.2.2 7 (fun fc' ρ' o => fc' = fc ∧ qe ρ ρ' ∧ o = (zPT_IR.1, zPT_IR.2.1, .inl (some (qa 67)))) := by
        intro _ hv
        rcases hv with ⟨v1, v2⟩ | ⟨v1, v2⟩
        · refine qy_TP.pre (ρ' := ρ1 ++ [(fc 5 (k + 1)).toInt]) (g' := zPT_s_i7.1) (w' := zPT_s_i7.2.1) (lo' := zPT_s_i7.2.2.1) (st' := zPT_s_i7.2.2.2) ?_ hw
            (fun h => h.to _ [(67, 0, 39), (68, 7, 8)] [] (by decide +kernel) rfl (by decide +kernel) (fa_ex (he.at h67) (by omega) (by omega) (fa_ex (q_ap0 hl1) v1 v2 fa_nil)) fa_nil) (fun _ _ h => h.mono he) (fun _ h => h.mono he)
          refine qs_lnkB fa_nil hT hA zPg_i7 (fa_cons (fun ρ' htk hL _ _ => ⟨fun rv hrv => ⟨rfl, ret ht (by rw [htk, List.take_append_of_le_length (by omega)]), rfl⟩, fun q hq => ?_⟩) fa_nil)
          have hq : (Sum.inl (some (qa 67)) : Option qV ⊕ (Nat × qL × List qV)) = Sum.inr q := hq
          cases hq
        · refine qy_TP.pre (ρ' := ρ1 ++ [(fc 5 (k + 1)).toInt]) (g' := zPT_s_i1.1) (w' := zPT_s_i1.2.1) (lo' := zPT_s_i1.2.2.1) (st' := zPT_s_i1.2.2.2) ?_ hw
            (fun h => h.to _ [(67, 0, 39), (68, 1, 4)] [] (by decide +kernel) rfl (by decide +kernel) (fa_ex (he.at h67) (by omega) (by omega) (fa_ex (q_ap0 hl1) v1 v2 fa_nil)) fa_nil) (fun _ _ h => h.mono he) (fun _ h => h.mono he)
          refine qs_lnkB fa_nil hT hA zPg_i1 (fa_cons (fun ρ' htk hL _ _ => ⟨fun rv hrv => ⟨rfl, ret ht (by rw [htk, List.take_append_of_le_length (by omega)]), rfl⟩, fun q hq => ?_⟩) fa_nil)
          have hq : (Sum.inl (some (qa 67)) : Option qV ⊕ (Nat × qL × List qV)) = Sum.inr q := hq
          cases hq
      have hx := hX (k + 1) (by omega) hk
      by_cases h56 : 5 ≤ (fc 5 (k + 1)).toInt ∧ (fc 5 (k + 1)).toInt ≤ 6
      · refine qy_TP.pre (ρ' := ρ1 ++ [(fc 5 (k + 1)).toInt]) (g' := zPT_s_i5.1) (w' := zPT_s_i5.2.1) (lo' := zPT_s_i5.2.2.1) (st' := zPT_s_i5.2.2.2) ?_ hw
          (fun h => h.to _ [(67, 1, 39), (68, 5, 6)] [] (by decide +kernel) rfl (by decide +kernel) (fa_ex (he.at h67) (by omega) (by omega) (fa_ex (q_ap0 hl1) h56.1 h56.2 fa_nil)) fa_nil) (fun _ _ h => h.mono he) (fun _ h => h.mono he)
        refine qs_lnkB fa_nil hT hA zPg_i5 (fa_cons (fun ρ' htk hL _ _ => ⟨fun rv hrv => ?_, fun q hq => ?_⟩) fa_nil)
        · have hrv : (Sum.inr (7, zPT_T7.2.2.1, zPT_T7.2.2.2) : Option qV ⊕ (Nat × qL × List qV)) = Sum.inl rv := hrv
          cases hrv
        · have hq : (Sum.inr (7, zPT_T7.2.2.1, zPT_T7.2.2.2) : Option qV ⊕ (Nat × qL × List qV)) = Sum.inr q := hq
          cases hq
          refine ih ρ' (by omega) (by rw [htk, List.take_append_of_le_length (by omega)]; exact ht) ?_
          rw [hL.n (i := 67) List.mem_cons_self (he.at h67)]
          congr 1
          omega
      · refine fin (q := []) ?_
        rcases hx with ⟨z, -⟩ | z | ⟨z, -⟩ <;> omega
  refine qs_lnkB fa_nil hT hA zPg_i0 (fa_cons (fun ρ' htk hL _ _ => ⟨fun rv hrv => ?_, fun q hq => ?_⟩) fa_nil)
  · have hrv : (Sum.inr (7, zPT_T7.2.2.1, zPT_T7.2.2.2) : Option qV ⊕ (Nat × qL × List qV)) = Sum.inl rv := hrv
    cases hrv
  · have hq : (Sum.inr (7, zPT_T7.2.2.1, zPT_T7.2.2.2) : Option qV ⊕ (Nat × qL × List qV)) = Sum.inr q := hq
    cases hq
    refine loop (N - 1) ρ' (by omega) (by rw [htk, List.take_of_length_le (by omega)]) ?_
    rw [hL.n (i := 67) List.mem_cons_self hP]
    congr 1
    omega
end zPIC
