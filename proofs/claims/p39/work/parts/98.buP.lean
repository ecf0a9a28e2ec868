/-! behindUnit() of the reference, by program (wip/p44/emb.py) -/
section zPBU
variable {ex : Nat → Value} {D : va_G} {as : List Nat} {tys : List (ClassId × FieldType)}
theorem zPbu (hT : zk_t) (hA : zk_a) (hgo : ∀ fc, qy_V ex (qΓ1 fc) D as tys zPk2) {fc fc0 : Nat → Nat → Int32} {ρ : List Int} {N T B M U : Nat} (h61 : ρ[61]? = some ((560 + M : Nat) : Int)) (h62 : ρ[62]? = some (T : Int)) (h63 : ρ[63]? = some ((N + 1 : Nat) : Int)) (hJ : hj_J fc fc0 560 (N + 1) T B M U false) :
    qy_TP ex D as tys 10 187 fc ρ zPT_s_b0.1 zPT_s_b0.2.1 zPT_s_b0.2.2.1 zPT_s_b0.2.2.2 0 (zPPB fc0 ρ (N + 1) U) := by
  refine qy_TP.intro fun _ hg => ?_
  have hl : ρ.length = 66 := hg.len rfl
  have hbd := hj_bd hJ
  refine qs_lnkB fa_nil hT hA zPg_b0 (fa_cons (fun ρ' htk2 hL hgE hwE => ⟨fun rv hrv => ?r0, fun q hq => ?c0⟩) (fa_cons (fun ρ' htk2 hL hgE hwE => ⟨fun rv hrv => ?r1, fun q hq => ?c1⟩) (fa_cons (fun ρ' htk2 hL hgE hwE => ⟨fun rv hrv => ?r2, fun q hq => ?c2⟩) (fa_cons (fun ρ' htk2 hL hgE hwE => ⟨fun rv hrv => ?r3, fun q hq => ?c3⟩) (fa_cons (fun ρ' htk2 hL hgE hwE => ⟨fun rv hrv => ?r4, fun q hq => ?c4⟩) (fa_cons (fun ρ' htk2 hL hgE hwE => ⟨fun rv hrv => ?r5, fun q hq => ?c5⟩) fa_nil))))))
  case r0 =>
    have hrv : (Sum.inr _ : Option qV ⊕ (Nat × qL × List qV)) = Sum.inl rv := hrv
    cases hrv
  case c0 =>
    have hq : (Sum.inr _ : Option qV ⊕ (Nat × qL × List qV)) = Sum.inr q := hq
    cases hq
    have ht : ρ'.take 66 = ρ := by rw [htk2, List.take_of_length_le (by omega)]
    have hl2 : ρ'.length = 67 := hgE.len rfl
    obtain ⟨hM, hcls, hrun⟩ := qs_vc (ex := ex) hT hA (k := 187) (pc := 11) rfl
    refine qy_TP.call (d := 9) (cs := [.inr (.inr (.inl (some 0)))]) (st := []) (av := [(0, .inr (.inr (.inl (some 0))))]) hM hcls hrun rfl rfl (by decide) (by decide +kernel) (Or.inr (Or.inr ⟨by decide, 0, 0, [], _, rfl, rfl⟩)) (zPic hT hA (N := N + 1) hJ.2.2.2.1 hJ.2.2.2.2.1 (by omega) (by omega) (q_tkb ht h63)) (fun f r o ho => ⟨ho.2.1, some (qa 67), by rw [ho.2.2]⟩) ?_
    intro fc2 ρ2 o rv ho hrv _ _
    obtain ⟨hf2, hq2, ho2⟩ := ho
    rw [ho2] at hrv
    rw [hf2, ho2]
    have hrv : (Sum.inl (some (qa 67)) : Option qV ⊕ (Nat × qL × List qV)) = Sum.inl rv := hrv
    cases hrv
    have ht2 : ρ2.take 66 = ρ := by obtain ⟨r2, rfl⟩ := hq2; rw [List.take_append_of_le_length (by omega)]; exact ht
    refine qs_lnkB (ρ := ρ2) fa_nil hT hA zPg_b14 (fa_cons (fun ρ' htk2 hL hgE hwE => ⟨fun rv hrv => ?_, fun q hq => ?_⟩) (fa_cons (fun ρ' htk2 hL hgE hwE => ⟨fun rv hrv => ?_, fun q hq => ?_⟩) fa_nil))
    · have hrv : (Sum.inr _ : Option qV ⊕ (Nat × qL × List qV)) = Sum.inl rv := hrv
      cases hrv
    · have hq : (Sum.inr _ : Option qV ⊕ (Nat × qL × List qV)) = Sum.inr q := hq
      cases hq
      have g61 := q_tkb ht2 h61
      have g62 := q_tkb ht2 h62
      have g63 := q_tkb ht2 h63
      have ht : ρ'.take 66 = ρ := by rw [htk2]; exact ht2
      have hl2 : ρ'.length = 70 := hgE.len rfl
      have he : qe ρ' (ρ' ++ [0, 0]) := ⟨_, rfl⟩
      have ht3 : (ρ' ++ [0, 0]).take 66 = ρ := by rw [List.take_append_of_le_length (by omega)]; exact ht
      have htk : ∃ tk, ρ[58]? = some tk ∧ 1 ≤ tk := by
        obtain ⟨tk, t1, t2, -⟩ := hgE.2.1 58 (5, 5) rfl
        have t2 : (5 : Int) ≤ tk := t2
        rw [← ht, List.getElem?_take, if_pos (by omega)]
        exact ⟨tk, t1, by omega⟩
      refine qy_TP.pre (ρ' := ρ' ++ [0, 0]) (g' := zPT_pop4.1) (w' := zPT_L4.2.1) (lo' := zPT_L4.2.2.1) (st' := []) ?_ (fun ws h => h.mono he) (fun h => h.to _ [(70, (.negSucc 2147483647), 2147483647), (71, (.negSucc 2147483647), 2147483647)] [] (by decide +kernel) rfl (by decide +kernel) (fa_ex (q_ap0 hl2) (by decide) (by decide) (fa_ex (q_ap1 hl2) (by decide) (by decide) fa_nil)) fa_nil) (fun _ _ h => h.mono he) (fun _ h => h.mono he)
      refine zPl4 hT hA hgo htk N fc (ρ' ++ [0, 0]) T B M (Nat.le_refl _) ht3 (he.at ?_) (he.at ?_) (he.at ?_) hJ
      · rw [hL.n (i := 66) (d := 0) List.mem_cons_self g61]; exact congrArg some (by omega)
      · rw [hL.n (i := 67) (d := 0) (List.mem_cons_of_mem _ List.mem_cons_self) g62]; exact congrArg some (by omega)
      · rw [hL.n (i := 68) (d := 0) (List.mem_cons_of_mem _ (List.mem_cons_of_mem _ List.mem_cons_self)) g63]; exact congrArg some (by omega)
    · exact ⟨by rw [htk2]; exact ht2, Or.inl ⟨hj_frJ hJ, Or.inr rfl⟩⟩
    · have hq : (Sum.inl _ : Option qV ⊕ (Nat × qL × List qV)) = Sum.inr q := hq
      cases hq
  case r1 =>
    have hrv : (Sum.inr _ : Option qV ⊕ (Nat × qL × List qV)) = Sum.inl rv := hrv
    cases hrv
  case c1 =>
    have hq : (Sum.inr _ : Option qV ⊕ (Nat × qL × List qV)) = Sum.inr q := hq
    cases hq
    have ht : ρ'.take 66 = ρ := by rw [htk2, List.take_of_length_le (by omega)]
    have hl2 : ρ'.length = 69 := hgE.len rfl
    have he : qe ρ' (ρ' ++ [0, 0]) := ⟨_, rfl⟩
    have ht3 : (ρ' ++ [0, 0]).take 66 = ρ := by rw [List.take_append_of_le_length (by omega)]; exact ht
    refine qy_TP.pre (ρ' := ρ' ++ [0, 0]) (g' := zPT_pop0.1) (w' := zPT_L0.2.1) (lo' := zPT_L0.2.2.1) (st' := []) ?_ (fun ws h => h.mono he) (fun h => h.to _ [(69, (.negSucc 2147483647), 2147483647), (70, (.negSucc 2147483647), 2147483647)] [] (by decide +kernel) rfl (by decide +kernel) (fa_ex (q_ap0 hl2) (by decide) (by decide) (fa_ex (q_ap1 hl2) (by decide) (by decide) fa_nil)) fa_nil) (fun _ _ h => h.mono he) (fun _ h => h.mono he)
    refine zPl0 hT hA hgo N fc (ρ' ++ [0, 0]) T B M (Nat.le_refl _) ht3 (he.at ?_) (he.at ?_) (he.at ?_) hJ
    · rw [hL.n (i := 66) (d := 0) List.mem_cons_self h61]; exact congrArg some (by omega)
    · rw [hL.n (i := 67) (d := 0) (List.mem_cons_of_mem _ List.mem_cons_self) h62]; exact congrArg some (by omega)
    · rw [hL.n (i := 68) (d := 0) (List.mem_cons_of_mem _ (List.mem_cons_of_mem _ List.mem_cons_self)) h63]; exact congrArg some (by omega)
  case r2 =>
    have hrv : (Sum.inr _ : Option qV ⊕ (Nat × qL × List qV)) = Sum.inl rv := hrv
    cases hrv
  case c2 =>
    have hq : (Sum.inr _ : Option qV ⊕ (Nat × qL × List qV)) = Sum.inr q := hq
    cases hq
    have ht : ρ'.take 66 = ρ := by rw [htk2, List.take_of_length_le (by omega)]
    have hl2 : ρ'.length = 69 := hgE.len rfl
    have he : qe ρ' (ρ' ++ [0, 0]) := ⟨_, rfl⟩
    have ht3 : (ρ' ++ [0, 0]).take 66 = ρ := by rw [List.take_append_of_le_length (by omega)]; exact ht
    have htk : ∃ tk, ρ[58]? = some tk ∧ 1 ≤ tk := by
      obtain ⟨tk, t1, t2, -⟩ := hgE.2.1 58 (3, 3) rfl
      have t2 : (3 : Int) ≤ tk := t2
      rw [← ht, List.getElem?_take, if_pos (by omega)]
      exact ⟨tk, t1, by omega⟩
    refine qy_TP.pre (ρ' := ρ' ++ [0, 0]) (g' := zPT_pop1.1) (w' := zPT_L1.2.1) (lo' := zPT_L1.2.2.1) (st' := []) ?_ (fun ws h => h.mono he) (fun h => h.to _ [(69, (.negSucc 2147483647), 2147483647), (70, (.negSucc 2147483647), 2147483647)] [] (by decide +kernel) rfl (by decide +kernel) (fa_ex (q_ap0 hl2) (by decide) (by decide) (fa_ex (q_ap1 hl2) (by decide) (by decide) fa_nil)) fa_nil) (fun _ _ h => h.mono he) (fun _ h => h.mono he)
    refine zPl1 hT hA hgo htk N fc (ρ' ++ [0, 0]) T B M (Nat.le_refl _) ht3 (he.at ?_) (he.at ?_) (he.at ?_) hJ
    · rw [hL.n (i := 66) (d := 0) List.mem_cons_self h61]; exact congrArg some (by omega)
    · rw [hL.n (i := 67) (d := 0) (List.mem_cons_of_mem _ List.mem_cons_self) h62]; exact congrArg some (by omega)
    · rw [hL.n (i := 68) (d := 0) (List.mem_cons_of_mem _ (List.mem_cons_of_mem _ List.mem_cons_self)) h63]; exact congrArg some (by omega)
  case r3 =>
    have hrv : (Sum.inr _ : Option qV ⊕ (Nat × qL × List qV)) = Sum.inl rv := hrv
    cases hrv
  case c3 =>
    have hq : (Sum.inr _ : Option qV ⊕ (Nat × qL × List qV)) = Sum.inr q := hq
    cases hq
    have ht : ρ'.take 66 = ρ := by rw [htk2, List.take_of_length_le (by omega)]
    have hl2 : ρ'.length = 69 := hgE.len rfl
    have he : qe ρ' (ρ' ++ [0, 0]) := ⟨_, rfl⟩
    have ht3 : (ρ' ++ [0, 0]).take 66 = ρ := by rw [List.take_append_of_le_length (by omega)]; exact ht
    have htk : ∃ tk, ρ[58]? = some tk ∧ 1 ≤ tk := by
      obtain ⟨tk, t1, t2, -⟩ := hgE.2.1 58 (3, 3) rfl
      have t2 : (3 : Int) ≤ tk := t2
      rw [← ht, List.getElem?_take, if_pos (by omega)]
      exact ⟨tk, t1, by omega⟩
    refine qy_TP.pre (ρ' := ρ' ++ [0, 0]) (g' := zPT_pop2.1) (w' := zPT_L2.2.1) (lo' := zPT_L2.2.2.1) (st' := []) ?_ (fun ws h => h.mono he) (fun h => h.to _ [(69, (.negSucc 2147483647), 2147483647), (70, (.negSucc 2147483647), 2147483647)] [] (by decide +kernel) rfl (by decide +kernel) (fa_ex (q_ap0 hl2) (by decide) (by decide) (fa_ex (q_ap1 hl2) (by decide) (by decide) fa_nil)) fa_nil) (fun _ _ h => h.mono he) (fun _ h => h.mono he)
    refine zPl2 hT hA hgo htk N fc (ρ' ++ [0, 0]) T B M (Nat.le_refl _) ht3 (he.at ?_) (he.at ?_) (he.at ?_) hJ
    · rw [hL.n (i := 66) (d := 0) List.mem_cons_self h61]; exact congrArg some (by omega)
    · rw [hL.n (i := 67) (d := 0) (List.mem_cons_of_mem _ List.mem_cons_self) h62]; exact congrArg some (by omega)
    · rw [hL.n (i := 68) (d := 0) (List.mem_cons_of_mem _ (List.mem_cons_of_mem _ List.mem_cons_self)) h63]; exact congrArg some (by omega)
  case r4 =>
    have hrv : (Sum.inr _ : Option qV ⊕ (Nat × qL × List qV)) = Sum.inl rv := hrv
    cases hrv
  case c4 =>
    have hq : (Sum.inr _ : Option qV ⊕ (Nat × qL × List qV)) = Sum.inr q := hq
    cases hq
    have ht : ρ'.take 66 = ρ := by rw [htk2, List.take_of_length_le (by omega)]
    have hl2 : ρ'.length = 70 := hgE.len rfl
    have he : qe ρ' (ρ' ++ [0, 0]) := ⟨_, rfl⟩
    have ht3 : (ρ' ++ [0, 0]).take 66 = ρ := by rw [List.take_append_of_le_length (by omega)]; exact ht
    have htk : ∃ tk, ρ[58]? = some tk ∧ 1 ≤ tk := by
      obtain ⟨tk, t1, t2, -⟩ := hgE.2.1 58 (5, 5) rfl
      have t2 : (5 : Int) ≤ tk := t2
      rw [← ht, List.getElem?_take, if_pos (by omega)]
      exact ⟨tk, t1, by omega⟩
    refine qy_TP.pre (ρ' := ρ' ++ [0, 0]) (g' := zPT_pop5.1) (w' := zPT_L5.2.1) (lo' := zPT_L5.2.2.1) (st' := []) ?_ (fun ws h => h.mono he) (fun h => h.to _ [(70, (.negSucc 2147483647), 2147483647), (71, (.negSucc 2147483647), 2147483647)] [] (by decide +kernel) rfl (by decide +kernel) (fa_ex (q_ap0 hl2) (by decide) (by decide) (fa_ex (q_ap1 hl2) (by decide) (by decide) fa_nil)) fa_nil) (fun _ _ h => h.mono he) (fun _ h => h.mono he)
    refine zPl5 hT hA hgo htk N fc (ρ' ++ [0, 0]) T B M (Nat.le_refl _) ht3 (he.at ?_) (he.at ?_) (he.at ?_) hJ
    · rw [hL.n (i := 66) (d := 0) List.mem_cons_self h61]; exact congrArg some (by omega)
    · rw [hL.n (i := 67) (d := 0) (List.mem_cons_of_mem _ List.mem_cons_self) h62]; exact congrArg some (by omega)
    · rw [hL.n (i := 68) (d := 0) (List.mem_cons_of_mem _ (List.mem_cons_of_mem _ List.mem_cons_self)) h63]; exact congrArg some (by omega)
  case r5 =>
    have hrv : (Sum.inr _ : Option qV ⊕ (Nat × qL × List qV)) = Sum.inl rv := hrv
    cases hrv
  case c5 =>
    have hq : (Sum.inr _ : Option qV ⊕ (Nat × qL × List qV)) = Sum.inr q := hq
    cases hq
    have ht : ρ'.take 66 = ρ := by rw [htk2, List.take_of_length_le (by omega)]
    have hl2 : ρ'.length = 70 := hgE.len rfl
    have he : qe ρ' (ρ' ++ [0, 0]) := ⟨_, rfl⟩
    have ht3 : (ρ' ++ [0, 0]).take 66 = ρ := by rw [List.take_append_of_le_length (by omega)]; exact ht
    have htk : ∃ tk, ρ[58]? = some tk ∧ 1 ≤ tk := by
      obtain ⟨tk, t1, t2, -⟩ := hgE.2.1 58 (5, 5) rfl
      have t2 : (5 : Int) ≤ tk := t2
      rw [← ht, List.getElem?_take, if_pos (by omega)]
      exact ⟨tk, t1, by omega⟩
    refine qy_TP.pre (ρ' := ρ' ++ [0, 0]) (g' := zPT_pop6.1) (w' := zPT_L6.2.1) (lo' := zPT_L6.2.2.1) (st' := []) ?_ (fun ws h => h.mono he) (fun h => h.to _ [(70, (.negSucc 2147483647), 2147483647), (71, (.negSucc 2147483647), 2147483647)] [] (by decide +kernel) rfl (by decide +kernel) (fa_ex (q_ap0 hl2) (by decide) (by decide) (fa_ex (q_ap1 hl2) (by decide) (by decide) fa_nil)) fa_nil) (fun _ _ h => h.mono he) (fun _ h => h.mono he)
    refine zPl6 hT hA hgo htk N fc (ρ' ++ [0, 0]) T B M (Nat.le_refl _) ht3 (he.at ?_) (he.at ?_) (he.at ?_) hJ
    · rw [hL.n (i := 66) (d := 0) List.mem_cons_self h61]; exact congrArg some (by omega)
    · rw [hL.n (i := 67) (d := 0) (List.mem_cons_of_mem _ List.mem_cons_self) h62]; exact congrArg some (by omega)
    · rw [hL.n (i := 68) (d := 0) (List.mem_cons_of_mem _ (List.mem_cons_of_mem _ List.mem_cons_self)) h63]; exact congrArg some (by omega)
end zPBU
