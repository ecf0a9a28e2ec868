/-! layMoves() of the reference by hand, by program (wip/p44/emmov.py) -/
theorem q_l6 {ρ : List Int} {ex : Nat → Value} {as : List Nat} {ls : Array Slot} {nL n : Nat} {a : qV} {x : Int} (hl : ρ.length = n) (h : qy_l ρ ex as ls nL [(0, a), (1, .inl x)]) : qy_l (ρ ++ [x]) ex as ls nL [(0, a), (1, .inr (.inl (n, 1, 0)))] := by
  have h1 := h.mono (ρ' := ρ ++ [x]) ⟨[x], rfl⟩
  refine ⟨h1.1, h1.2.1, fa_cons (h1.2.2 _ List.mem_cons_self) (fa_cons ?_ fa_nil)⟩
  obtain ⟨v, v1, i, v2, v3⟩ := h.2.2 _ (List.mem_cons_of_mem _ List.mem_cons_self)
  exact ⟨v, v1, i, x, v2, q_ap0 hl, by show i.toInt = 1 * x + 0; rw [v3]; omega⟩
section zSM
variable {ex : Nat → Value} {Γ : qΓ} {D : va_G} {as : List Nat} {tys : List (ClassId × FieldType)}
def zSMP (fc : Nat → Nat → Int32) (ρ0 : List Int) : qP := fun fc' ρ' o => fc' = fc ∧ qe ρ0 ρ' ∧ o ∈ q_po zSk75
theorem zSmloop (hT : zk_t) (hA : zk_a) {fc : Nat → Nat → Int32} {ρ0 : List Int} : ∀ m : Nat, (∀ (ρ : List Int) (n : Int), ρ.take 45 = ρ0 → ρ[45]? = some n → n ≤ 64 → 1000 * (64 - n) + 999 < (m : Int) → qy_TP ex D as tys 2 250 fc ρ zST_ms_a.1 zST_ms_a.2.1 zST_ms_a.2.2.1 zST_ms_a.2.2.2 33 (zSMP fc ρ0)) ∧ (∀ (ρ : List Int) (n i : Int), ρ.take 45 = ρ0 → ρ[45]? = some n → ρ[46]? = some i → n ≤ 63 → i ≤ 64 → 1000 * (64 - n) + 10 * (64 - i) + 9 < (m : Int) → qy_TP ex D as tys 2 250 fc ρ zST_mB.1 zST_mB.2.1 zST_mB.2.2.1 zST_mB.2.2.2 41 (zSMP fc ρ0)) ∧ (∀ (ρ : List Int) (n i j : Int), ρ.take 45 = ρ0 → ρ[45]? = some n → ρ[46]? = some i → ρ[47]? = some j → n ≤ 63 → i ≤ 63 → j ≤ 4 → 1000 * (64 - n) + 10 * (64 - i) + (4 - j) < (m : Int) → qy_TP ex D as tys 2 250 fc ρ zST_mC.1 zST_mC.2.1 zST_mC.2.2.1 zST_mC.2.2.2 49 (zSMP fc ρ0)) := by
  intro m
  induction m with
  | zero =>
    refine ⟨fun ρ n _ _ h1 h2 => ?_, fun ρ n i _ _ _ h1 h2 h3 => ?_, fun ρ n i j _ _ _ _ h1 h2 h3 h4 => ?_⟩ <;> (exfalso; omega)
  | succ m ih =>
    refine ⟨fun ρ n ht hn h1 h2 => ?_, fun ρ n i ht hn hi h1 h2 h3 => ?_, fun ρ n i j ht hn hi hj h1 h2 h3 h4 => ?_⟩
    · skip
      refine qs_lnkB (p := 45) (ρ := ρ) fa_nil hT hA zSg_ma (fa_cons (fun ρ1 ht1 hL hg1 _ => ⟨fun rv hrv => ?r0, fun q hq => ?c0⟩) (fa_cons (fun ρ1 ht1 hL hg1 _ => ⟨fun rv hrv => ?r1, fun q hq => ?c1⟩) fa_nil))
      case r0 =>
        have hrv : (Sum.inr _ : Option qV ⊕ (Nat × qL × List qV)) = Sum.inl rv := hrv
        cases hrv
      case c0 =>
        have hq : (Sum.inr _ : Option qV ⊕ (Nat × qL × List qV)) = Sum.inr q := hq
        cases hq
        have ln := (hL.n (i := 45) (d := 0) List.mem_cons_self hn)
        have li := (hL.l (i := 46) (z := 0) (List.mem_cons_of_mem _ List.mem_cons_self))
        have rn : (6 : Int) ≤ n + 0 ∧ n + 0 ≤ 63 := hg1.rng (i := 45) (r := (6, 63)) rfl ln
        exact ih.2.1 ρ1 n 0 (by rw [ht1]; exact ht) (by rw [ln]; exact congrArg some (by omega)) li (by omega) (by omega) (by omega)
      case r1 =>
        exact ⟨rfl, ⟨ρ1.drop 45, by rw [← ht, ← ht1, List.take_append_drop]⟩, List.mem_cons_self⟩
      case c1 =>
        have hq : (Sum.inl _ : Option qV ⊕ (Nat × qL × List qV)) = Sum.inr q := hq
        cases hq
    · skip
      refine qs_lnkB (p := 45) (ρ := ρ) fa_nil hT hA zSg_mb (fa_cons (fun ρ1 ht1 hL hg1 _ => ⟨fun rv hrv => ?r0, fun q hq => ?c0⟩) (fa_cons (fun ρ1 ht1 hL hg1 _ => ⟨fun rv hrv => ?r1, fun q hq => ?c1⟩) fa_nil))
      case r0 =>
        have hrv : (Sum.inr _ : Option qV ⊕ (Nat × qL × List qV)) = Sum.inl rv := hrv
        cases hrv
      case c0 =>
        have hq : (Sum.inr _ : Option qV ⊕ (Nat × qL × List qV)) = Sum.inr q := hq
        cases hq
        have ln := (hL.n (i := 45) (d := 0) List.mem_cons_self hn)
        have li := (hL.n (i := 46) (d := 0) (List.mem_cons_of_mem _ List.mem_cons_self) hi)
        have lj := (hL.l (i := 47) (z := 0) (List.mem_cons_of_mem _ (List.mem_cons_of_mem _ List.mem_cons_self)))
        have ri : (0 : Int) ≤ i + 0 ∧ i + 0 ≤ 63 := hg1.rng (i := 46) (r := (0, 63)) rfl li
        exact ih.2.2 ρ1 n i 0 (by rw [ht1]; exact ht) (by rw [ln]; exact congrArg some (by omega)) (by rw [li]; exact congrArg some (by omega)) lj (by omega) (by omega) (by omega) (by omega)
      case r1 =>
        have hrv : (Sum.inr _ : Option qV ⊕ (Nat × qL × List qV)) = Sum.inl rv := hrv
        cases hrv
      case c1 =>
        have hq : (Sum.inr _ : Option qV ⊕ (Nat × qL × List qV)) = Sum.inr q := hq
        cases hq
        have ln := (hL.n (i := 45) (d := 1) List.mem_cons_self hn)
        exact ih.1 ρ1 (n + 1) (by rw [ht1]; exact ht) (by rw [ln]) (by omega) (by omega)
    · skip
      refine qs_lnkB (p := 45) (ρ := ρ) fa_nil hT hA zSg_mc (fa_cons (fun ρ1 ht1 hL hg1 _ => ⟨fun rv hrv => ?r0, fun q hq => ?c0⟩) (fa_cons (fun ρ1 ht1 hL hg1 _ => ⟨fun rv hrv => ?r1, fun q hq => ?c1⟩) fa_nil))
      case r0 =>
        have hrv : (Sum.inr _ : Option qV ⊕ (Nat × qL × List qV)) = Sum.inl rv := hrv
        cases hrv
      case c0 =>
        have hq : (Sum.inr _ : Option qV ⊕ (Nat × qL × List qV)) = Sum.inr q := hq
        cases hq
        have ln := (hL.n (i := 45) (d := 0) List.mem_cons_self hn)
        have li := (hL.n (i := 46) (d := 0) (List.mem_cons_of_mem _ List.mem_cons_self) hi)
        have lj := (hL.n (i := 47) (d := 1) (List.mem_cons_of_mem _ (List.mem_cons_of_mem _ List.mem_cons_self)) hj)
        have rj : (0 : Int) ≤ j + 1 ∧ j + 1 ≤ 4 := hg1.rng (i := 47) (r := (0, 4)) rfl lj
        exact ih.2.2 ρ1 n i (j + 1) (by rw [ht1]; exact ht) (by rw [ln]; exact congrArg some (by omega)) (by rw [li]; exact congrArg some (by omega)) lj (by omega) (by omega) (by omega) (by omega)
      case r1 =>
        have hrv : (Sum.inr _ : Option qV ⊕ (Nat × qL × List qV)) = Sum.inl rv := hrv
        cases hrv
      case c1 =>
        have hq : (Sum.inr _ : Option qV ⊕ (Nat × qL × List qV)) = Sum.inr q := hq
        cases hq
        have ln := (hL.n (i := 45) (d := 0) List.mem_cons_self hn)
        have li := (hL.n (i := 46) (d := 1) (List.mem_cons_of_mem _ List.mem_cons_self) hi)
        exact ih.2.1 ρ1 n (i + 1) (by rw [ht1]; exact ht) (by rw [ln]; exact congrArg some (by omega)) (by rw [li]) (by omega) (by omega) (by omega)
theorem zSmoves (hT : zk_t) (hA : zk_a) : qy_V ex Γ D as tys zSk75 := by
  refine qy_V.ofTP fun fc ρ hfc => qy_TP.intro fun _ hg => ?_
  have hl : ρ.length = 45 := hg.len rfl
  refine qy_TP.post (P1 := zSMP fc ρ) ?_ (fun fc' ρ' o h => ⟨h.2.2, h.2.1, by rw [h.1]; exact ⟨hfc, fun _ _ => rfl⟩⟩)
  refine qs_lnkB (p := 45) (ρ := ρ) fa_nil hT hA zSg_mm0 (fa_cons (fun ρ0 ht0 hL hg0 _ => ⟨fun rv hrv => ?r0, fun q hq => ?c0⟩) fa_nil)
  case r0 =>
    have hrv : (Sum.inr _ : Option qV ⊕ (Nat × qL × List qV)) = Sum.inl rv := hrv
    cases hrv
  case c0 =>
    have hq : (Sum.inr _ : Option qV ⊕ (Nat × qL × List qV)) = Sum.inr q := hq
    cases hq
    refine qs_lnkB (p := 45) (ρ := ρ0) fa_nil hT hA zSg_mm1 (fa_cons (fun ρ1 ht1 hL hg1 _ => ⟨fun rv hrv => ?r0, fun q hq => ?c0⟩) fa_nil)
    case r0 =>
      have hrv : (Sum.inr _ : Option qV ⊕ (Nat × qL × List qV)) = Sum.inl rv := hrv
      cases hrv
    case c0 =>
      have hq : (Sum.inr _ : Option qV ⊕ (Nat × qL × List qV)) = Sum.inr q := hq
      cases hq
      refine qs_lnkB (p := 45) (ρ := ρ1) fa_nil hT hA zSg_mm2 (fa_cons (fun ρ2 ht2 hL hg2 _ => ⟨fun rv hrv => ?r0, fun q hq => ?c0⟩) fa_nil)
      case r0 =>
        have hrv : (Sum.inr _ : Option qV ⊕ (Nat × qL × List qV)) = Sum.inl rv := hrv
        cases hrv
      case c0 =>
        have hq : (Sum.inr _ : Option qV ⊕ (Nat × qL × List qV)) = Sum.inr q := hq
        cases hq
        refine qs_lnkB (p := 45) (ρ := ρ2) fa_nil hT hA zSg_mm3 (fa_cons (fun ρ3 ht3 hL hg3 _ => ⟨fun rv hrv => ?r0, fun q hq => ?c0⟩) fa_nil)
        case r0 =>
          have hrv : (Sum.inr _ : Option qV ⊕ (Nat × qL × List qV)) = Sum.inl rv := hrv
          cases hrv
        case c0 =>
          have hq : (Sum.inr _ : Option qV ⊕ (Nat × qL × List qV)) = Sum.inr q := hq
          cases hq
          refine qs_lnkB (p := 45) (ρ := ρ3) fa_nil hT hA zSg_mm4 (fa_cons (fun ρ4 ht4 hL hg4 _ => ⟨fun rv hrv => ?r0, fun q hq => ?c0⟩) fa_nil)
          case r0 =>
            have hrv : (Sum.inr _ : Option qV ⊕ (Nat × qL × List qV)) = Sum.inl rv := hrv
            cases hrv
          case c0 =>
            have hq : (Sum.inr _ : Option qV ⊕ (Nat × qL × List qV)) = Sum.inr q := hq
            cases hq
            refine qs_lnkB (p := 45) (ρ := ρ4) fa_nil hT hA zSg_mm5 (fa_cons (fun ρ5 ht5 hL hg5 _ => ⟨fun rv hrv => ?r0, fun q hq => ?c0⟩) fa_nil)
            case r0 =>
              have hrv : (Sum.inr _ : Option qV ⊕ (Nat × qL × List qV)) = Sum.inl rv := hrv
              cases hrv
            case c0 =>
              have hq : (Sum.inr _ : Option qV ⊕ (Nat × qL × List qV)) = Sum.inr q := hq
              cases hq
              refine qs_lnkB (p := 45) (ρ := ρ5) fa_nil hT hA zSg_mm6 (fa_cons (fun ρ6 ht6 hL hg6 _ => ⟨fun rv hrv => ?r0, fun q hq => ?c0⟩) fa_nil)
              case r0 =>
                have hrv : (Sum.inr _ : Option qV ⊕ (Nat × qL × List qV)) = Sum.inl rv := hrv
                cases hrv
              case c0 =>
                have hq : (Sum.inr _ : Option qV ⊕ (Nat × qL × List qV)) = Sum.inr q := hq
                cases hq
                have ht : ρ6.take 45 = ρ := by rw [ht6, ht5, ht4, ht3, ht2, ht1, ht0]; exact List.take_of_length_le (by omega)
                have hl6 : ρ6.length = 45 := hg6.len rfl
                refine qy_TP.pre (ρ' := ρ6 ++ [6]) (g' := zST_ms_a.1) (w' := zST_ms_a.2.1) (lo' := zST_ms_a.2.2.1) (st' := zST_ms_a.2.2.2) ?_ (fun ws h => h.mono ⟨[6], rfl⟩) (fun h => h.to [6] [(45, 6, 6)] [] (by decide +kernel) rfl (by decide +kernel) (fa_ex (q_ap0 hl6) (Int.le_refl _) (Int.le_refl _) fa_nil) fa_nil) (fun ls nL h => q_l6 hl6 h) (fun _ h => h.mono ⟨[6], rfl⟩)
                exact (zSmloop hT hA 100000).1 (ρ6 ++ [6]) 6 (by rw [List.take_append_of_le_length (by omega)]; exact ht) (q_ap0 hl6) (by omega) (by omega)
end zSM
