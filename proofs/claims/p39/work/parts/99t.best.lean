/-! bestSeating() of the reference by hand, by program (wip/p44/embest.py) -/
section zSB0
variable {ex : Nat → Value} {Γ : qΓ} {D : va_G} {as : List Nat} {tys : List (ClassId × FieldType)}
def zSBP0 (fc : Nat → Nat → Int32) (ρ0 : List Int) : qP := fun fc' ρ' o => fc' = fc ∧ qe ρ0 ρ' ∧ o ∈ q_po zSk70
theorem zSbF0 (hT : zk_t) (hA : zk_a) {fc : Nat → Nat → Int32} (hh : qy_V ex (qΓ1 fc) D as tys zSk2) {ρ0 : List Int} (hl0 : ρ0.length = 45) : ∀ (m : Nat) (ρ : List Int) (v : Int), ρ.take 45 = ρ0 → ρ[52]? = some v → v ≤ 7776 → 7776 - v < (m : Int) → qy_TP ex D as tys 12 189 fc ρ zST_b0HF.1 zST_b0HF.2.1 zST_b0HF.2.2.1 zST_b0HF.2.2.2 13 (zSBP0 fc ρ0) := by
  intro m
  induction m with
  | zero => intro ρ v _ _ h1 h2; exfalso; omega
  | succ m ih =>
    intro ρ v ht hv h1 h2
    refine qs_lnkB (p := 45) (ρ := ρ) fa_nil hT hA zSg_b0hF (fa_cons (fun ρ1 ht1 hL hg1 _ => ⟨fun rv hrv => ?r0, fun q hq => ?c0⟩) (fa_cons (fun ρ1 ht1 hL hg1 _ => ⟨fun rv hrv => ?r1, fun q hq => ?c1⟩) fa_nil))
    case r0 =>
      have hrv : (Sum.inr _ : Option qV ⊕ (Nat × qL × List qV)) = Sum.inl rv := hrv
      cases hrv
    case c0 =>
      have hq : (Sum.inr _ : Option qV ⊕ (Nat × qL × List qV)) = Sum.inr q := hq
      cases hq
      have v1 := (hL.n (i := 52) (d := 0) (List.mem_cons_of_mem _ (List.mem_cons_of_mem _ (List.mem_cons_of_mem _ (List.mem_cons_of_mem _ (List.mem_cons_of_mem _ (List.mem_cons_of_mem _ (List.mem_cons_of_mem _ List.mem_cons_self))))))) hv)
      have v2 : (0 : Int) ≤ v + 0 ∧ v + 0 ≤ 7775 := hg1.rng (i := 52) (r := (0, 7775)) rfl v1
      refine qs_lnkB (p := 45) (ρ := ρ1) (fa_cons (zSh3 ex (qΓ1 fc) D as tys hT hA hh) (fa_cons (zSh4 ex (qΓ1 fc) D as tys hT hA) fa_nil)) hT hA zSg_b0bF (fa_cons (fun ρ2 ht2 hL hg2 _ => ⟨fun rv hrv => ?r0, fun q hq => ?c0⟩) fa_nil)
      case r0 =>
        have hrv : (Sum.inr _ : Option qV ⊕ (Nat × qL × List qV)) = Sum.inl rv := hrv
        cases hrv
      case c0 =>
        have hq : (Sum.inr _ : Option qV ⊕ (Nat × qL × List qV)) = Sum.inr q := hq
        cases hq
        have v3 := (hL.n (i := 52) (d := 1) (List.mem_cons_of_mem _ List.mem_cons_self) v1)
        exact ih ρ2 (v + 1) (by rw [ht2, ht1]; exact ht) (by rw [v3]; exact congrArg some (by omega)) (by omega) (by omega)
    case r1 =>
      exact ⟨rfl, ⟨ρ1.drop 45, by rw [← ht, ← ht1, List.take_append_drop]⟩, List.mem_cons_self⟩
    case c1 =>
      have hq : (Sum.inl _ : Option qV ⊕ (Nat × qL × List qV)) = Sum.inr q := hq
      cases hq
theorem zSbN0_0_0 (hT : zk_t) (hA : zk_a) {fc : Nat → Nat → Int32} (hh : qy_V ex (qΓ1 fc) D as tys zSk2) {ρ0 : List Int} (hl0 : ρ0.length = 45) (hx : ρ0[24]? = some (0 : Int)) (hf : ρ0[26]? = some (0 : Int)) {nv : Int} (hn : ρ0[44]? = some nv) (hn1 : -1 ≤ nv) (hn2 : nv ≤ -1) : ∀ (m : Nat) (ρ : List Int) (v : Int), ρ.take 45 = ρ0 → ρ[50]? = some v → 0 ≤ v → v ≤ 0 → 0 - v < (m : Int) → qy_TP ex D as tys 12 189 fc ρ zST_b0HN.1 zST_b0HN.2.1 zST_b0HN.2.2.1 zST_b0HN.2.2.2 13 (zSBP0 fc ρ0) := by
  intro m
  induction m with
  | zero => intro ρ v _ _ _ h1 h2; exfalso; omega
  | succ m ih =>
    intro ρ v ht hv h0 h1 h2
    have gx := q_tkb ht hx
    have gf := q_tkb ht hf
    have gn := q_tkb ht hn
    refine qy_TP.pre (ρ' := ρ) (g' := zST_b0s_h_0_0.1) (w' := zST_b0s_h_0_0.2.1) (lo' := zST_b0s_h_0_0.2.2.1) (st' := zST_b0s_h_0_0.2.2.2) ?_ (fun ws h => h) (fun h => h.to0 [(24, 0, 0), (26, 0, 0), (44, -1, -1), (50, 0, 0)] [] (by decide +kernel) rfl (by decide +kernel) (fa_ex gx (Int.le_refl _) (Int.le_refl _) (fa_ex gf (Int.le_refl _) (Int.le_refl _) (fa_ex gn hn1 hn2 (fa_ex hv (by omega) (by omega) fa_nil)))) fa_nil) (fun _ _ h => h) (fun _ h => h)
    refine qs_lnkB (p := 45) (ρ := ρ) fa_nil hT hA zSg_b0h_0_0 (fa_cons (fun ρ1 ht1 hL hg1 _ => ⟨fun rv hrv => ?r0, fun q hq => ?c0⟩) fa_nil)
    case r0 =>
      have hrv : (Sum.inr _ : Option qV ⊕ (Nat × qL × List qV)) = Sum.inl rv := hrv
      cases hrv
    case c0 =>
      have hq : (Sum.inr _ : Option qV ⊕ (Nat × qL × List qV)) = Sum.inr q := hq
      cases hq
      have v1 := (hL.n (i := 50) (d := 0) (List.mem_cons_of_mem _ (List.mem_cons_of_mem _ (List.mem_cons_of_mem _ (List.mem_cons_of_mem _ (List.mem_cons_of_mem _ List.mem_cons_self))))) hv)
      have ht1 : ρ1.take 45 = ρ0 := by rw [ht1]; exact ht
      rcases Int.lt_or_le v 0 with hlt | hge
      · skip
        refine qs_lnkB (p := 45) (ρ := ρ1) (fa_cons (zSh3 ex (qΓ1 fc) D as tys hT hA hh) (fa_cons (zSh4 ex (qΓ1 fc) D as tys hT hA) fa_nil)) hT hA zSg_b0bN (fa_cons (fun ρ2 ht2 hL hg2 _ => ⟨fun rv hrv => ?r0, fun q hq => ?c0⟩) (fa_cons (fun ρ2 ht2 hL hg2 _ => ⟨fun rv hrv => ?r1, fun q hq => ?c1⟩) fa_nil))
        case r0 =>
          have hrv : (Sum.inr _ : Option qV ⊕ (Nat × qL × List qV)) = Sum.inl rv := hrv
          cases hrv
        case c0 =>
          have hq : (Sum.inr _ : Option qV ⊕ (Nat × qL × List qV)) = Sum.inr q := hq
          cases hq
          have v3 := (hL.n (i := 50) (d := 1) (List.mem_cons_of_mem _ (List.mem_cons_of_mem _ (List.mem_cons_of_mem _ (List.mem_cons_of_mem _ (List.mem_cons_of_mem _ List.mem_cons_self))))) v1)
          exact ih ρ2 (v + 1) (by rw [ht2]; exact ht1) (by rw [v3]; exact congrArg some (by omega)) (by omega) (by omega) (by omega)
        case r1 =>
          have hrv : (Sum.inr _ : Option qV ⊕ (Nat × qL × List qV)) = Sum.inl rv := hrv
          cases hrv
        case c1 =>
          have hq : (Sum.inr _ : Option qV ⊕ (Nat × qL × List qV)) = Sum.inr q := hq
          cases hq
          have v3 := (hL.n (i := 52) (d := 1) (List.mem_cons_of_mem _ (List.mem_cons_of_mem _ List.mem_cons_self)) v1)
          exact zSbF0 hT hA hh hl0 7777 ρ2 (v + 1) (by rw [ht2]; exact ht1) (by rw [v3]; exact congrArg some (by omega)) (by omega) (by omega)
      · have gx := q_tkb ht1 hx
        have gf := q_tkb ht1 hf
        have gn := q_tkb ht1 hn
        refine qy_TP.pre (ρ' := ρ1) (g' := zST_b0s_h_0_0.1) (w' := zST_b0s_h_0_0.2.1) (lo' := zST_b0s_h_0_0.2.2.1) (st' := zST_b0s_h_0_0.2.2.2) ?_ (fun ws h => h) (fun h => h.to0 [(24, 0, 0), (26, 0, 0), (44, -1, -1), (50, 0, 0)] [] (by decide +kernel) rfl (by decide +kernel) (fa_ex gx (Int.le_refl _) (Int.le_refl _) (fa_ex gf (Int.le_refl _) (Int.le_refl _) (fa_ex gn hn1 hn2 (fa_ex v1 (by omega) (by omega) fa_nil)))) fa_nil) (fun _ _ h => h) (fun _ h => h)
        refine qs_lnkB (p := 45) (ρ := ρ1) fa_nil hT hA zSg_b0l_0_0 (fa_cons (fun ρ2 ht2 hL hg2 _ => ⟨fun rv hrv => ?r0, fun q hq => ?c0⟩) fa_nil)
        case r0 =>
          have hrv : (Sum.inr _ : Option qV ⊕ (Nat × qL × List qV)) = Sum.inl rv := hrv
          cases hrv
        case c0 =>
          have hq : (Sum.inr _ : Option qV ⊕ (Nat × qL × List qV)) = Sum.inr q := hq
          cases hq
          have v3 := (hL.l (i := 52) (z := 1) (List.mem_cons_of_mem _ (List.mem_cons_of_mem _ (List.mem_cons_of_mem _ (List.mem_cons_of_mem _ (List.mem_cons_of_mem _ (List.mem_cons_of_mem _ (List.mem_cons_of_mem _ List.mem_cons_self))))))))
          exact zSbF0 hT hA hh hl0 7777 ρ2 1 (by rw [ht2]; exact ht1) v3 (by omega) (by omega)
theorem zSbN0_0_1 (hT : zk_t) (hA : zk_a) {fc : Nat → Nat → Int32} (hh : qy_V ex (qΓ1 fc) D as tys zSk2) {ρ0 : List Int} (hl0 : ρ0.length = 45) (hx : ρ0[24]? = some (0 : Int)) (hf : ρ0[26]? = some (1 : Int)) {nv : Int} (hn : ρ0[44]? = some nv) (hn1 : -1 ≤ nv) (hn2 : nv ≤ 0) : ∀ (m : Nat) (ρ : List Int) (v : Int), ρ.take 45 = ρ0 → ρ[50]? = some v → 0 ≤ v → v ≤ 0 → 0 - v < (m : Int) → qy_TP ex D as tys 12 189 fc ρ zST_b0HN.1 zST_b0HN.2.1 zST_b0HN.2.2.1 zST_b0HN.2.2.2 13 (zSBP0 fc ρ0) := by
  intro m
  induction m with
  | zero => intro ρ v _ _ _ h1 h2; exfalso; omega
  | succ m ih =>
    intro ρ v ht hv h0 h1 h2
    have gx := q_tkb ht hx
    have gf := q_tkb ht hf
    have gn := q_tkb ht hn
    refine qy_TP.pre (ρ' := ρ) (g' := zST_b0s_h_0_1.1) (w' := zST_b0s_h_0_1.2.1) (lo' := zST_b0s_h_0_1.2.2.1) (st' := zST_b0s_h_0_1.2.2.2) ?_ (fun ws h => h) (fun h => h.to0 [(24, 0, 0), (26, 1, 1), (44, -1, 0), (50, 0, 0)] [] (by decide +kernel) rfl (by decide +kernel) (fa_ex gx (Int.le_refl _) (Int.le_refl _) (fa_ex gf (Int.le_refl _) (Int.le_refl _) (fa_ex gn hn1 hn2 (fa_ex hv (by omega) (by omega) fa_nil)))) fa_nil) (fun _ _ h => h) (fun _ h => h)
    refine qs_lnkB (p := 45) (ρ := ρ) fa_nil hT hA zSg_b0h_0_1 (fa_cons (fun ρ1 ht1 hL hg1 _ => ⟨fun rv hrv => ?r0, fun q hq => ?c0⟩) fa_nil)
    case r0 =>
      have hrv : (Sum.inr _ : Option qV ⊕ (Nat × qL × List qV)) = Sum.inl rv := hrv
      cases hrv
    case c0 =>
      have hq : (Sum.inr _ : Option qV ⊕ (Nat × qL × List qV)) = Sum.inr q := hq
      cases hq
      have v1 := (hL.n (i := 50) (d := 0) (List.mem_cons_of_mem _ (List.mem_cons_of_mem _ (List.mem_cons_of_mem _ (List.mem_cons_of_mem _ (List.mem_cons_of_mem _ List.mem_cons_self))))) hv)
      have ht1 : ρ1.take 45 = ρ0 := by rw [ht1]; exact ht
      rcases Int.lt_or_le v 0 with hlt | hge
      · skip
        refine qs_lnkB (p := 45) (ρ := ρ1) (fa_cons (zSh3 ex (qΓ1 fc) D as tys hT hA hh) (fa_cons (zSh4 ex (qΓ1 fc) D as tys hT hA) fa_nil)) hT hA zSg_b0bN (fa_cons (fun ρ2 ht2 hL hg2 _ => ⟨fun rv hrv => ?r0, fun q hq => ?c0⟩) (fa_cons (fun ρ2 ht2 hL hg2 _ => ⟨fun rv hrv => ?r1, fun q hq => ?c1⟩) fa_nil))
        case r0 =>
          have hrv : (Sum.inr _ : Option qV ⊕ (Nat × qL × List qV)) = Sum.inl rv := hrv
          cases hrv
        case c0 =>
          have hq : (Sum.inr _ : Option qV ⊕ (Nat × qL × List qV)) = Sum.inr q := hq
          cases hq
          have v3 := (hL.n (i := 50) (d := 1) (List.mem_cons_of_mem _ (List.mem_cons_of_mem _ (List.mem_cons_of_mem _ (List.mem_cons_of_mem _ (List.mem_cons_of_mem _ List.mem_cons_self))))) v1)
          exact ih ρ2 (v + 1) (by rw [ht2]; exact ht1) (by rw [v3]; exact congrArg some (by omega)) (by omega) (by omega) (by omega)
        case r1 =>
          have hrv : (Sum.inr _ : Option qV ⊕ (Nat × qL × List qV)) = Sum.inl rv := hrv
          cases hrv
        case c1 =>
          have hq : (Sum.inr _ : Option qV ⊕ (Nat × qL × List qV)) = Sum.inr q := hq
          cases hq
          have v3 := (hL.n (i := 52) (d := 1) (List.mem_cons_of_mem _ (List.mem_cons_of_mem _ List.mem_cons_self)) v1)
          exact zSbF0 hT hA hh hl0 7777 ρ2 (v + 1) (by rw [ht2]; exact ht1) (by rw [v3]; exact congrArg some (by omega)) (by omega) (by omega)
      · have gx := q_tkb ht1 hx
        have gf := q_tkb ht1 hf
        have gn := q_tkb ht1 hn
        refine qy_TP.pre (ρ' := ρ1) (g' := zST_b0s_h_0_1.1) (w' := zST_b0s_h_0_1.2.1) (lo' := zST_b0s_h_0_1.2.2.1) (st' := zST_b0s_h_0_1.2.2.2) ?_ (fun ws h => h) (fun h => h.to0 [(24, 0, 0), (26, 1, 1), (44, -1, 0), (50, 0, 0)] [] (by decide +kernel) rfl (by decide +kernel) (fa_ex gx (Int.le_refl _) (Int.le_refl _) (fa_ex gf (Int.le_refl _) (Int.le_refl _) (fa_ex gn hn1 hn2 (fa_ex v1 (by omega) (by omega) fa_nil)))) fa_nil) (fun _ _ h => h) (fun _ h => h)
        refine qs_lnkB (p := 45) (ρ := ρ1) (fa_cons (zSh5 ex (qΓ1 fc) D as tys hT hA) fa_nil) hT hA zSg_b0l_0_1 (fa_cons (fun ρ2 ht2 hL hg2 _ => ⟨fun rv hrv => ?r0, fun q hq => ?c0⟩) fa_nil)
        case r0 =>
          have hrv : (Sum.inr _ : Option qV ⊕ (Nat × qL × List qV)) = Sum.inl rv := hrv
          cases hrv
        case c0 =>
          have hq : (Sum.inr _ : Option qV ⊕ (Nat × qL × List qV)) = Sum.inr q := hq
          cases hq
          have v3 := (hL.l (i := 52) (z := 1) (List.mem_cons_of_mem _ (List.mem_cons_of_mem _ (List.mem_cons_of_mem _ (List.mem_cons_of_mem _ (List.mem_cons_of_mem _ (List.mem_cons_of_mem _ (List.mem_cons_of_mem _ List.mem_cons_self))))))))
          exact zSbF0 hT hA hh hl0 7777 ρ2 1 (by rw [ht2]; exact ht1) v3 (by omega) (by omega)
theorem zSbN0_0_2 (hT : zk_t) (hA : zk_a) {fc : Nat → Nat → Int32} (hh : qy_V ex (qΓ1 fc) D as tys zSk2) {ρ0 : List Int} (hl0 : ρ0.length = 45) (hx : ρ0[24]? = some (0 : Int)) (hf : ρ0[26]? = some (2 : Int)) {nv : Int} (hn : ρ0[44]? = some nv) (hn1 : -1 ≤ nv) (hn2 : nv ≤ 1) : ∀ (m : Nat) (ρ : List Int) (v : Int), ρ.take 45 = ρ0 → ρ[50]? = some v → 0 ≤ v → v ≤ 0 → 0 - v < (m : Int) → qy_TP ex D as tys 12 189 fc ρ zST_b0HN.1 zST_b0HN.2.1 zST_b0HN.2.2.1 zST_b0HN.2.2.2 13 (zSBP0 fc ρ0) := by
  intro m
  induction m with
  | zero => intro ρ v _ _ _ h1 h2; exfalso; omega
  | succ m ih =>
    intro ρ v ht hv h0 h1 h2
    have gx := q_tkb ht hx
    have gf := q_tkb ht hf
    have gn := q_tkb ht hn
    refine qy_TP.pre (ρ' := ρ) (g' := zST_b0s_h_0_2.1) (w' := zST_b0s_h_0_2.2.1) (lo' := zST_b0s_h_0_2.2.2.1) (st' := zST_b0s_h_0_2.2.2.2) ?_ (fun ws h => h) (fun h => h.to0 [(24, 0, 0), (26, 2, 2), (44, -1, 1), (50, 0, 0)] [] (by decide +kernel) rfl (by decide +kernel) (fa_ex gx (Int.le_refl _) (Int.le_refl _) (fa_ex gf (Int.le_refl _) (Int.le_refl _) (fa_ex gn hn1 hn2 (fa_ex hv (by omega) (by omega) fa_nil)))) fa_nil) (fun _ _ h => h) (fun _ h => h)
    refine qs_lnkB (p := 45) (ρ := ρ) fa_nil hT hA zSg_b0h_0_2 (fa_cons (fun ρ1 ht1 hL hg1 _ => ⟨fun rv hrv => ?r0, fun q hq => ?c0⟩) fa_nil)
    case r0 =>
      have hrv : (Sum.inr _ : Option qV ⊕ (Nat × qL × List qV)) = Sum.inl rv := hrv
      cases hrv
    case c0 =>
      have hq : (Sum.inr _ : Option qV ⊕ (Nat × qL × List qV)) = Sum.inr q := hq
      cases hq
      have v1 := (hL.n (i := 50) (d := 0) (List.mem_cons_of_mem _ (List.mem_cons_of_mem _ (List.mem_cons_of_mem _ (List.mem_cons_of_mem _ (List.mem_cons_of_mem _ List.mem_cons_self))))) hv)
      have ht1 : ρ1.take 45 = ρ0 := by rw [ht1]; exact ht
      rcases Int.lt_or_le v 0 with hlt | hge
      · skip
        refine qs_lnkB (p := 45) (ρ := ρ1) (fa_cons (zSh3 ex (qΓ1 fc) D as tys hT hA hh) (fa_cons (zSh4 ex (qΓ1 fc) D as tys hT hA) fa_nil)) hT hA zSg_b0bN (fa_cons (fun ρ2 ht2 hL hg2 _ => ⟨fun rv hrv => ?r0, fun q hq => ?c0⟩) (fa_cons (fun ρ2 ht2 hL hg2 _ => ⟨fun rv hrv => ?r1, fun q hq => ?c1⟩) fa_nil))
        case r0 =>
          have hrv : (Sum.inr _ : Option qV ⊕ (Nat × qL × List qV)) = Sum.inl rv := hrv
          cases hrv
        case c0 =>
          have hq : (Sum.inr _ : Option qV ⊕ (Nat × qL × List qV)) = Sum.inr q := hq
          cases hq
          have v3 := (hL.n (i := 50) (d := 1) (List.mem_cons_of_mem _ (List.mem_cons_of_mem _ (List.mem_cons_of_mem _ (List.mem_cons_of_mem _ (List.mem_cons_of_mem _ List.mem_cons_self))))) v1)
          exact ih ρ2 (v + 1) (by rw [ht2]; exact ht1) (by rw [v3]; exact congrArg some (by omega)) (by omega) (by omega) (by omega)
        case r1 =>
          have hrv : (Sum.inr _ : Option qV ⊕ (Nat × qL × List qV)) = Sum.inl rv := hrv
          cases hrv
        case c1 =>
          have hq : (Sum.inr _ : Option qV ⊕ (Nat × qL × List qV)) = Sum.inr q := hq
          cases hq
          have v3 := (hL.n (i := 52) (d := 1) (List.mem_cons_of_mem _ (List.mem_cons_of_mem _ List.mem_cons_self)) v1)
          exact zSbF0 hT hA hh hl0 7777 ρ2 (v + 1) (by rw [ht2]; exact ht1) (by rw [v3]; exact congrArg some (by omega)) (by omega) (by omega)
      · have gx := q_tkb ht1 hx
        have gf := q_tkb ht1 hf
        have gn := q_tkb ht1 hn
        refine qy_TP.pre (ρ' := ρ1) (g' := zST_b0s_h_0_2.1) (w' := zST_b0s_h_0_2.2.1) (lo' := zST_b0s_h_0_2.2.2.1) (st' := zST_b0s_h_0_2.2.2.2) ?_ (fun ws h => h) (fun h => h.to0 [(24, 0, 0), (26, 2, 2), (44, -1, 1), (50, 0, 0)] [] (by decide +kernel) rfl (by decide +kernel) (fa_ex gx (Int.le_refl _) (Int.le_refl _) (fa_ex gf (Int.le_refl _) (Int.le_refl _) (fa_ex gn hn1 hn2 (fa_ex v1 (by omega) (by omega) fa_nil)))) fa_nil) (fun _ _ h => h) (fun _ h => h)
        refine qs_lnkB (p := 45) (ρ := ρ1) (fa_cons (zSh6 ex (qΓ1 fc) D as tys hT hA) fa_nil) hT hA zSg_b0l_0_2 (fa_cons (fun ρ2 ht2 hL hg2 _ => ⟨fun rv hrv => ?r0, fun q hq => ?c0⟩) fa_nil)
        case r0 =>
          have hrv : (Sum.inr _ : Option qV ⊕ (Nat × qL × List qV)) = Sum.inl rv := hrv
          cases hrv
        case c0 =>
          have hq : (Sum.inr _ : Option qV ⊕ (Nat × qL × List qV)) = Sum.inr q := hq
          cases hq
          have v3 := (hL.l (i := 52) (z := 1) (List.mem_cons_of_mem _ (List.mem_cons_of_mem _ (List.mem_cons_of_mem _ (List.mem_cons_of_mem _ (List.mem_cons_of_mem _ (List.mem_cons_of_mem _ (List.mem_cons_of_mem _ List.mem_cons_self))))))))
          exact zSbF0 hT hA hh hl0 7777 ρ2 1 (by rw [ht2]; exact ht1) v3 (by omega) (by omega)
theorem zSbN0_0_3 (hT : zk_t) (hA : zk_a) {fc : Nat → Nat → Int32} (hh : qy_V ex (qΓ1 fc) D as tys zSk2) {ρ0 : List Int} (hl0 : ρ0.length = 45) (hx : ρ0[24]? = some (0 : Int)) (hf : ρ0[26]? = some (3 : Int)) {nv : Int} (hn : ρ0[44]? = some nv) (hn1 : -1 ≤ nv) (hn2 : nv ≤ 2) : ∀ (m : Nat) (ρ : List Int) (v : Int), ρ.take 45 = ρ0 → ρ[50]? = some v → 0 ≤ v → v ≤ 0 → 0 - v < (m : Int) → qy_TP ex D as tys 12 189 fc ρ zST_b0HN.1 zST_b0HN.2.1 zST_b0HN.2.2.1 zST_b0HN.2.2.2 13 (zSBP0 fc ρ0) := by
  intro m
  induction m with
  | zero => intro ρ v _ _ _ h1 h2; exfalso; omega
  | succ m ih =>
    intro ρ v ht hv h0 h1 h2
    have gx := q_tkb ht hx
    have gf := q_tkb ht hf
    have gn := q_tkb ht hn
    refine qy_TP.pre (ρ' := ρ) (g' := zST_b0s_h_0_3.1) (w' := zST_b0s_h_0_3.2.1) (lo' := zST_b0s_h_0_3.2.2.1) (st' := zST_b0s_h_0_3.2.2.2) ?_ (fun ws h => h) (fun h => h.to0 [(24, 0, 0), (26, 3, 3), (44, -1, 2), (50, 0, 0)] [] (by decide +kernel) rfl (by decide +kernel) (fa_ex gx (Int.le_refl _) (Int.le_refl _) (fa_ex gf (Int.le_refl _) (Int.le_refl _) (fa_ex gn hn1 hn2 (fa_ex hv (by omega) (by omega) fa_nil)))) fa_nil) (fun _ _ h => h) (fun _ h => h)
    refine qs_lnkB (p := 45) (ρ := ρ) fa_nil hT hA zSg_b0h_0_3 (fa_cons (fun ρ1 ht1 hL hg1 _ => ⟨fun rv hrv => ?r0, fun q hq => ?c0⟩) fa_nil)
    case r0 =>
      have hrv : (Sum.inr _ : Option qV ⊕ (Nat × qL × List qV)) = Sum.inl rv := hrv
      cases hrv
    case c0 =>
      have hq : (Sum.inr _ : Option qV ⊕ (Nat × qL × List qV)) = Sum.inr q := hq
      cases hq
      have v1 := (hL.n (i := 50) (d := 0) (List.mem_cons_of_mem _ (List.mem_cons_of_mem _ (List.mem_cons_of_mem _ (List.mem_cons_of_mem _ (List.mem_cons_of_mem _ List.mem_cons_self))))) hv)
      have ht1 : ρ1.take 45 = ρ0 := by rw [ht1]; exact ht
      rcases Int.lt_or_le v 0 with hlt | hge
      · skip
        refine qs_lnkB (p := 45) (ρ := ρ1) (fa_cons (zSh3 ex (qΓ1 fc) D as tys hT hA hh) (fa_cons (zSh4 ex (qΓ1 fc) D as tys hT hA) fa_nil)) hT hA zSg_b0bN (fa_cons (fun ρ2 ht2 hL hg2 _ => ⟨fun rv hrv => ?r0, fun q hq => ?c0⟩) (fa_cons (fun ρ2 ht2 hL hg2 _ => ⟨fun rv hrv => ?r1, fun q hq => ?c1⟩) fa_nil))
        case r0 =>
          have hrv : (Sum.inr _ : Option qV ⊕ (Nat × qL × List qV)) = Sum.inl rv := hrv
          cases hrv
        case c0 =>
          have hq : (Sum.inr _ : Option qV ⊕ (Nat × qL × List qV)) = Sum.inr q := hq
          cases hq
          have v3 := (hL.n (i := 50) (d := 1) (List.mem_cons_of_mem _ (List.mem_cons_of_mem _ (List.mem_cons_of_mem _ (List.mem_cons_of_mem _ (List.mem_cons_of_mem _ List.mem_cons_self))))) v1)
          exact ih ρ2 (v + 1) (by rw [ht2]; exact ht1) (by rw [v3]; exact congrArg some (by omega)) (by omega) (by omega) (by omega)
        case r1 =>
          have hrv : (Sum.inr _ : Option qV ⊕ (Nat × qL × List qV)) = Sum.inl rv := hrv
          cases hrv
        case c1 =>
          have hq : (Sum.inr _ : Option qV ⊕ (Nat × qL × List qV)) = Sum.inr q := hq
          cases hq
          have v3 := (hL.n (i := 52) (d := 1) (List.mem_cons_of_mem _ (List.mem_cons_of_mem _ List.mem_cons_self)) v1)
          exact zSbF0 hT hA hh hl0 7777 ρ2 (v + 1) (by rw [ht2]; exact ht1) (by rw [v3]; exact congrArg some (by omega)) (by omega) (by omega)
      · have gx := q_tkb ht1 hx
        have gf := q_tkb ht1 hf
        have gn := q_tkb ht1 hn
        refine qy_TP.pre (ρ' := ρ1) (g' := zST_b0s_h_0_3.1) (w' := zST_b0s_h_0_3.2.1) (lo' := zST_b0s_h_0_3.2.2.1) (st' := zST_b0s_h_0_3.2.2.2) ?_ (fun ws h => h) (fun h => h.to0 [(24, 0, 0), (26, 3, 3), (44, -1, 2), (50, 0, 0)] [] (by decide +kernel) rfl (by decide +kernel) (fa_ex gx (Int.le_refl _) (Int.le_refl _) (fa_ex gf (Int.le_refl _) (Int.le_refl _) (fa_ex gn hn1 hn2 (fa_ex v1 (by omega) (by omega) fa_nil)))) fa_nil) (fun _ _ h => h) (fun _ h => h)
        refine qs_lnkB (p := 45) (ρ := ρ1) (fa_cons (zSh7 ex (qΓ1 fc) D as tys hT hA) fa_nil) hT hA zSg_b0l_0_3 (fa_cons (fun ρ2 ht2 hL hg2 _ => ⟨fun rv hrv => ?r0, fun q hq => ?c0⟩) fa_nil)
        case r0 =>
          have hrv : (Sum.inr _ : Option qV ⊕ (Nat × qL × List qV)) = Sum.inl rv := hrv
          cases hrv
        case c0 =>
          have hq : (Sum.inr _ : Option qV ⊕ (Nat × qL × List qV)) = Sum.inr q := hq
          cases hq
          have v3 := (hL.l (i := 52) (z := 1) (List.mem_cons_of_mem _ (List.mem_cons_of_mem _ (List.mem_cons_of_mem _ (List.mem_cons_of_mem _ (List.mem_cons_of_mem _ (List.mem_cons_of_mem _ (List.mem_cons_of_mem _ List.mem_cons_self))))))))
          exact zSbF0 hT hA hh hl0 7777 ρ2 1 (by rw [ht2]; exact ht1) v3 (by omega) (by omega)
theorem zSbN0_0_4 (hT : zk_t) (hA : zk_a) {fc : Nat → Nat → Int32} (hh : qy_V ex (qΓ1 fc) D as tys zSk2) {ρ0 : List Int} (hl0 : ρ0.length = 45) (hx : ρ0[24]? = some (0 : Int)) (hf : ρ0[26]? = some (4 : Int)) {nv : Int} (hn : ρ0[44]? = some nv) (hn1 : -1 ≤ nv) (hn2 : nv ≤ 3) : ∀ (m : Nat) (ρ : List Int) (v : Int), ρ.take 45 = ρ0 → ρ[50]? = some v → 0 ≤ v → v ≤ 0 → 0 - v < (m : Int) → qy_TP ex D as tys 12 189 fc ρ zST_b0HN.1 zST_b0HN.2.1 zST_b0HN.2.2.1 zST_b0HN.2.2.2 13 (zSBP0 fc ρ0) := by
  intro m
  induction m with
  | zero => intro ρ v _ _ _ h1 h2; exfalso; omega
  | succ m ih =>
    intro ρ v ht hv h0 h1 h2
    have gx := q_tkb ht hx
    have gf := q_tkb ht hf
    have gn := q_tkb ht hn
    refine qy_TP.pre (ρ' := ρ) (g' := zST_b0s_h_0_4.1) (w' := zST_b0s_h_0_4.2.1) (lo' := zST_b0s_h_0_4.2.2.1) (st' := zST_b0s_h_0_4.2.2.2) ?_ (fun ws h => h) (fun h => h.to0 [(24, 0, 0), (26, 4, 4), (44, -1, 3), (50, 0, 0)] [] (by decide +kernel) rfl (by decide +kernel) (fa_ex gx (Int.le_refl _) (Int.le_refl _) (fa_ex gf (Int.le_refl _) (Int.le_refl _) (fa_ex gn hn1 hn2 (fa_ex hv (by omega) (by omega) fa_nil)))) fa_nil) (fun _ _ h => h) (fun _ h => h)
    refine qs_lnkB (p := 45) (ρ := ρ) fa_nil hT hA zSg_b0h_0_4 (fa_cons (fun ρ1 ht1 hL hg1 _ => ⟨fun rv hrv => ?r0, fun q hq => ?c0⟩) fa_nil)
    case r0 =>
      have hrv : (Sum.inr _ : Option qV ⊕ (Nat × qL × List qV)) = Sum.inl rv := hrv
      cases hrv
    case c0 =>
      have hq : (Sum.inr _ : Option qV ⊕ (Nat × qL × List qV)) = Sum.inr q := hq
      cases hq
      have v1 := (hL.n (i := 50) (d := 0) (List.mem_cons_of_mem _ (List.mem_cons_of_mem _ (List.mem_cons_of_mem _ (List.mem_cons_of_mem _ (List.mem_cons_of_mem _ List.mem_cons_self))))) hv)
      have ht1 : ρ1.take 45 = ρ0 := by rw [ht1]; exact ht
      rcases Int.lt_or_le v 0 with hlt | hge
      · skip
        refine qs_lnkB (p := 45) (ρ := ρ1) (fa_cons (zSh3 ex (qΓ1 fc) D as tys hT hA hh) (fa_cons (zSh4 ex (qΓ1 fc) D as tys hT hA) fa_nil)) hT hA zSg_b0bN (fa_cons (fun ρ2 ht2 hL hg2 _ => ⟨fun rv hrv => ?r0, fun q hq => ?c0⟩) (fa_cons (fun ρ2 ht2 hL hg2 _ => ⟨fun rv hrv => ?r1, fun q hq => ?c1⟩) fa_nil))
        case r0 =>
          have hrv : (Sum.inr _ : Option qV ⊕ (Nat × qL × List qV)) = Sum.inl rv := hrv
          cases hrv
        case c0 =>
          have hq : (Sum.inr _ : Option qV ⊕ (Nat × qL × List qV)) = Sum.inr q := hq
          cases hq
          have v3 := (hL.n (i := 50) (d := 1) (List.mem_cons_of_mem _ (List.mem_cons_of_mem _ (List.mem_cons_of_mem _ (List.mem_cons_of_mem _ (List.mem_cons_of_mem _ List.mem_cons_self))))) v1)
          exact ih ρ2 (v + 1) (by rw [ht2]; exact ht1) (by rw [v3]; exact congrArg some (by omega)) (by omega) (by omega) (by omega)
        case r1 =>
          have hrv : (Sum.inr _ : Option qV ⊕ (Nat × qL × List qV)) = Sum.inl rv := hrv
          cases hrv
        case c1 =>
          have hq : (Sum.inr _ : Option qV ⊕ (Nat × qL × List qV)) = Sum.inr q := hq
          cases hq
          have v3 := (hL.n (i := 52) (d := 1) (List.mem_cons_of_mem _ (List.mem_cons_of_mem _ List.mem_cons_self)) v1)
          exact zSbF0 hT hA hh hl0 7777 ρ2 (v + 1) (by rw [ht2]; exact ht1) (by rw [v3]; exact congrArg some (by omega)) (by omega) (by omega)
      · have gx := q_tkb ht1 hx
        have gf := q_tkb ht1 hf
        have gn := q_tkb ht1 hn
        refine qy_TP.pre (ρ' := ρ1) (g' := zST_b0s_h_0_4.1) (w' := zST_b0s_h_0_4.2.1) (lo' := zST_b0s_h_0_4.2.2.1) (st' := zST_b0s_h_0_4.2.2.2) ?_ (fun ws h => h) (fun h => h.to0 [(24, 0, 0), (26, 4, 4), (44, -1, 3), (50, 0, 0)] [] (by decide +kernel) rfl (by decide +kernel) (fa_ex gx (Int.le_refl _) (Int.le_refl _) (fa_ex gf (Int.le_refl _) (Int.le_refl _) (fa_ex gn hn1 hn2 (fa_ex v1 (by omega) (by omega) fa_nil)))) fa_nil) (fun _ _ h => h) (fun _ h => h)
        refine qs_lnkB (p := 45) (ρ := ρ1) (fa_cons (zSh8 ex (qΓ1 fc) D as tys hT hA) fa_nil) hT hA zSg_b0l_0_4 (fa_cons (fun ρ2 ht2 hL hg2 _ => ⟨fun rv hrv => ?r0, fun q hq => ?c0⟩) fa_nil)
        case r0 =>
          have hrv : (Sum.inr _ : Option qV ⊕ (Nat × qL × List qV)) = Sum.inl rv := hrv
          cases hrv
        case c0 =>
          have hq : (Sum.inr _ : Option qV ⊕ (Nat × qL × List qV)) = Sum.inr q := hq
          cases hq
          have v3 := (hL.l (i := 52) (z := 1) (List.mem_cons_of_mem _ (List.mem_cons_of_mem _ (List.mem_cons_of_mem _ (List.mem_cons_of_mem _ (List.mem_cons_of_mem _ (List.mem_cons_of_mem _ (List.mem_cons_of_mem _ List.mem_cons_self))))))))
          exact zSbF0 hT hA hh hl0 7777 ρ2 1 (by rw [ht2]; exact ht1) v3 (by omega) (by omega)
theorem zSbN0_0_5 (hT : zk_t) (hA : zk_a) {fc : Nat → Nat → Int32} (hh : qy_V ex (qΓ1 fc) D as tys zSk2) {ρ0 : List Int} (hl0 : ρ0.length = 45) (hx : ρ0[24]? = some (0 : Int)) (hf : ρ0[26]? = some (5 : Int)) {nv : Int} (hn : ρ0[44]? = some nv) (hn1 : -1 ≤ nv) (hn2 : nv ≤ 4) : ∀ (m : Nat) (ρ : List Int) (v : Int), ρ.take 45 = ρ0 → ρ[50]? = some v → 0 ≤ v → v ≤ 0 → 0 - v < (m : Int) → qy_TP ex D as tys 12 189 fc ρ zST_b0HN.1 zST_b0HN.2.1 zST_b0HN.2.2.1 zST_b0HN.2.2.2 13 (zSBP0 fc ρ0) := by
  intro m
  induction m with
  | zero => intro ρ v _ _ _ h1 h2; exfalso; omega
  | succ m ih =>
    intro ρ v ht hv h0 h1 h2
    have gx := q_tkb ht hx
    have gf := q_tkb ht hf
    have gn := q_tkb ht hn
    refine qy_TP.pre (ρ' := ρ) (g' := zST_b0s_h_0_5.1) (w' := zST_b0s_h_0_5.2.1) (lo' := zST_b0s_h_0_5.2.2.1) (st' := zST_b0s_h_0_5.2.2.2) ?_ (fun ws h => h) (fun h => h.to0 [(24, 0, 0), (26, 5, 5), (44, -1, 4), (50, 0, 0)] [] (by decide +kernel) rfl (by decide +kernel) (fa_ex gx (Int.le_refl _) (Int.le_refl _) (fa_ex gf (Int.le_refl _) (Int.le_refl _) (fa_ex gn hn1 hn2 (fa_ex hv (by omega) (by omega) fa_nil)))) fa_nil) (fun _ _ h => h) (fun _ h => h)
    refine qs_lnkB (p := 45) (ρ := ρ) fa_nil hT hA zSg_b0h_0_5 (fa_cons (fun ρ1 ht1 hL hg1 _ => ⟨fun rv hrv => ?r0, fun q hq => ?c0⟩) fa_nil)
    case r0 =>
      have hrv : (Sum.inr _ : Option qV ⊕ (Nat × qL × List qV)) = Sum.inl rv := hrv
      cases hrv
    case c0 =>
      have hq : (Sum.inr _ : Option qV ⊕ (Nat × qL × List qV)) = Sum.inr q := hq
      cases hq
      have v1 := (hL.n (i := 50) (d := 0) (List.mem_cons_of_mem _ (List.mem_cons_of_mem _ (List.mem_cons_of_mem _ (List.mem_cons_of_mem _ (List.mem_cons_of_mem _ List.mem_cons_self))))) hv)
      have ht1 : ρ1.take 45 = ρ0 := by rw [ht1]; exact ht
      rcases Int.lt_or_le v 0 with hlt | hge
      · skip
        refine qs_lnkB (p := 45) (ρ := ρ1) (fa_cons (zSh3 ex (qΓ1 fc) D as tys hT hA hh) (fa_cons (zSh4 ex (qΓ1 fc) D as tys hT hA) fa_nil)) hT hA zSg_b0bN (fa_cons (fun ρ2 ht2 hL hg2 _ => ⟨fun rv hrv => ?r0, fun q hq => ?c0⟩) (fa_cons (fun ρ2 ht2 hL hg2 _ => ⟨fun rv hrv => ?r1, fun q hq => ?c1⟩) fa_nil))
        case r0 =>
          have hrv : (Sum.inr _ : Option qV ⊕ (Nat × qL × List qV)) = Sum.inl rv := hrv
          cases hrv
        case c0 =>
          have hq : (Sum.inr _ : Option qV ⊕ (Nat × qL × List qV)) = Sum.inr q := hq
          cases hq
          have v3 := (hL.n (i := 50) (d := 1) (List.mem_cons_of_mem _ (List.mem_cons_of_mem _ (List.mem_cons_of_mem _ (List.mem_cons_of_mem _ (List.mem_cons_of_mem _ List.mem_cons_self))))) v1)
          exact ih ρ2 (v + 1) (by rw [ht2]; exact ht1) (by rw [v3]; exact congrArg some (by omega)) (by omega) (by omega) (by omega)
        case r1 =>
          have hrv : (Sum.inr _ : Option qV ⊕ (Nat × qL × List qV)) = Sum.inl rv := hrv
          cases hrv
        case c1 =>
          have hq : (Sum.inr _ : Option qV ⊕ (Nat × qL × List qV)) = Sum.inr q := hq
          cases hq
          have v3 := (hL.n (i := 52) (d := 1) (List.mem_cons_of_mem _ (List.mem_cons_of_mem _ List.mem_cons_self)) v1)
          exact zSbF0 hT hA hh hl0 7777 ρ2 (v + 1) (by rw [ht2]; exact ht1) (by rw [v3]; exact congrArg some (by omega)) (by omega) (by omega)
      · have gx := q_tkb ht1 hx
        have gf := q_tkb ht1 hf
        have gn := q_tkb ht1 hn
        refine qy_TP.pre (ρ' := ρ1) (g' := zST_b0s_h_0_5.1) (w' := zST_b0s_h_0_5.2.1) (lo' := zST_b0s_h_0_5.2.2.1) (st' := zST_b0s_h_0_5.2.2.2) ?_ (fun ws h => h) (fun h => h.to0 [(24, 0, 0), (26, 5, 5), (44, -1, 4), (50, 0, 0)] [] (by decide +kernel) rfl (by decide +kernel) (fa_ex gx (Int.le_refl _) (Int.le_refl _) (fa_ex gf (Int.le_refl _) (Int.le_refl _) (fa_ex gn hn1 hn2 (fa_ex v1 (by omega) (by omega) fa_nil)))) fa_nil) (fun _ _ h => h) (fun _ h => h)
        refine qs_lnkB (p := 45) (ρ := ρ1) (fa_cons (zSh9 ex (qΓ1 fc) D as tys hT hA) fa_nil) hT hA zSg_b0l_0_5 (fa_cons (fun ρ2 ht2 hL hg2 _ => ⟨fun rv hrv => ?r0, fun q hq => ?c0⟩) fa_nil)
        case r0 =>
          have hrv : (Sum.inr _ : Option qV ⊕ (Nat × qL × List qV)) = Sum.inl rv := hrv
          cases hrv
        case c0 =>
          have hq : (Sum.inr _ : Option qV ⊕ (Nat × qL × List qV)) = Sum.inr q := hq
          cases hq
          have v3 := (hL.l (i := 52) (z := 1) (List.mem_cons_of_mem _ (List.mem_cons_of_mem _ (List.mem_cons_of_mem _ (List.mem_cons_of_mem _ (List.mem_cons_of_mem _ (List.mem_cons_of_mem _ (List.mem_cons_of_mem _ List.mem_cons_self))))))))
          exact zSbF0 hT hA hh hl0 7777 ρ2 1 (by rw [ht2]; exact ht1) v3 (by omega) (by omega)
theorem zSbN0_1_0 (hT : zk_t) (hA : zk_a) {fc : Nat → Nat → Int32} (hh : qy_V ex (qΓ1 fc) D as tys zSk2) {ρ0 : List Int} (hl0 : ρ0.length = 45) (hx : ρ0[24]? = some (1 : Int)) (hf : ρ0[26]? = some (0 : Int)) {nv : Int} (hn : ρ0[44]? = some nv) (hn1 : -1 ≤ nv) (hn2 : nv ≤ -1) : ∀ (m : Nat) (ρ : List Int) (v : Int), ρ.take 45 = ρ0 → ρ[50]? = some v → 0 ≤ v → v ≤ 0 → 0 - v < (m : Int) → qy_TP ex D as tys 12 189 fc ρ zST_b0HN.1 zST_b0HN.2.1 zST_b0HN.2.2.1 zST_b0HN.2.2.2 13 (zSBP0 fc ρ0) := by
  intro m
  induction m with
  | zero => intro ρ v _ _ _ h1 h2; exfalso; omega
  | succ m ih =>
    intro ρ v ht hv h0 h1 h2
    have gx := q_tkb ht hx
    have gf := q_tkb ht hf
    have gn := q_tkb ht hn
    refine qy_TP.pre (ρ' := ρ) (g' := zST_b0s_h_1_0.1) (w' := zST_b0s_h_1_0.2.1) (lo' := zST_b0s_h_1_0.2.2.1) (st' := zST_b0s_h_1_0.2.2.2) ?_ (fun ws h => h) (fun h => h.to0 [(24, 1, 1), (26, 0, 0), (44, -1, -1), (50, 0, 0)] [] (by decide +kernel) rfl (by decide +kernel) (fa_ex gx (Int.le_refl _) (Int.le_refl _) (fa_ex gf (Int.le_refl _) (Int.le_refl _) (fa_ex gn hn1 hn2 (fa_ex hv (by omega) (by omega) fa_nil)))) fa_nil) (fun _ _ h => h) (fun _ h => h)
    refine qs_lnkB (p := 45) (ρ := ρ) fa_nil hT hA zSg_b0h_1_0 (fa_cons (fun ρ1 ht1 hL hg1 _ => ⟨fun rv hrv => ?r0, fun q hq => ?c0⟩) fa_nil)
    case r0 =>
      have hrv : (Sum.inr _ : Option qV ⊕ (Nat × qL × List qV)) = Sum.inl rv := hrv
      cases hrv
    case c0 =>
      have hq : (Sum.inr _ : Option qV ⊕ (Nat × qL × List qV)) = Sum.inr q := hq
      cases hq
      have v1 := (hL.n (i := 50) (d := 0) (List.mem_cons_of_mem _ (List.mem_cons_of_mem _ (List.mem_cons_of_mem _ (List.mem_cons_of_mem _ (List.mem_cons_of_mem _ List.mem_cons_self))))) hv)
      have ht1 : ρ1.take 45 = ρ0 := by rw [ht1]; exact ht
      rcases Int.lt_or_le v 0 with hlt | hge
      · skip
        refine qs_lnkB (p := 45) (ρ := ρ1) (fa_cons (zSh3 ex (qΓ1 fc) D as tys hT hA hh) (fa_cons (zSh4 ex (qΓ1 fc) D as tys hT hA) fa_nil)) hT hA zSg_b0bN (fa_cons (fun ρ2 ht2 hL hg2 _ => ⟨fun rv hrv => ?r0, fun q hq => ?c0⟩) (fa_cons (fun ρ2 ht2 hL hg2 _ => ⟨fun rv hrv => ?r1, fun q hq => ?c1⟩) fa_nil))
        case r0 =>
          have hrv : (Sum.inr _ : Option qV ⊕ (Nat × qL × List qV)) = Sum.inl rv := hrv
          cases hrv
        case c0 =>
          have hq : (Sum.inr _ : Option qV ⊕ (Nat × qL × List qV)) = Sum.inr q := hq
          cases hq
          have v3 := (hL.n (i := 50) (d := 1) (List.mem_cons_of_mem _ (List.mem_cons_of_mem _ (List.mem_cons_of_mem _ (List.mem_cons_of_mem _ (List.mem_cons_of_mem _ List.mem_cons_self))))) v1)
          exact ih ρ2 (v + 1) (by rw [ht2]; exact ht1) (by rw [v3]; exact congrArg some (by omega)) (by omega) (by omega) (by omega)
        case r1 =>
          have hrv : (Sum.inr _ : Option qV ⊕ (Nat × qL × List qV)) = Sum.inl rv := hrv
          cases hrv
        case c1 =>
          have hq : (Sum.inr _ : Option qV ⊕ (Nat × qL × List qV)) = Sum.inr q := hq
          cases hq
          have v3 := (hL.n (i := 52) (d := 1) (List.mem_cons_of_mem _ (List.mem_cons_of_mem _ List.mem_cons_self)) v1)
          exact zSbF0 hT hA hh hl0 7777 ρ2 (v + 1) (by rw [ht2]; exact ht1) (by rw [v3]; exact congrArg some (by omega)) (by omega) (by omega)
      · have gx := q_tkb ht1 hx
        have gf := q_tkb ht1 hf
        have gn := q_tkb ht1 hn
        refine qy_TP.pre (ρ' := ρ1) (g' := zST_b0s_h_1_0.1) (w' := zST_b0s_h_1_0.2.1) (lo' := zST_b0s_h_1_0.2.2.1) (st' := zST_b0s_h_1_0.2.2.2) ?_ (fun ws h => h) (fun h => h.to0 [(24, 1, 1), (26, 0, 0), (44, -1, -1), (50, 0, 0)] [] (by decide +kernel) rfl (by decide +kernel) (fa_ex gx (Int.le_refl _) (Int.le_refl _) (fa_ex gf (Int.le_refl _) (Int.le_refl _) (fa_ex gn hn1 hn2 (fa_ex v1 (by omega) (by omega) fa_nil)))) fa_nil) (fun _ _ h => h) (fun _ h => h)
        refine qs_lnkB (p := 45) (ρ := ρ1) fa_nil hT hA zSg_b0l_1_0 (fa_cons (fun ρ2 ht2 hL hg2 _ => ⟨fun rv hrv => ?r0, fun q hq => ?c0⟩) fa_nil)
        case r0 =>
          have hrv : (Sum.inr _ : Option qV ⊕ (Nat × qL × List qV)) = Sum.inl rv := hrv
          cases hrv
        case c0 =>
          have hq : (Sum.inr _ : Option qV ⊕ (Nat × qL × List qV)) = Sum.inr q := hq
          cases hq
          have v3 := (hL.l (i := 52) (z := 1) (List.mem_cons_of_mem _ (List.mem_cons_of_mem _ (List.mem_cons_of_mem _ (List.mem_cons_of_mem _ (List.mem_cons_of_mem _ (List.mem_cons_of_mem _ (List.mem_cons_of_mem _ List.mem_cons_self))))))))
          exact zSbF0 hT hA hh hl0 7777 ρ2 1 (by rw [ht2]; exact ht1) v3 (by omega) (by omega)
theorem zSbN0_1_1 (hT : zk_t) (hA : zk_a) {fc : Nat → Nat → Int32} (hh : qy_V ex (qΓ1 fc) D as tys zSk2) {ρ0 : List Int} (hl0 : ρ0.length = 45) (hx : ρ0[24]? = some (1 : Int)) (hf : ρ0[26]? = some (1 : Int)) {nv : Int} (hn : ρ0[44]? = some nv) (hn1 : -1 ≤ nv) (hn2 : nv ≤ 0) : ∀ (m : Nat) (ρ : List Int) (v : Int), ρ.take 45 = ρ0 → ρ[50]? = some v → 0 ≤ v → v ≤ 1 → 1 - v < (m : Int) → qy_TP ex D as tys 12 189 fc ρ zST_b0HN.1 zST_b0HN.2.1 zST_b0HN.2.2.1 zST_b0HN.2.2.2 13 (zSBP0 fc ρ0) := by
  intro m
  induction m with
  | zero => intro ρ v _ _ _ h1 h2; exfalso; omega
  | succ m ih =>
    intro ρ v ht hv h0 h1 h2
    have gx := q_tkb ht hx
    have gf := q_tkb ht hf
    have gn := q_tkb ht hn
    refine qy_TP.pre (ρ' := ρ) (g' := zST_b0s_h_1_1.1) (w' := zST_b0s_h_1_1.2.1) (lo' := zST_b0s_h_1_1.2.2.1) (st' := zST_b0s_h_1_1.2.2.2) ?_ (fun ws h => h) (fun h => h.to0 [(24, 1, 1), (26, 1, 1), (44, -1, 0), (50, 0, 1)] [] (by decide +kernel) rfl (by decide +kernel) (fa_ex gx (Int.le_refl _) (Int.le_refl _) (fa_ex gf (Int.le_refl _) (Int.le_refl _) (fa_ex gn hn1 hn2 (fa_ex hv (by omega) (by omega) fa_nil)))) fa_nil) (fun _ _ h => h) (fun _ h => h)
    refine qs_lnkB (p := 45) (ρ := ρ) fa_nil hT hA zSg_b0h_1_1 (fa_cons (fun ρ1 ht1 hL hg1 _ => ⟨fun rv hrv => ?r0, fun q hq => ?c0⟩) fa_nil)
    case r0 =>
      have hrv : (Sum.inr _ : Option qV ⊕ (Nat × qL × List qV)) = Sum.inl rv := hrv
      cases hrv
    case c0 =>
      have hq : (Sum.inr _ : Option qV ⊕ (Nat × qL × List qV)) = Sum.inr q := hq
      cases hq
      have v1 := (hL.n (i := 50) (d := 0) (List.mem_cons_of_mem _ (List.mem_cons_of_mem _ (List.mem_cons_of_mem _ (List.mem_cons_of_mem _ (List.mem_cons_of_mem _ List.mem_cons_self))))) hv)
      have ht1 : ρ1.take 45 = ρ0 := by rw [ht1]; exact ht
      rcases Int.lt_or_le v 1 with hlt | hge
      · skip
        refine qs_lnkB (p := 45) (ρ := ρ1) (fa_cons (zSh3 ex (qΓ1 fc) D as tys hT hA hh) (fa_cons (zSh4 ex (qΓ1 fc) D as tys hT hA) fa_nil)) hT hA zSg_b0bN (fa_cons (fun ρ2 ht2 hL hg2 _ => ⟨fun rv hrv => ?r0, fun q hq => ?c0⟩) (fa_cons (fun ρ2 ht2 hL hg2 _ => ⟨fun rv hrv => ?r1, fun q hq => ?c1⟩) fa_nil))
        case r0 =>
          have hrv : (Sum.inr _ : Option qV ⊕ (Nat × qL × List qV)) = Sum.inl rv := hrv
          cases hrv
        case c0 =>
          have hq : (Sum.inr _ : Option qV ⊕ (Nat × qL × List qV)) = Sum.inr q := hq
          cases hq
          have v3 := (hL.n (i := 50) (d := 1) (List.mem_cons_of_mem _ (List.mem_cons_of_mem _ (List.mem_cons_of_mem _ (List.mem_cons_of_mem _ (List.mem_cons_of_mem _ List.mem_cons_self))))) v1)
          exact ih ρ2 (v + 1) (by rw [ht2]; exact ht1) (by rw [v3]; exact congrArg some (by omega)) (by omega) (by omega) (by omega)
        case r1 =>
          have hrv : (Sum.inr _ : Option qV ⊕ (Nat × qL × List qV)) = Sum.inl rv := hrv
          cases hrv
        case c1 =>
          have hq : (Sum.inr _ : Option qV ⊕ (Nat × qL × List qV)) = Sum.inr q := hq
          cases hq
          have v3 := (hL.n (i := 52) (d := 1) (List.mem_cons_of_mem _ (List.mem_cons_of_mem _ List.mem_cons_self)) v1)
          exact zSbF0 hT hA hh hl0 7777 ρ2 (v + 1) (by rw [ht2]; exact ht1) (by rw [v3]; exact congrArg some (by omega)) (by omega) (by omega)
      · have gx := q_tkb ht1 hx
        have gf := q_tkb ht1 hf
        have gn := q_tkb ht1 hn
        refine qy_TP.pre (ρ' := ρ1) (g' := zST_b0s_l_1_1.1) (w' := zST_b0s_l_1_1.2.1) (lo' := zST_b0s_l_1_1.2.2.1) (st' := zST_b0s_l_1_1.2.2.2) ?_ (fun ws h => h) (fun h => h.to0 [(24, 1, 1), (26, 1, 1), (44, -1, 0), (50, 1, 1)] [] (by decide +kernel) rfl (by decide +kernel) (fa_ex gx (Int.le_refl _) (Int.le_refl _) (fa_ex gf (Int.le_refl _) (Int.le_refl _) (fa_ex gn hn1 hn2 (fa_ex v1 (by omega) (by omega) fa_nil)))) fa_nil) (fun _ _ h => h) (fun _ h => h)
        refine qs_lnkB (p := 45) (ρ := ρ1) (fa_cons (zSh10 ex (qΓ1 fc) D as tys hT hA) fa_nil) hT hA zSg_b0l_1_1 (fa_cons (fun ρ2 ht2 hL hg2 _ => ⟨fun rv hrv => ?r0, fun q hq => ?c0⟩) fa_nil)
        case r0 =>
          have hrv : (Sum.inr _ : Option qV ⊕ (Nat × qL × List qV)) = Sum.inl rv := hrv
          cases hrv
        case c0 =>
          have hq : (Sum.inr _ : Option qV ⊕ (Nat × qL × List qV)) = Sum.inr q := hq
          cases hq
          have v3 := (hL.l (i := 52) (z := 2) (List.mem_cons_of_mem _ (List.mem_cons_of_mem _ (List.mem_cons_of_mem _ (List.mem_cons_of_mem _ (List.mem_cons_of_mem _ (List.mem_cons_of_mem _ (List.mem_cons_of_mem _ List.mem_cons_self))))))))
          exact zSbF0 hT hA hh hl0 7777 ρ2 2 (by rw [ht2]; exact ht1) v3 (by omega) (by omega)
theorem zSbN0_1_2 (hT : zk_t) (hA : zk_a) {fc : Nat → Nat → Int32} (hh : qy_V ex (qΓ1 fc) D as tys zSk2) {ρ0 : List Int} (hl0 : ρ0.length = 45) (hx : ρ0[24]? = some (1 : Int)) (hf : ρ0[26]? = some (2 : Int)) {nv : Int} (hn : ρ0[44]? = some nv) (hn1 : -1 ≤ nv) (hn2 : nv ≤ 1) : ∀ (m : Nat) (ρ : List Int) (v : Int), ρ.take 45 = ρ0 → ρ[50]? = some v → 0 ≤ v → v ≤ 3 → 3 - v < (m : Int) → qy_TP ex D as tys 12 189 fc ρ zST_b0HN.1 zST_b0HN.2.1 zST_b0HN.2.2.1 zST_b0HN.2.2.2 13 (zSBP0 fc ρ0) := by
  intro m
  induction m with
  | zero => intro ρ v _ _ _ h1 h2; exfalso; omega
  | succ m ih =>
    intro ρ v ht hv h0 h1 h2
    have gx := q_tkb ht hx
    have gf := q_tkb ht hf
    have gn := q_tkb ht hn
    refine qy_TP.pre (ρ' := ρ) (g' := zST_b0s_h_1_2.1) (w' := zST_b0s_h_1_2.2.1) (lo' := zST_b0s_h_1_2.2.2.1) (st' := zST_b0s_h_1_2.2.2.2) ?_ (fun ws h => h) (fun h => h.to0 [(24, 1, 1), (26, 2, 2), (44, -1, 1), (50, 0, 3)] [] (by decide +kernel) rfl (by decide +kernel) (fa_ex gx (Int.le_refl _) (Int.le_refl _) (fa_ex gf (Int.le_refl _) (Int.le_refl _) (fa_ex gn hn1 hn2 (fa_ex hv (by omega) (by omega) fa_nil)))) fa_nil) (fun _ _ h => h) (fun _ h => h)
    refine qs_lnkB (p := 45) (ρ := ρ) fa_nil hT hA zSg_b0h_1_2 (fa_cons (fun ρ1 ht1 hL hg1 _ => ⟨fun rv hrv => ?r0, fun q hq => ?c0⟩) fa_nil)
    case r0 =>
      have hrv : (Sum.inr _ : Option qV ⊕ (Nat × qL × List qV)) = Sum.inl rv := hrv
      cases hrv
    case c0 =>
      have hq : (Sum.inr _ : Option qV ⊕ (Nat × qL × List qV)) = Sum.inr q := hq
      cases hq
      have v1 := (hL.n (i := 50) (d := 0) (List.mem_cons_of_mem _ (List.mem_cons_of_mem _ (List.mem_cons_of_mem _ (List.mem_cons_of_mem _ (List.mem_cons_of_mem _ List.mem_cons_self))))) hv)
      have ht1 : ρ1.take 45 = ρ0 := by rw [ht1]; exact ht
      rcases Int.lt_or_le v 3 with hlt | hge
      · skip
        refine qs_lnkB (p := 45) (ρ := ρ1) (fa_cons (zSh3 ex (qΓ1 fc) D as tys hT hA hh) (fa_cons (zSh4 ex (qΓ1 fc) D as tys hT hA) fa_nil)) hT hA zSg_b0bN (fa_cons (fun ρ2 ht2 hL hg2 _ => ⟨fun rv hrv => ?r0, fun q hq => ?c0⟩) (fa_cons (fun ρ2 ht2 hL hg2 _ => ⟨fun rv hrv => ?r1, fun q hq => ?c1⟩) fa_nil))
        case r0 =>
          have hrv : (Sum.inr _ : Option qV ⊕ (Nat × qL × List qV)) = Sum.inl rv := hrv
          cases hrv
        case c0 =>
          have hq : (Sum.inr _ : Option qV ⊕ (Nat × qL × List qV)) = Sum.inr q := hq
          cases hq
          have v3 := (hL.n (i := 50) (d := 1) (List.mem_cons_of_mem _ (List.mem_cons_of_mem _ (List.mem_cons_of_mem _ (List.mem_cons_of_mem _ (List.mem_cons_of_mem _ List.mem_cons_self))))) v1)
          exact ih ρ2 (v + 1) (by rw [ht2]; exact ht1) (by rw [v3]; exact congrArg some (by omega)) (by omega) (by omega) (by omega)
        case r1 =>
          have hrv : (Sum.inr _ : Option qV ⊕ (Nat × qL × List qV)) = Sum.inl rv := hrv
          cases hrv
        case c1 =>
          have hq : (Sum.inr _ : Option qV ⊕ (Nat × qL × List qV)) = Sum.inr q := hq
          cases hq
          have v3 := (hL.n (i := 52) (d := 1) (List.mem_cons_of_mem _ (List.mem_cons_of_mem _ List.mem_cons_self)) v1)
          exact zSbF0 hT hA hh hl0 7777 ρ2 (v + 1) (by rw [ht2]; exact ht1) (by rw [v3]; exact congrArg some (by omega)) (by omega) (by omega)
      · have gx := q_tkb ht1 hx
        have gf := q_tkb ht1 hf
        have gn := q_tkb ht1 hn
        refine qy_TP.pre (ρ' := ρ1) (g' := zST_b0s_l_1_2.1) (w' := zST_b0s_l_1_2.2.1) (lo' := zST_b0s_l_1_2.2.2.1) (st' := zST_b0s_l_1_2.2.2.2) ?_ (fun ws h => h) (fun h => h.to0 [(24, 1, 1), (26, 2, 2), (44, -1, 1), (50, 3, 3)] [] (by decide +kernel) rfl (by decide +kernel) (fa_ex gx (Int.le_refl _) (Int.le_refl _) (fa_ex gf (Int.le_refl _) (Int.le_refl _) (fa_ex gn hn1 hn2 (fa_ex v1 (by omega) (by omega) fa_nil)))) fa_nil) (fun _ _ h => h) (fun _ h => h)
        refine qs_lnkB (p := 45) (ρ := ρ1) (fa_cons (zSh11 ex (qΓ1 fc) D as tys hT hA) fa_nil) hT hA zSg_b0l_1_2 (fa_cons (fun ρ2 ht2 hL hg2 _ => ⟨fun rv hrv => ?r0, fun q hq => ?c0⟩) fa_nil)
        case r0 =>
          have hrv : (Sum.inr _ : Option qV ⊕ (Nat × qL × List qV)) = Sum.inl rv := hrv
          cases hrv
        case c0 =>
          have hq : (Sum.inr _ : Option qV ⊕ (Nat × qL × List qV)) = Sum.inr q := hq
          cases hq
          have v3 := (hL.l (i := 52) (z := 4) (List.mem_cons_of_mem _ (List.mem_cons_of_mem _ (List.mem_cons_of_mem _ (List.mem_cons_of_mem _ (List.mem_cons_of_mem _ (List.mem_cons_of_mem _ (List.mem_cons_of_mem _ List.mem_cons_self))))))))
          exact zSbF0 hT hA hh hl0 7777 ρ2 4 (by rw [ht2]; exact ht1) v3 (by omega) (by omega)
theorem zSbN0_1_3 (hT : zk_t) (hA : zk_a) {fc : Nat → Nat → Int32} (hh : qy_V ex (qΓ1 fc) D as tys zSk2) {ρ0 : List Int} (hl0 : ρ0.length = 45) (hx : ρ0[24]? = some (1 : Int)) (hf : ρ0[26]? = some (3 : Int)) {nv : Int} (hn : ρ0[44]? = some nv) (hn1 : -1 ≤ nv) (hn2 : nv ≤ 2) : ∀ (m : Nat) (ρ : List Int) (v : Int), ρ.take 45 = ρ0 → ρ[50]? = some v → 0 ≤ v → v ≤ 7 → 7 - v < (m : Int) → qy_TP ex D as tys 12 189 fc ρ zST_b0HN.1 zST_b0HN.2.1 zST_b0HN.2.2.1 zST_b0HN.2.2.2 13 (zSBP0 fc ρ0) := by
  intro m
  induction m with
  | zero => intro ρ v _ _ _ h1 h2; exfalso; omega
  | succ m ih =>
    intro ρ v ht hv h0 h1 h2
    have gx := q_tkb ht hx
    have gf := q_tkb ht hf
    have gn := q_tkb ht hn
    refine qy_TP.pre (ρ' := ρ) (g' := zST_b0s_h_1_3.1) (w' := zST_b0s_h_1_3.2.1) (lo' := zST_b0s_h_1_3.2.2.1) (st' := zST_b0s_h_1_3.2.2.2) ?_ (fun ws h => h) (fun h => h.to0 [(24, 1, 1), (26, 3, 3), (44, -1, 2), (50, 0, 7)] [] (by decide +kernel) rfl (by decide +kernel) (fa_ex gx (Int.le_refl _) (Int.le_refl _) (fa_ex gf (Int.le_refl _) (Int.le_refl _) (fa_ex gn hn1 hn2 (fa_ex hv (by omega) (by omega) fa_nil)))) fa_nil) (fun _ _ h => h) (fun _ h => h)
    refine qs_lnkB (p := 45) (ρ := ρ) fa_nil hT hA zSg_b0h_1_3 (fa_cons (fun ρ1 ht1 hL hg1 _ => ⟨fun rv hrv => ?r0, fun q hq => ?c0⟩) fa_nil)
    case r0 =>
      have hrv : (Sum.inr _ : Option qV ⊕ (Nat × qL × List qV)) = Sum.inl rv := hrv
      cases hrv
    case c0 =>
      have hq : (Sum.inr _ : Option qV ⊕ (Nat × qL × List qV)) = Sum.inr q := hq
      cases hq
      have v1 := (hL.n (i := 50) (d := 0) (List.mem_cons_of_mem _ (List.mem_cons_of_mem _ (List.mem_cons_of_mem _ (List.mem_cons_of_mem _ (List.mem_cons_of_mem _ List.mem_cons_self))))) hv)
      have ht1 : ρ1.take 45 = ρ0 := by rw [ht1]; exact ht
      rcases Int.lt_or_le v 7 with hlt | hge
      · skip
        refine qs_lnkB (p := 45) (ρ := ρ1) (fa_cons (zSh3 ex (qΓ1 fc) D as tys hT hA hh) (fa_cons (zSh4 ex (qΓ1 fc) D as tys hT hA) fa_nil)) hT hA zSg_b0bN (fa_cons (fun ρ2 ht2 hL hg2 _ => ⟨fun rv hrv => ?r0, fun q hq => ?c0⟩) (fa_cons (fun ρ2 ht2 hL hg2 _ => ⟨fun rv hrv => ?r1, fun q hq => ?c1⟩) fa_nil))
        case r0 =>
          have hrv : (Sum.inr _ : Option qV ⊕ (Nat × qL × List qV)) = Sum.inl rv := hrv
          cases hrv
        case c0 =>
          have hq : (Sum.inr _ : Option qV ⊕ (Nat × qL × List qV)) = Sum.inr q := hq
          cases hq
          have v3 := (hL.n (i := 50) (d := 1) (List.mem_cons_of_mem _ (List.mem_cons_of_mem _ (List.mem_cons_of_mem _ (List.mem_cons_of_mem _ (List.mem_cons_of_mem _ List.mem_cons_self))))) v1)
          exact ih ρ2 (v + 1) (by rw [ht2]; exact ht1) (by rw [v3]; exact congrArg some (by omega)) (by omega) (by omega) (by omega)
        case r1 =>
          have hrv : (Sum.inr _ : Option qV ⊕ (Nat × qL × List qV)) = Sum.inl rv := hrv
          cases hrv
        case c1 =>
          have hq : (Sum.inr _ : Option qV ⊕ (Nat × qL × List qV)) = Sum.inr q := hq
          cases hq
          have v3 := (hL.n (i := 52) (d := 1) (List.mem_cons_of_mem _ (List.mem_cons_of_mem _ List.mem_cons_self)) v1)
          exact zSbF0 hT hA hh hl0 7777 ρ2 (v + 1) (by rw [ht2]; exact ht1) (by rw [v3]; exact congrArg some (by omega)) (by omega) (by omega)
      · have gx := q_tkb ht1 hx
        have gf := q_tkb ht1 hf
        have gn := q_tkb ht1 hn
        refine qy_TP.pre (ρ' := ρ1) (g' := zST_b0s_l_1_3.1) (w' := zST_b0s_l_1_3.2.1) (lo' := zST_b0s_l_1_3.2.2.1) (st' := zST_b0s_l_1_3.2.2.2) ?_ (fun ws h => h) (fun h => h.to0 [(24, 1, 1), (26, 3, 3), (44, -1, 2), (50, 7, 7)] [] (by decide +kernel) rfl (by decide +kernel) (fa_ex gx (Int.le_refl _) (Int.le_refl _) (fa_ex gf (Int.le_refl _) (Int.le_refl _) (fa_ex gn hn1 hn2 (fa_ex v1 (by omega) (by omega) fa_nil)))) fa_nil) (fun _ _ h => h) (fun _ h => h)
        refine qs_lnkB (p := 45) (ρ := ρ1) (fa_cons (zSh12 ex (qΓ1 fc) D as tys hT hA) fa_nil) hT hA zSg_b0l_1_3 (fa_cons (fun ρ2 ht2 hL hg2 _ => ⟨fun rv hrv => ?r0, fun q hq => ?c0⟩) fa_nil)
        case r0 =>
          have hrv : (Sum.inr _ : Option qV ⊕ (Nat × qL × List qV)) = Sum.inl rv := hrv
          cases hrv
        case c0 =>
          have hq : (Sum.inr _ : Option qV ⊕ (Nat × qL × List qV)) = Sum.inr q := hq
          cases hq
          have v3 := (hL.l (i := 52) (z := 8) (List.mem_cons_of_mem _ (List.mem_cons_of_mem _ (List.mem_cons_of_mem _ (List.mem_cons_of_mem _ (List.mem_cons_of_mem _ (List.mem_cons_of_mem _ (List.mem_cons_of_mem _ List.mem_cons_self))))))))
          exact zSbF0 hT hA hh hl0 7777 ρ2 8 (by rw [ht2]; exact ht1) v3 (by omega) (by omega)
theorem zSbN0_1_4 (hT : zk_t) (hA : zk_a) {fc : Nat → Nat → Int32} (hh : qy_V ex (qΓ1 fc) D as tys zSk2) {ρ0 : List Int} (hl0 : ρ0.length = 45) (hx : ρ0[24]? = some (1 : Int)) (hf : ρ0[26]? = some (4 : Int)) {nv : Int} (hn : ρ0[44]? = some nv) (hn1 : -1 ≤ nv) (hn2 : nv ≤ 3) : ∀ (m : Nat) (ρ : List Int) (v : Int), ρ.take 45 = ρ0 → ρ[50]? = some v → 0 ≤ v → v ≤ 15 → 15 - v < (m : Int) → qy_TP ex D as tys 12 189 fc ρ zST_b0HN.1 zST_b0HN.2.1 zST_b0HN.2.2.1 zST_b0HN.2.2.2 13 (zSBP0 fc ρ0) := by
  intro m
  induction m with
  | zero => intro ρ v _ _ _ h1 h2; exfalso; omega
  | succ m ih =>
    intro ρ v ht hv h0 h1 h2
    have gx := q_tkb ht hx
    have gf := q_tkb ht hf
    have gn := q_tkb ht hn
    refine qy_TP.pre (ρ' := ρ) (g' := zST_b0s_h_1_4.1) (w' := zST_b0s_h_1_4.2.1) (lo' := zST_b0s_h_1_4.2.2.1) (st' := zST_b0s_h_1_4.2.2.2) ?_ (fun ws h => h) (fun h => h.to0 [(24, 1, 1), (26, 4, 4), (44, -1, 3), (50, 0, 15)] [] (by decide +kernel) rfl (by decide +kernel) (fa_ex gx (Int.le_refl _) (Int.le_refl _) (fa_ex gf (Int.le_refl _) (Int.le_refl _) (fa_ex gn hn1 hn2 (fa_ex hv (by omega) (by omega) fa_nil)))) fa_nil) (fun _ _ h => h) (fun _ h => h)
    refine qs_lnkB (p := 45) (ρ := ρ) fa_nil hT hA zSg_b0h_1_4 (fa_cons (fun ρ1 ht1 hL hg1 _ => ⟨fun rv hrv => ?r0, fun q hq => ?c0⟩) fa_nil)
    case r0 =>
      have hrv : (Sum.inr _ : Option qV ⊕ (Nat × qL × List qV)) = Sum.inl rv := hrv
      cases hrv
    case c0 =>
      have hq : (Sum.inr _ : Option qV ⊕ (Nat × qL × List qV)) = Sum.inr q := hq
      cases hq
      have v1 := (hL.n (i := 50) (d := 0) (List.mem_cons_of_mem _ (List.mem_cons_of_mem _ (List.mem_cons_of_mem _ (List.mem_cons_of_mem _ (List.mem_cons_of_mem _ List.mem_cons_self))))) hv)
      have ht1 : ρ1.take 45 = ρ0 := by rw [ht1]; exact ht
      rcases Int.lt_or_le v 15 with hlt | hge
      · skip
        refine qs_lnkB (p := 45) (ρ := ρ1) (fa_cons (zSh3 ex (qΓ1 fc) D as tys hT hA hh) (fa_cons (zSh4 ex (qΓ1 fc) D as tys hT hA) fa_nil)) hT hA zSg_b0bN (fa_cons (fun ρ2 ht2 hL hg2 _ => ⟨fun rv hrv => ?r0, fun q hq => ?c0⟩) (fa_cons (fun ρ2 ht2 hL hg2 _ => ⟨fun rv hrv => ?r1, fun q hq => ?c1⟩) fa_nil))
        case r0 =>
          have hrv : (Sum.inr _ : Option qV ⊕ (Nat × qL × List qV)) = Sum.inl rv := hrv
          cases hrv
        case c0 =>
          have hq : (Sum.inr _ : Option qV ⊕ (Nat × qL × List qV)) = Sum.inr q := hq
          cases hq
          have v3 := (hL.n (i := 50) (d := 1) (List.mem_cons_of_mem _ (List.mem_cons_of_mem _ (List.mem_cons_of_mem _ (List.mem_cons_of_mem _ (List.mem_cons_of_mem _ List.mem_cons_self))))) v1)
          exact ih ρ2 (v + 1) (by rw [ht2]; exact ht1) (by rw [v3]; exact congrArg some (by omega)) (by omega) (by omega) (by omega)
        case r1 =>
          have hrv : (Sum.inr _ : Option qV ⊕ (Nat × qL × List qV)) = Sum.inl rv := hrv
          cases hrv
        case c1 =>
          have hq : (Sum.inr _ : Option qV ⊕ (Nat × qL × List qV)) = Sum.inr q := hq
          cases hq
          have v3 := (hL.n (i := 52) (d := 1) (List.mem_cons_of_mem _ (List.mem_cons_of_mem _ List.mem_cons_self)) v1)
          exact zSbF0 hT hA hh hl0 7777 ρ2 (v + 1) (by rw [ht2]; exact ht1) (by rw [v3]; exact congrArg some (by omega)) (by omega) (by omega)
      · have gx := q_tkb ht1 hx
        have gf := q_tkb ht1 hf
        have gn := q_tkb ht1 hn
        refine qy_TP.pre (ρ' := ρ1) (g' := zST_b0s_l_1_4.1) (w' := zST_b0s_l_1_4.2.1) (lo' := zST_b0s_l_1_4.2.2.1) (st' := zST_b0s_l_1_4.2.2.2) ?_ (fun ws h => h) (fun h => h.to0 [(24, 1, 1), (26, 4, 4), (44, -1, 3), (50, 15, 15)] [] (by decide +kernel) rfl (by decide +kernel) (fa_ex gx (Int.le_refl _) (Int.le_refl _) (fa_ex gf (Int.le_refl _) (Int.le_refl _) (fa_ex gn hn1 hn2 (fa_ex v1 (by omega) (by omega) fa_nil)))) fa_nil) (fun _ _ h => h) (fun _ h => h)
        refine qs_lnkB (p := 45) (ρ := ρ1) (fa_cons (zSh13 ex (qΓ1 fc) D as tys hT hA) fa_nil) hT hA zSg_b0l_1_4 (fa_cons (fun ρ2 ht2 hL hg2 _ => ⟨fun rv hrv => ?r0, fun q hq => ?c0⟩) fa_nil)
        case r0 =>
          have hrv : (Sum.inr _ : Option qV ⊕ (Nat × qL × List qV)) = Sum.inl rv := hrv
          cases hrv
        case c0 =>
          have hq : (Sum.inr _ : Option qV ⊕ (Nat × qL × List qV)) = Sum.inr q := hq
          cases hq
          have v3 := (hL.l (i := 52) (z := 16) (List.mem_cons_of_mem _ (List.mem_cons_of_mem _ (List.mem_cons_of_mem _ (List.mem_cons_of_mem _ (List.mem_cons_of_mem _ (List.mem_cons_of_mem _ (List.mem_cons_of_mem _ List.mem_cons_self))))))))
          exact zSbF0 hT hA hh hl0 7777 ρ2 16 (by rw [ht2]; exact ht1) v3 (by omega) (by omega)
theorem zSbN0_1_5 (hT : zk_t) (hA : zk_a) {fc : Nat → Nat → Int32} (hh : qy_V ex (qΓ1 fc) D as tys zSk2) {ρ0 : List Int} (hl0 : ρ0.length = 45) (hx : ρ0[24]? = some (1 : Int)) (hf : ρ0[26]? = some (5 : Int)) {nv : Int} (hn : ρ0[44]? = some nv) (hn1 : -1 ≤ nv) (hn2 : nv ≤ 4) : ∀ (m : Nat) (ρ : List Int) (v : Int), ρ.take 45 = ρ0 → ρ[50]? = some v → 0 ≤ v → v ≤ 31 → 31 - v < (m : Int) → qy_TP ex D as tys 12 189 fc ρ zST_b0HN.1 zST_b0HN.2.1 zST_b0HN.2.2.1 zST_b0HN.2.2.2 13 (zSBP0 fc ρ0) := by
  intro m
  induction m with
  | zero => intro ρ v _ _ _ h1 h2; exfalso; omega
  | succ m ih =>
    intro ρ v ht hv h0 h1 h2
    have gx := q_tkb ht hx
    have gf := q_tkb ht hf
    have gn := q_tkb ht hn
    refine qy_TP.pre (ρ' := ρ) (g' := zST_b0s_h_1_5.1) (w' := zST_b0s_h_1_5.2.1) (lo' := zST_b0s_h_1_5.2.2.1) (st' := zST_b0s_h_1_5.2.2.2) ?_ (fun ws h => h) (fun h => h.to0 [(24, 1, 1), (26, 5, 5), (44, -1, 4), (50, 0, 31)] [] (by decide +kernel) rfl (by decide +kernel) (fa_ex gx (Int.le_refl _) (Int.le_refl _) (fa_ex gf (Int.le_refl _) (Int.le_refl _) (fa_ex gn hn1 hn2 (fa_ex hv (by omega) (by omega) fa_nil)))) fa_nil) (fun _ _ h => h) (fun _ h => h)
    refine qs_lnkB (p := 45) (ρ := ρ) fa_nil hT hA zSg_b0h_1_5 (fa_cons (fun ρ1 ht1 hL hg1 _ => ⟨fun rv hrv => ?r0, fun q hq => ?c0⟩) fa_nil)
    case r0 =>
      have hrv : (Sum.inr _ : Option qV ⊕ (Nat × qL × List qV)) = Sum.inl rv := hrv
      cases hrv
    case c0 =>
      have hq : (Sum.inr _ : Option qV ⊕ (Nat × qL × List qV)) = Sum.inr q := hq
      cases hq
      have v1 := (hL.n (i := 50) (d := 0) (List.mem_cons_of_mem _ (List.mem_cons_of_mem _ (List.mem_cons_of_mem _ (List.mem_cons_of_mem _ (List.mem_cons_of_mem _ List.mem_cons_self))))) hv)
      have ht1 : ρ1.take 45 = ρ0 := by rw [ht1]; exact ht
      rcases Int.lt_or_le v 31 with hlt | hge
      · skip
        refine qs_lnkB (p := 45) (ρ := ρ1) (fa_cons (zSh3 ex (qΓ1 fc) D as tys hT hA hh) (fa_cons (zSh4 ex (qΓ1 fc) D as tys hT hA) fa_nil)) hT hA zSg_b0bN (fa_cons (fun ρ2 ht2 hL hg2 _ => ⟨fun rv hrv => ?r0, fun q hq => ?c0⟩) (fa_cons (fun ρ2 ht2 hL hg2 _ => ⟨fun rv hrv => ?r1, fun q hq => ?c1⟩) fa_nil))
        case r0 =>
          have hrv : (Sum.inr _ : Option qV ⊕ (Nat × qL × List qV)) = Sum.inl rv := hrv
          cases hrv
        case c0 =>
          have hq : (Sum.inr _ : Option qV ⊕ (Nat × qL × List qV)) = Sum.inr q := hq
          cases hq
          have v3 := (hL.n (i := 50) (d := 1) (List.mem_cons_of_mem _ (List.mem_cons_of_mem _ (List.mem_cons_of_mem _ (List.mem_cons_of_mem _ (List.mem_cons_of_mem _ List.mem_cons_self))))) v1)
          exact ih ρ2 (v + 1) (by rw [ht2]; exact ht1) (by rw [v3]; exact congrArg some (by omega)) (by omega) (by omega) (by omega)
        case r1 =>
          have hrv : (Sum.inr _ : Option qV ⊕ (Nat × qL × List qV)) = Sum.inl rv := hrv
          cases hrv
        case c1 =>
          have hq : (Sum.inr _ : Option qV ⊕ (Nat × qL × List qV)) = Sum.inr q := hq
          cases hq
          have v3 := (hL.n (i := 52) (d := 1) (List.mem_cons_of_mem _ (List.mem_cons_of_mem _ List.mem_cons_self)) v1)
          exact zSbF0 hT hA hh hl0 7777 ρ2 (v + 1) (by rw [ht2]; exact ht1) (by rw [v3]; exact congrArg some (by omega)) (by omega) (by omega)
      · have gx := q_tkb ht1 hx
        have gf := q_tkb ht1 hf
        have gn := q_tkb ht1 hn
        refine qy_TP.pre (ρ' := ρ1) (g' := zST_b0s_l_1_5.1) (w' := zST_b0s_l_1_5.2.1) (lo' := zST_b0s_l_1_5.2.2.1) (st' := zST_b0s_l_1_5.2.2.2) ?_ (fun ws h => h) (fun h => h.to0 [(24, 1, 1), (26, 5, 5), (44, -1, 4), (50, 31, 31)] [] (by decide +kernel) rfl (by decide +kernel) (fa_ex gx (Int.le_refl _) (Int.le_refl _) (fa_ex gf (Int.le_refl _) (Int.le_refl _) (fa_ex gn hn1 hn2 (fa_ex v1 (by omega) (by omega) fa_nil)))) fa_nil) (fun _ _ h => h) (fun _ h => h)
        refine qs_lnkB (p := 45) (ρ := ρ1) (fa_cons (zSh14 ex (qΓ1 fc) D as tys hT hA) fa_nil) hT hA zSg_b0l_1_5 (fa_cons (fun ρ2 ht2 hL hg2 _ => ⟨fun rv hrv => ?r0, fun q hq => ?c0⟩) fa_nil)
        case r0 =>
          have hrv : (Sum.inr _ : Option qV ⊕ (Nat × qL × List qV)) = Sum.inl rv := hrv
          cases hrv
        case c0 =>
          have hq : (Sum.inr _ : Option qV ⊕ (Nat × qL × List qV)) = Sum.inr q := hq
          cases hq
          have v3 := (hL.l (i := 52) (z := 32) (List.mem_cons_of_mem _ (List.mem_cons_of_mem _ (List.mem_cons_of_mem _ (List.mem_cons_of_mem _ (List.mem_cons_of_mem _ (List.mem_cons_of_mem _ (List.mem_cons_of_mem _ List.mem_cons_self))))))))
          exact zSbF0 hT hA hh hl0 7777 ρ2 32 (by rw [ht2]; exact ht1) v3 (by omega) (by omega)
theorem zSbN0_2_0 (hT : zk_t) (hA : zk_a) {fc : Nat → Nat → Int32} (hh : qy_V ex (qΓ1 fc) D as tys zSk2) {ρ0 : List Int} (hl0 : ρ0.length = 45) (hx : ρ0[24]? = some (2 : Int)) (hf : ρ0[26]? = some (0 : Int)) {nv : Int} (hn : ρ0[44]? = some nv) (hn1 : -1 ≤ nv) (hn2 : nv ≤ -1) : ∀ (m : Nat) (ρ : List Int) (v : Int), ρ.take 45 = ρ0 → ρ[50]? = some v → 0 ≤ v → v ≤ 0 → 0 - v < (m : Int) → qy_TP ex D as tys 12 189 fc ρ zST_b0HN.1 zST_b0HN.2.1 zST_b0HN.2.2.1 zST_b0HN.2.2.2 13 (zSBP0 fc ρ0) := by
  intro m
  induction m with
  | zero => intro ρ v _ _ _ h1 h2; exfalso; omega
  | succ m ih =>
    intro ρ v ht hv h0 h1 h2
    have gx := q_tkb ht hx
    have gf := q_tkb ht hf
    have gn := q_tkb ht hn
    refine qy_TP.pre (ρ' := ρ) (g' := zST_b0s_h_2_0.1) (w' := zST_b0s_h_2_0.2.1) (lo' := zST_b0s_h_2_0.2.2.1) (st' := zST_b0s_h_2_0.2.2.2) ?_ (fun ws h => h) (fun h => h.to0 [(24, 2, 2), (26, 0, 0), (44, -1, -1), (50, 0, 0)] [] (by decide +kernel) rfl (by decide +kernel) (fa_ex gx (Int.le_refl _) (Int.le_refl _) (fa_ex gf (Int.le_refl _) (Int.le_refl _) (fa_ex gn hn1 hn2 (fa_ex hv (by omega) (by omega) fa_nil)))) fa_nil) (fun _ _ h => h) (fun _ h => h)
    refine qs_lnkB (p := 45) (ρ := ρ) fa_nil hT hA zSg_b0h_2_0 (fa_cons (fun ρ1 ht1 hL hg1 _ => ⟨fun rv hrv => ?r0, fun q hq => ?c0⟩) fa_nil)
    case r0 =>
      have hrv : (Sum.inr _ : Option qV ⊕ (Nat × qL × List qV)) = Sum.inl rv := hrv
      cases hrv
    case c0 =>
      have hq : (Sum.inr _ : Option qV ⊕ (Nat × qL × List qV)) = Sum.inr q := hq
      cases hq
      have v1 := (hL.n (i := 50) (d := 0) (List.mem_cons_of_mem _ (List.mem_cons_of_mem _ (List.mem_cons_of_mem _ (List.mem_cons_of_mem _ (List.mem_cons_of_mem _ List.mem_cons_self))))) hv)
      have ht1 : ρ1.take 45 = ρ0 := by rw [ht1]; exact ht
      rcases Int.lt_or_le v 0 with hlt | hge
      · skip
        refine qs_lnkB (p := 45) (ρ := ρ1) (fa_cons (zSh3 ex (qΓ1 fc) D as tys hT hA hh) (fa_cons (zSh4 ex (qΓ1 fc) D as tys hT hA) fa_nil)) hT hA zSg_b0bN (fa_cons (fun ρ2 ht2 hL hg2 _ => ⟨fun rv hrv => ?r0, fun q hq => ?c0⟩) (fa_cons (fun ρ2 ht2 hL hg2 _ => ⟨fun rv hrv => ?r1, fun q hq => ?c1⟩) fa_nil))
        case r0 =>
          have hrv : (Sum.inr _ : Option qV ⊕ (Nat × qL × List qV)) = Sum.inl rv := hrv
          cases hrv
        case c0 =>
          have hq : (Sum.inr _ : Option qV ⊕ (Nat × qL × List qV)) = Sum.inr q := hq
          cases hq
          have v3 := (hL.n (i := 50) (d := 1) (List.mem_cons_of_mem _ (List.mem_cons_of_mem _ (List.mem_cons_of_mem _ (List.mem_cons_of_mem _ (List.mem_cons_of_mem _ List.mem_cons_self))))) v1)
          exact ih ρ2 (v + 1) (by rw [ht2]; exact ht1) (by rw [v3]; exact congrArg some (by omega)) (by omega) (by omega) (by omega)
        case r1 =>
          have hrv : (Sum.inr _ : Option qV ⊕ (Nat × qL × List qV)) = Sum.inl rv := hrv
          cases hrv
        case c1 =>
          have hq : (Sum.inr _ : Option qV ⊕ (Nat × qL × List qV)) = Sum.inr q := hq
          cases hq
          have v3 := (hL.n (i := 52) (d := 1) (List.mem_cons_of_mem _ (List.mem_cons_of_mem _ List.mem_cons_self)) v1)
          exact zSbF0 hT hA hh hl0 7777 ρ2 (v + 1) (by rw [ht2]; exact ht1) (by rw [v3]; exact congrArg some (by omega)) (by omega) (by omega)
      · have gx := q_tkb ht1 hx
        have gf := q_tkb ht1 hf
        have gn := q_tkb ht1 hn
        refine qy_TP.pre (ρ' := ρ1) (g' := zST_b0s_h_2_0.1) (w' := zST_b0s_h_2_0.2.1) (lo' := zST_b0s_h_2_0.2.2.1) (st' := zST_b0s_h_2_0.2.2.2) ?_ (fun ws h => h) (fun h => h.to0 [(24, 2, 2), (26, 0, 0), (44, -1, -1), (50, 0, 0)] [] (by decide +kernel) rfl (by decide +kernel) (fa_ex gx (Int.le_refl _) (Int.le_refl _) (fa_ex gf (Int.le_refl _) (Int.le_refl _) (fa_ex gn hn1 hn2 (fa_ex v1 (by omega) (by omega) fa_nil)))) fa_nil) (fun _ _ h => h) (fun _ h => h)
        refine qs_lnkB (p := 45) (ρ := ρ1) fa_nil hT hA zSg_b0l_2_0 (fa_cons (fun ρ2 ht2 hL hg2 _ => ⟨fun rv hrv => ?r0, fun q hq => ?c0⟩) fa_nil)
        case r0 =>
          have hrv : (Sum.inr _ : Option qV ⊕ (Nat × qL × List qV)) = Sum.inl rv := hrv
          cases hrv
        case c0 =>
          have hq : (Sum.inr _ : Option qV ⊕ (Nat × qL × List qV)) = Sum.inr q := hq
          cases hq
          have v3 := (hL.l (i := 52) (z := 1) (List.mem_cons_of_mem _ (List.mem_cons_of_mem _ (List.mem_cons_of_mem _ (List.mem_cons_of_mem _ (List.mem_cons_of_mem _ (List.mem_cons_of_mem _ (List.mem_cons_of_mem _ List.mem_cons_self))))))))
          exact zSbF0 hT hA hh hl0 7777 ρ2 1 (by rw [ht2]; exact ht1) v3 (by omega) (by omega)
theorem zSbN0_2_1 (hT : zk_t) (hA : zk_a) {fc : Nat → Nat → Int32} (hh : qy_V ex (qΓ1 fc) D as tys zSk2) {ρ0 : List Int} (hl0 : ρ0.length = 45) (hx : ρ0[24]? = some (2 : Int)) (hf : ρ0[26]? = some (1 : Int)) {nv : Int} (hn : ρ0[44]? = some nv) (hn1 : -1 ≤ nv) (hn2 : nv ≤ 0) : ∀ (m : Nat) (ρ : List Int) (v : Int), ρ.take 45 = ρ0 → ρ[50]? = some v → 0 ≤ v → v ≤ 2 → 2 - v < (m : Int) → qy_TP ex D as tys 12 189 fc ρ zST_b0HN.1 zST_b0HN.2.1 zST_b0HN.2.2.1 zST_b0HN.2.2.2 13 (zSBP0 fc ρ0) := by
  intro m
  induction m with
  | zero => intro ρ v _ _ _ h1 h2; exfalso; omega
  | succ m ih =>
    intro ρ v ht hv h0 h1 h2
    have gx := q_tkb ht hx
    have gf := q_tkb ht hf
    have gn := q_tkb ht hn
    refine qy_TP.pre (ρ' := ρ) (g' := zST_b0s_h_2_1.1) (w' := zST_b0s_h_2_1.2.1) (lo' := zST_b0s_h_2_1.2.2.1) (st' := zST_b0s_h_2_1.2.2.2) ?_ (fun ws h => h) (fun h => h.to0 [(24, 2, 2), (26, 1, 1), (44, -1, 0), (50, 0, 2)] [] (by decide +kernel) rfl (by decide +kernel) (fa_ex gx (Int.le_refl _) (Int.le_refl _) (fa_ex gf (Int.le_refl _) (Int.le_refl _) (fa_ex gn hn1 hn2 (fa_ex hv (by omega) (by omega) fa_nil)))) fa_nil) (fun _ _ h => h) (fun _ h => h)
    refine qs_lnkB (p := 45) (ρ := ρ) fa_nil hT hA zSg_b0h_2_1 (fa_cons (fun ρ1 ht1 hL hg1 _ => ⟨fun rv hrv => ?r0, fun q hq => ?c0⟩) fa_nil)
    case r0 =>
      have hrv : (Sum.inr _ : Option qV ⊕ (Nat × qL × List qV)) = Sum.inl rv := hrv
      cases hrv
    case c0 =>
      have hq : (Sum.inr _ : Option qV ⊕ (Nat × qL × List qV)) = Sum.inr q := hq
      cases hq
      have v1 := (hL.n (i := 50) (d := 0) (List.mem_cons_of_mem _ (List.mem_cons_of_mem _ (List.mem_cons_of_mem _ (List.mem_cons_of_mem _ (List.mem_cons_of_mem _ List.mem_cons_self))))) hv)
      have ht1 : ρ1.take 45 = ρ0 := by rw [ht1]; exact ht
      rcases Int.lt_or_le v 2 with hlt | hge
      · skip
        refine qs_lnkB (p := 45) (ρ := ρ1) (fa_cons (zSh3 ex (qΓ1 fc) D as tys hT hA hh) (fa_cons (zSh4 ex (qΓ1 fc) D as tys hT hA) fa_nil)) hT hA zSg_b0bN (fa_cons (fun ρ2 ht2 hL hg2 _ => ⟨fun rv hrv => ?r0, fun q hq => ?c0⟩) (fa_cons (fun ρ2 ht2 hL hg2 _ => ⟨fun rv hrv => ?r1, fun q hq => ?c1⟩) fa_nil))
        case r0 =>
          have hrv : (Sum.inr _ : Option qV ⊕ (Nat × qL × List qV)) = Sum.inl rv := hrv
          cases hrv
        case c0 =>
          have hq : (Sum.inr _ : Option qV ⊕ (Nat × qL × List qV)) = Sum.inr q := hq
          cases hq
          have v3 := (hL.n (i := 50) (d := 1) (List.mem_cons_of_mem _ (List.mem_cons_of_mem _ (List.mem_cons_of_mem _ (List.mem_cons_of_mem _ (List.mem_cons_of_mem _ List.mem_cons_self))))) v1)
          exact ih ρ2 (v + 1) (by rw [ht2]; exact ht1) (by rw [v3]; exact congrArg some (by omega)) (by omega) (by omega) (by omega)
        case r1 =>
          have hrv : (Sum.inr _ : Option qV ⊕ (Nat × qL × List qV)) = Sum.inl rv := hrv
          cases hrv
        case c1 =>
          have hq : (Sum.inr _ : Option qV ⊕ (Nat × qL × List qV)) = Sum.inr q := hq
          cases hq
          have v3 := (hL.n (i := 52) (d := 1) (List.mem_cons_of_mem _ (List.mem_cons_of_mem _ List.mem_cons_self)) v1)
          exact zSbF0 hT hA hh hl0 7777 ρ2 (v + 1) (by rw [ht2]; exact ht1) (by rw [v3]; exact congrArg some (by omega)) (by omega) (by omega)
      · have gx := q_tkb ht1 hx
        have gf := q_tkb ht1 hf
        have gn := q_tkb ht1 hn
        refine qy_TP.pre (ρ' := ρ1) (g' := zST_b0s_l_2_1.1) (w' := zST_b0s_l_2_1.2.1) (lo' := zST_b0s_l_2_1.2.2.1) (st' := zST_b0s_l_2_1.2.2.2) ?_ (fun ws h => h) (fun h => h.to0 [(24, 2, 2), (26, 1, 1), (44, -1, 0), (50, 2, 2)] [] (by decide +kernel) rfl (by decide +kernel) (fa_ex gx (Int.le_refl _) (Int.le_refl _) (fa_ex gf (Int.le_refl _) (Int.le_refl _) (fa_ex gn hn1 hn2 (fa_ex v1 (by omega) (by omega) fa_nil)))) fa_nil) (fun _ _ h => h) (fun _ h => h)
        refine qs_lnkB (p := 45) (ρ := ρ1) (fa_cons (zSh15 ex (qΓ1 fc) D as tys hT hA) fa_nil) hT hA zSg_b0l_2_1 (fa_cons (fun ρ2 ht2 hL hg2 _ => ⟨fun rv hrv => ?r0, fun q hq => ?c0⟩) fa_nil)
        case r0 =>
          have hrv : (Sum.inr _ : Option qV ⊕ (Nat × qL × List qV)) = Sum.inl rv := hrv
          cases hrv
        case c0 =>
          have hq : (Sum.inr _ : Option qV ⊕ (Nat × qL × List qV)) = Sum.inr q := hq
          cases hq
          have v3 := (hL.l (i := 52) (z := 3) (List.mem_cons_of_mem _ (List.mem_cons_of_mem _ (List.mem_cons_of_mem _ (List.mem_cons_of_mem _ (List.mem_cons_of_mem _ (List.mem_cons_of_mem _ (List.mem_cons_of_mem _ List.mem_cons_self))))))))
          exact zSbF0 hT hA hh hl0 7777 ρ2 3 (by rw [ht2]; exact ht1) v3 (by omega) (by omega)
theorem zSbN0_2_2 (hT : zk_t) (hA : zk_a) {fc : Nat → Nat → Int32} (hh : qy_V ex (qΓ1 fc) D as tys zSk2) {ρ0 : List Int} (hl0 : ρ0.length = 45) (hx : ρ0[24]? = some (2 : Int)) (hf : ρ0[26]? = some (2 : Int)) {nv : Int} (hn : ρ0[44]? = some nv) (hn1 : -1 ≤ nv) (hn2 : nv ≤ 1) : ∀ (m : Nat) (ρ : List Int) (v : Int), ρ.take 45 = ρ0 → ρ[50]? = some v → 0 ≤ v → v ≤ 8 → 8 - v < (m : Int) → qy_TP ex D as tys 12 189 fc ρ zST_b0HN.1 zST_b0HN.2.1 zST_b0HN.2.2.1 zST_b0HN.2.2.2 13 (zSBP0 fc ρ0) := by
  intro m
  induction m with
  | zero => intro ρ v _ _ _ h1 h2; exfalso; omega
  | succ m ih =>
    intro ρ v ht hv h0 h1 h2
    have gx := q_tkb ht hx
    have gf := q_tkb ht hf
    have gn := q_tkb ht hn
    refine qy_TP.pre (ρ' := ρ) (g' := zST_b0s_h_2_2.1) (w' := zST_b0s_h_2_2.2.1) (lo' := zST_b0s_h_2_2.2.2.1) (st' := zST_b0s_h_2_2.2.2.2) ?_ (fun ws h => h) (fun h => h.to0 [(24, 2, 2), (26, 2, 2), (44, -1, 1), (50, 0, 8)] [] (by decide +kernel) rfl (by decide +kernel) (fa_ex gx (Int.le_refl _) (Int.le_refl _) (fa_ex gf (Int.le_refl _) (Int.le_refl _) (fa_ex gn hn1 hn2 (fa_ex hv (by omega) (by omega) fa_nil)))) fa_nil) (fun _ _ h => h) (fun _ h => h)
    refine qs_lnkB (p := 45) (ρ := ρ) fa_nil hT hA zSg_b0h_2_2 (fa_cons (fun ρ1 ht1 hL hg1 _ => ⟨fun rv hrv => ?r0, fun q hq => ?c0⟩) fa_nil)
    case r0 =>
      have hrv : (Sum.inr _ : Option qV ⊕ (Nat × qL × List qV)) = Sum.inl rv := hrv
      cases hrv
    case c0 =>
      have hq : (Sum.inr _ : Option qV ⊕ (Nat × qL × List qV)) = Sum.inr q := hq
      cases hq
      have v1 := (hL.n (i := 50) (d := 0) (List.mem_cons_of_mem _ (List.mem_cons_of_mem _ (List.mem_cons_of_mem _ (List.mem_cons_of_mem _ (List.mem_cons_of_mem _ List.mem_cons_self))))) hv)
      have ht1 : ρ1.take 45 = ρ0 := by rw [ht1]; exact ht
      rcases Int.lt_or_le v 8 with hlt | hge
      · skip
        refine qs_lnkB (p := 45) (ρ := ρ1) (fa_cons (zSh3 ex (qΓ1 fc) D as tys hT hA hh) (fa_cons (zSh4 ex (qΓ1 fc) D as tys hT hA) fa_nil)) hT hA zSg_b0bN (fa_cons (fun ρ2 ht2 hL hg2 _ => ⟨fun rv hrv => ?r0, fun q hq => ?c0⟩) (fa_cons (fun ρ2 ht2 hL hg2 _ => ⟨fun rv hrv => ?r1, fun q hq => ?c1⟩) fa_nil))
        case r0 =>
          have hrv : (Sum.inr _ : Option qV ⊕ (Nat × qL × List qV)) = Sum.inl rv := hrv
          cases hrv
        case c0 =>
          have hq : (Sum.inr _ : Option qV ⊕ (Nat × qL × List qV)) = Sum.inr q := hq
          cases hq
          have v3 := (hL.n (i := 50) (d := 1) (List.mem_cons_of_mem _ (List.mem_cons_of_mem _ (List.mem_cons_of_mem _ (List.mem_cons_of_mem _ (List.mem_cons_of_mem _ List.mem_cons_self))))) v1)
          exact ih ρ2 (v + 1) (by rw [ht2]; exact ht1) (by rw [v3]; exact congrArg some (by omega)) (by omega) (by omega) (by omega)
        case r1 =>
          have hrv : (Sum.inr _ : Option qV ⊕ (Nat × qL × List qV)) = Sum.inl rv := hrv
          cases hrv
        case c1 =>
          have hq : (Sum.inr _ : Option qV ⊕ (Nat × qL × List qV)) = Sum.inr q := hq
          cases hq
          have v3 := (hL.n (i := 52) (d := 1) (List.mem_cons_of_mem _ (List.mem_cons_of_mem _ List.mem_cons_self)) v1)
          exact zSbF0 hT hA hh hl0 7777 ρ2 (v + 1) (by rw [ht2]; exact ht1) (by rw [v3]; exact congrArg some (by omega)) (by omega) (by omega)
      · have gx := q_tkb ht1 hx
        have gf := q_tkb ht1 hf
        have gn := q_tkb ht1 hn
        refine qy_TP.pre (ρ' := ρ1) (g' := zST_b0s_l_2_2.1) (w' := zST_b0s_l_2_2.2.1) (lo' := zST_b0s_l_2_2.2.2.1) (st' := zST_b0s_l_2_2.2.2.2) ?_ (fun ws h => h) (fun h => h.to0 [(24, 2, 2), (26, 2, 2), (44, -1, 1), (50, 8, 8)] [] (by decide +kernel) rfl (by decide +kernel) (fa_ex gx (Int.le_refl _) (Int.le_refl _) (fa_ex gf (Int.le_refl _) (Int.le_refl _) (fa_ex gn hn1 hn2 (fa_ex v1 (by omega) (by omega) fa_nil)))) fa_nil) (fun _ _ h => h) (fun _ h => h)
        refine qs_lnkB (p := 45) (ρ := ρ1) (fa_cons (zSh16 ex (qΓ1 fc) D as tys hT hA) fa_nil) hT hA zSg_b0l_2_2 (fa_cons (fun ρ2 ht2 hL hg2 _ => ⟨fun rv hrv => ?r0, fun q hq => ?c0⟩) fa_nil)
        case r0 =>
          have hrv : (Sum.inr _ : Option qV ⊕ (Nat × qL × List qV)) = Sum.inl rv := hrv
          cases hrv
        case c0 =>
          have hq : (Sum.inr _ : Option qV ⊕ (Nat × qL × List qV)) = Sum.inr q := hq
          cases hq
          have v3 := (hL.l (i := 52) (z := 9) (List.mem_cons_of_mem _ (List.mem_cons_of_mem _ (List.mem_cons_of_mem _ (List.mem_cons_of_mem _ (List.mem_cons_of_mem _ (List.mem_cons_of_mem _ (List.mem_cons_of_mem _ List.mem_cons_self))))))))
          exact zSbF0 hT hA hh hl0 7777 ρ2 9 (by rw [ht2]; exact ht1) v3 (by omega) (by omega)
theorem zSbN0_2_3 (hT : zk_t) (hA : zk_a) {fc : Nat → Nat → Int32} (hh : qy_V ex (qΓ1 fc) D as tys zSk2) {ρ0 : List Int} (hl0 : ρ0.length = 45) (hx : ρ0[24]? = some (2 : Int)) (hf : ρ0[26]? = some (3 : Int)) {nv : Int} (hn : ρ0[44]? = some nv) (hn1 : -1 ≤ nv) (hn2 : nv ≤ 2) : ∀ (m : Nat) (ρ : List Int) (v : Int), ρ.take 45 = ρ0 → ρ[50]? = some v → 0 ≤ v → v ≤ 26 → 26 - v < (m : Int) → qy_TP ex D as tys 12 189 fc ρ zST_b0HN.1 zST_b0HN.2.1 zST_b0HN.2.2.1 zST_b0HN.2.2.2 13 (zSBP0 fc ρ0) := by
  intro m
  induction m with
  | zero => intro ρ v _ _ _ h1 h2; exfalso; omega
  | succ m ih =>
    intro ρ v ht hv h0 h1 h2
    have gx := q_tkb ht hx
    have gf := q_tkb ht hf
    have gn := q_tkb ht hn
    refine qy_TP.pre (ρ' := ρ) (g' := zST_b0s_h_2_3.1) (w' := zST_b0s_h_2_3.2.1) (lo' := zST_b0s_h_2_3.2.2.1) (st' := zST_b0s_h_2_3.2.2.2) ?_ (fun ws h => h) (fun h => h.to0 [(24, 2, 2), (26, 3, 3), (44, -1, 2), (50, 0, 26)] [] (by decide +kernel) rfl (by decide +kernel) (fa_ex gx (Int.le_refl _) (Int.le_refl _) (fa_ex gf (Int.le_refl _) (Int.le_refl _) (fa_ex gn hn1 hn2 (fa_ex hv (by omega) (by omega) fa_nil)))) fa_nil) (fun _ _ h => h) (fun _ h => h)
    refine qs_lnkB (p := 45) (ρ := ρ) fa_nil hT hA zSg_b0h_2_3 (fa_cons (fun ρ1 ht1 hL hg1 _ => ⟨fun rv hrv => ?r0, fun q hq => ?c0⟩) fa_nil)
    case r0 =>
      have hrv : (Sum.inr _ : Option qV ⊕ (Nat × qL × List qV)) = Sum.inl rv := hrv
      cases hrv
    case c0 =>
      have hq : (Sum.inr _ : Option qV ⊕ (Nat × qL × List qV)) = Sum.inr q := hq
      cases hq
      have v1 := (hL.n (i := 50) (d := 0) (List.mem_cons_of_mem _ (List.mem_cons_of_mem _ (List.mem_cons_of_mem _ (List.mem_cons_of_mem _ (List.mem_cons_of_mem _ List.mem_cons_self))))) hv)
      have ht1 : ρ1.take 45 = ρ0 := by rw [ht1]; exact ht
      rcases Int.lt_or_le v 26 with hlt | hge
      · skip
        refine qs_lnkB (p := 45) (ρ := ρ1) (fa_cons (zSh3 ex (qΓ1 fc) D as tys hT hA hh) (fa_cons (zSh4 ex (qΓ1 fc) D as tys hT hA) fa_nil)) hT hA zSg_b0bN (fa_cons (fun ρ2 ht2 hL hg2 _ => ⟨fun rv hrv => ?r0, fun q hq => ?c0⟩) (fa_cons (fun ρ2 ht2 hL hg2 _ => ⟨fun rv hrv => ?r1, fun q hq => ?c1⟩) fa_nil))
        case r0 =>
          have hrv : (Sum.inr _ : Option qV ⊕ (Nat × qL × List qV)) = Sum.inl rv := hrv
          cases hrv
        case c0 =>
          have hq : (Sum.inr _ : Option qV ⊕ (Nat × qL × List qV)) = Sum.inr q := hq
          cases hq
          have v3 := (hL.n (i := 50) (d := 1) (List.mem_cons_of_mem _ (List.mem_cons_of_mem _ (List.mem_cons_of_mem _ (List.mem_cons_of_mem _ (List.mem_cons_of_mem _ List.mem_cons_self))))) v1)
          exact ih ρ2 (v + 1) (by rw [ht2]; exact ht1) (by rw [v3]; exact congrArg some (by omega)) (by omega) (by omega) (by omega)
        case r1 =>
          have hrv : (Sum.inr _ : Option qV ⊕ (Nat × qL × List qV)) = Sum.inl rv := hrv
          cases hrv
        case c1 =>
          have hq : (Sum.inr _ : Option qV ⊕ (Nat × qL × List qV)) = Sum.inr q := hq
          cases hq
          have v3 := (hL.n (i := 52) (d := 1) (List.mem_cons_of_mem _ (List.mem_cons_of_mem _ List.mem_cons_self)) v1)
          exact zSbF0 hT hA hh hl0 7777 ρ2 (v + 1) (by rw [ht2]; exact ht1) (by rw [v3]; exact congrArg some (by omega)) (by omega) (by omega)
      · have gx := q_tkb ht1 hx
        have gf := q_tkb ht1 hf
        have gn := q_tkb ht1 hn
        refine qy_TP.pre (ρ' := ρ1) (g' := zST_b0s_l_2_3.1) (w' := zST_b0s_l_2_3.2.1) (lo' := zST_b0s_l_2_3.2.2.1) (st' := zST_b0s_l_2_3.2.2.2) ?_ (fun ws h => h) (fun h => h.to0 [(24, 2, 2), (26, 3, 3), (44, -1, 2), (50, 26, 26)] [] (by decide +kernel) rfl (by decide +kernel) (fa_ex gx (Int.le_refl _) (Int.le_refl _) (fa_ex gf (Int.le_refl _) (Int.le_refl _) (fa_ex gn hn1 hn2 (fa_ex v1 (by omega) (by omega) fa_nil)))) fa_nil) (fun _ _ h => h) (fun _ h => h)
        refine qs_lnkB (p := 45) (ρ := ρ1) (fa_cons (zSh17 ex (qΓ1 fc) D as tys hT hA) fa_nil) hT hA zSg_b0l_2_3 (fa_cons (fun ρ2 ht2 hL hg2 _ => ⟨fun rv hrv => ?r0, fun q hq => ?c0⟩) fa_nil)
        case r0 =>
          have hrv : (Sum.inr _ : Option qV ⊕ (Nat × qL × List qV)) = Sum.inl rv := hrv
          cases hrv
        case c0 =>
          have hq : (Sum.inr _ : Option qV ⊕ (Nat × qL × List qV)) = Sum.inr q := hq
          cases hq
          have v3 := (hL.l (i := 52) (z := 27) (List.mem_cons_of_mem _ (List.mem_cons_of_mem _ (List.mem_cons_of_mem _ (List.mem_cons_of_mem _ (List.mem_cons_of_mem _ (List.mem_cons_of_mem _ (List.mem_cons_of_mem _ List.mem_cons_self))))))))
          exact zSbF0 hT hA hh hl0 7777 ρ2 27 (by rw [ht2]; exact ht1) v3 (by omega) (by omega)
theorem zSbN0_2_4 (hT : zk_t) (hA : zk_a) {fc : Nat → Nat → Int32} (hh : qy_V ex (qΓ1 fc) D as tys zSk2) {ρ0 : List Int} (hl0 : ρ0.length = 45) (hx : ρ0[24]? = some (2 : Int)) (hf : ρ0[26]? = some (4 : Int)) {nv : Int} (hn : ρ0[44]? = some nv) (hn1 : -1 ≤ nv) (hn2 : nv ≤ 3) : ∀ (m : Nat) (ρ : List Int) (v : Int), ρ.take 45 = ρ0 → ρ[50]? = some v → 0 ≤ v → v ≤ 80 → 80 - v < (m : Int) → qy_TP ex D as tys 12 189 fc ρ zST_b0HN.1 zST_b0HN.2.1 zST_b0HN.2.2.1 zST_b0HN.2.2.2 13 (zSBP0 fc ρ0) := by
  intro m
  induction m with
  | zero => intro ρ v _ _ _ h1 h2; exfalso; omega
  | succ m ih =>
    intro ρ v ht hv h0 h1 h2
    have gx := q_tkb ht hx
    have gf := q_tkb ht hf
    have gn := q_tkb ht hn
    refine qy_TP.pre (ρ' := ρ) (g' := zST_b0s_h_2_4.1) (w' := zST_b0s_h_2_4.2.1) (lo' := zST_b0s_h_2_4.2.2.1) (st' := zST_b0s_h_2_4.2.2.2) ?_ (fun ws h => h) (fun h => h.to0 [(24, 2, 2), (26, 4, 4), (44, -1, 3), (50, 0, 80)] [] (by decide +kernel) rfl (by decide +kernel) (fa_ex gx (Int.le_refl _) (Int.le_refl _) (fa_ex gf (Int.le_refl _) (Int.le_refl _) (fa_ex gn hn1 hn2 (fa_ex hv (by omega) (by omega) fa_nil)))) fa_nil) (fun _ _ h => h) (fun _ h => h)
    refine qs_lnkB (p := 45) (ρ := ρ) fa_nil hT hA zSg_b0h_2_4 (fa_cons (fun ρ1 ht1 hL hg1 _ => ⟨fun rv hrv => ?r0, fun q hq => ?c0⟩) fa_nil)
    case r0 =>
      have hrv : (Sum.inr _ : Option qV ⊕ (Nat × qL × List qV)) = Sum.inl rv := hrv
      cases hrv
    case c0 =>
      have hq : (Sum.inr _ : Option qV ⊕ (Nat × qL × List qV)) = Sum.inr q := hq
      cases hq
      have v1 := (hL.n (i := 50) (d := 0) (List.mem_cons_of_mem _ (List.mem_cons_of_mem _ (List.mem_cons_of_mem _ (List.mem_cons_of_mem _ (List.mem_cons_of_mem _ List.mem_cons_self))))) hv)
      have ht1 : ρ1.take 45 = ρ0 := by rw [ht1]; exact ht
      rcases Int.lt_or_le v 80 with hlt | hge
      · skip
        refine qs_lnkB (p := 45) (ρ := ρ1) (fa_cons (zSh3 ex (qΓ1 fc) D as tys hT hA hh) (fa_cons (zSh4 ex (qΓ1 fc) D as tys hT hA) fa_nil)) hT hA zSg_b0bN (fa_cons (fun ρ2 ht2 hL hg2 _ => ⟨fun rv hrv => ?r0, fun q hq => ?c0⟩) (fa_cons (fun ρ2 ht2 hL hg2 _ => ⟨fun rv hrv => ?r1, fun q hq => ?c1⟩) fa_nil))
        case r0 =>
          have hrv : (Sum.inr _ : Option qV ⊕ (Nat × qL × List qV)) = Sum.inl rv := hrv
          cases hrv
        case c0 =>
          have hq : (Sum.inr _ : Option qV ⊕ (Nat × qL × List qV)) = Sum.inr q := hq
          cases hq
          have v3 := (hL.n (i := 50) (d := 1) (List.mem_cons_of_mem _ (List.mem_cons_of_mem _ (List.mem_cons_of_mem _ (List.mem_cons_of_mem _ (List.mem_cons_of_mem _ List.mem_cons_self))))) v1)
          exact ih ρ2 (v + 1) (by rw [ht2]; exact ht1) (by rw [v3]; exact congrArg some (by omega)) (by omega) (by omega) (by omega)
        case r1 =>
          have hrv : (Sum.inr _ : Option qV ⊕ (Nat × qL × List qV)) = Sum.inl rv := hrv
          cases hrv
        case c1 =>
          have hq : (Sum.inr _ : Option qV ⊕ (Nat × qL × List qV)) = Sum.inr q := hq
          cases hq
          have v3 := (hL.n (i := 52) (d := 1) (List.mem_cons_of_mem _ (List.mem_cons_of_mem _ List.mem_cons_self)) v1)
          exact zSbF0 hT hA hh hl0 7777 ρ2 (v + 1) (by rw [ht2]; exact ht1) (by rw [v3]; exact congrArg some (by omega)) (by omega) (by omega)
      · have gx := q_tkb ht1 hx
        have gf := q_tkb ht1 hf
        have gn := q_tkb ht1 hn
        refine qy_TP.pre (ρ' := ρ1) (g' := zST_b0s_l_2_4.1) (w' := zST_b0s_l_2_4.2.1) (lo' := zST_b0s_l_2_4.2.2.1) (st' := zST_b0s_l_2_4.2.2.2) ?_ (fun ws h => h) (fun h => h.to0 [(24, 2, 2), (26, 4, 4), (44, -1, 3), (50, 80, 80)] [] (by decide +kernel) rfl (by decide +kernel) (fa_ex gx (Int.le_refl _) (Int.le_refl _) (fa_ex gf (Int.le_refl _) (Int.le_refl _) (fa_ex gn hn1 hn2 (fa_ex v1 (by omega) (by omega) fa_nil)))) fa_nil) (fun _ _ h => h) (fun _ h => h)
        refine qs_lnkB (p := 45) (ρ := ρ1) (fa_cons (zSh18 ex (qΓ1 fc) D as tys hT hA) fa_nil) hT hA zSg_b0l_2_4 (fa_cons (fun ρ2 ht2 hL hg2 _ => ⟨fun rv hrv => ?r0, fun q hq => ?c0⟩) fa_nil)
        case r0 =>
          have hrv : (Sum.inr _ : Option qV ⊕ (Nat × qL × List qV)) = Sum.inl rv := hrv
          cases hrv
        case c0 =>
          have hq : (Sum.inr _ : Option qV ⊕ (Nat × qL × List qV)) = Sum.inr q := hq
          cases hq
          have v3 := (hL.l (i := 52) (z := 81) (List.mem_cons_of_mem _ (List.mem_cons_of_mem _ (List.mem_cons_of_mem _ (List.mem_cons_of_mem _ (List.mem_cons_of_mem _ (List.mem_cons_of_mem _ (List.mem_cons_of_mem _ List.mem_cons_self))))))))
          exact zSbF0 hT hA hh hl0 7777 ρ2 81 (by rw [ht2]; exact ht1) v3 (by omega) (by omega)
theorem zSbN0_2_5 (hT : zk_t) (hA : zk_a) {fc : Nat → Nat → Int32} (hh : qy_V ex (qΓ1 fc) D as tys zSk2) {ρ0 : List Int} (hl0 : ρ0.length = 45) (hx : ρ0[24]? = some (2 : Int)) (hf : ρ0[26]? = some (5 : Int)) {nv : Int} (hn : ρ0[44]? = some nv) (hn1 : -1 ≤ nv) (hn2 : nv ≤ 4) : ∀ (m : Nat) (ρ : List Int) (v : Int), ρ.take 45 = ρ0 → ρ[50]? = some v → 0 ≤ v → v ≤ 242 → 242 - v < (m : Int) → qy_TP ex D as tys 12 189 fc ρ zST_b0HN.1 zST_b0HN.2.1 zST_b0HN.2.2.1 zST_b0HN.2.2.2 13 (zSBP0 fc ρ0) := by
  intro m
  induction m with
  | zero => intro ρ v _ _ _ h1 h2; exfalso; omega
  | succ m ih =>
    intro ρ v ht hv h0 h1 h2
    have gx := q_tkb ht hx
    have gf := q_tkb ht hf
    have gn := q_tkb ht hn
    refine qy_TP.pre (ρ' := ρ) (g' := zST_b0s_h_2_5.1) (w' := zST_b0s_h_2_5.2.1) (lo' := zST_b0s_h_2_5.2.2.1) (st' := zST_b0s_h_2_5.2.2.2) ?_ (fun ws h => h) (fun h => h.to0 [(24, 2, 2), (26, 5, 5), (44, -1, 4), (50, 0, 242)] [] (by decide +kernel) rfl (by decide +kernel) (fa_ex gx (Int.le_refl _) (Int.le_refl _) (fa_ex gf (Int.le_refl _) (Int.le_refl _) (fa_ex gn hn1 hn2 (fa_ex hv (by omega) (by omega) fa_nil)))) fa_nil) (fun _ _ h => h) (fun _ h => h)
    refine qs_lnkB (p := 45) (ρ := ρ) fa_nil hT hA zSg_b0h_2_5 (fa_cons (fun ρ1 ht1 hL hg1 _ => ⟨fun rv hrv => ?r0, fun q hq => ?c0⟩) fa_nil)
    case r0 =>
      have hrv : (Sum.inr _ : Option qV ⊕ (Nat × qL × List qV)) = Sum.inl rv := hrv
      cases hrv
    case c0 =>
      have hq : (Sum.inr _ : Option qV ⊕ (Nat × qL × List qV)) = Sum.inr q := hq
      cases hq
      have v1 := (hL.n (i := 50) (d := 0) (List.mem_cons_of_mem _ (List.mem_cons_of_mem _ (List.mem_cons_of_mem _ (List.mem_cons_of_mem _ (List.mem_cons_of_mem _ List.mem_cons_self))))) hv)
      have ht1 : ρ1.take 45 = ρ0 := by rw [ht1]; exact ht
      rcases Int.lt_or_le v 242 with hlt | hge
      · skip
        refine qs_lnkB (p := 45) (ρ := ρ1) (fa_cons (zSh3 ex (qΓ1 fc) D as tys hT hA hh) (fa_cons (zSh4 ex (qΓ1 fc) D as tys hT hA) fa_nil)) hT hA zSg_b0bN (fa_cons (fun ρ2 ht2 hL hg2 _ => ⟨fun rv hrv => ?r0, fun q hq => ?c0⟩) (fa_cons (fun ρ2 ht2 hL hg2 _ => ⟨fun rv hrv => ?r1, fun q hq => ?c1⟩) fa_nil))
        case r0 =>
          have hrv : (Sum.inr _ : Option qV ⊕ (Nat × qL × List qV)) = Sum.inl rv := hrv
          cases hrv
        case c0 =>
          have hq : (Sum.inr _ : Option qV ⊕ (Nat × qL × List qV)) = Sum.inr q := hq
          cases hq
          have v3 := (hL.n (i := 50) (d := 1) (List.mem_cons_of_mem _ (List.mem_cons_of_mem _ (List.mem_cons_of_mem _ (List.mem_cons_of_mem _ (List.mem_cons_of_mem _ List.mem_cons_self))))) v1)
          exact ih ρ2 (v + 1) (by rw [ht2]; exact ht1) (by rw [v3]; exact congrArg some (by omega)) (by omega) (by omega) (by omega)
        case r1 =>
          have hrv : (Sum.inr _ : Option qV ⊕ (Nat × qL × List qV)) = Sum.inl rv := hrv
          cases hrv
        case c1 =>
          have hq : (Sum.inr _ : Option qV ⊕ (Nat × qL × List qV)) = Sum.inr q := hq
          cases hq
          have v3 := (hL.n (i := 52) (d := 1) (List.mem_cons_of_mem _ (List.mem_cons_of_mem _ List.mem_cons_self)) v1)
          exact zSbF0 hT hA hh hl0 7777 ρ2 (v + 1) (by rw [ht2]; exact ht1) (by rw [v3]; exact congrArg some (by omega)) (by omega) (by omega)
      · have gx := q_tkb ht1 hx
        have gf := q_tkb ht1 hf
        have gn := q_tkb ht1 hn
        refine qy_TP.pre (ρ' := ρ1) (g' := zST_b0s_l_2_5.1) (w' := zST_b0s_l_2_5.2.1) (lo' := zST_b0s_l_2_5.2.2.1) (st' := zST_b0s_l_2_5.2.2.2) ?_ (fun ws h => h) (fun h => h.to0 [(24, 2, 2), (26, 5, 5), (44, -1, 4), (50, 242, 242)] [] (by decide +kernel) rfl (by decide +kernel) (fa_ex gx (Int.le_refl _) (Int.le_refl _) (fa_ex gf (Int.le_refl _) (Int.le_refl _) (fa_ex gn hn1 hn2 (fa_ex v1 (by omega) (by omega) fa_nil)))) fa_nil) (fun _ _ h => h) (fun _ h => h)
        refine qs_lnkB (p := 45) (ρ := ρ1) (fa_cons (zSh19 ex (qΓ1 fc) D as tys hT hA) fa_nil) hT hA zSg_b0l_2_5 (fa_cons (fun ρ2 ht2 hL hg2 _ => ⟨fun rv hrv => ?r0, fun q hq => ?c0⟩) fa_nil)
        case r0 =>
          have hrv : (Sum.inr _ : Option qV ⊕ (Nat × qL × List qV)) = Sum.inl rv := hrv
          cases hrv
        case c0 =>
          have hq : (Sum.inr _ : Option qV ⊕ (Nat × qL × List qV)) = Sum.inr q := hq
          cases hq
          have v3 := (hL.l (i := 52) (z := 243) (List.mem_cons_of_mem _ (List.mem_cons_of_mem _ (List.mem_cons_of_mem _ (List.mem_cons_of_mem _ (List.mem_cons_of_mem _ (List.mem_cons_of_mem _ (List.mem_cons_of_mem _ List.mem_cons_self))))))))
          exact zSbF0 hT hA hh hl0 7777 ρ2 243 (by rw [ht2]; exact ht1) v3 (by omega) (by omega)
theorem zSbN0_3_0 (hT : zk_t) (hA : zk_a) {fc : Nat → Nat → Int32} (hh : qy_V ex (qΓ1 fc) D as tys zSk2) {ρ0 : List Int} (hl0 : ρ0.length = 45) (hx : ρ0[24]? = some (3 : Int)) (hf : ρ0[26]? = some (0 : Int)) {nv : Int} (hn : ρ0[44]? = some nv) (hn1 : -1 ≤ nv) (hn2 : nv ≤ -1) : ∀ (m : Nat) (ρ : List Int) (v : Int), ρ.take 45 = ρ0 → ρ[50]? = some v → 0 ≤ v → v ≤ 0 → 0 - v < (m : Int) → qy_TP ex D as tys 12 189 fc ρ zST_b0HN.1 zST_b0HN.2.1 zST_b0HN.2.2.1 zST_b0HN.2.2.2 13 (zSBP0 fc ρ0) := by
  intro m
  induction m with
  | zero => intro ρ v _ _ _ h1 h2; exfalso; omega
  | succ m ih =>
    intro ρ v ht hv h0 h1 h2
    have gx := q_tkb ht hx
    have gf := q_tkb ht hf
    have gn := q_tkb ht hn
    refine qy_TP.pre (ρ' := ρ) (g' := zST_b0s_h_3_0.1) (w' := zST_b0s_h_3_0.2.1) (lo' := zST_b0s_h_3_0.2.2.1) (st' := zST_b0s_h_3_0.2.2.2) ?_ (fun ws h => h) (fun h => h.to0 [(24, 3, 3), (26, 0, 0), (44, -1, -1), (50, 0, 0)] [] (by decide +kernel) rfl (by decide +kernel) (fa_ex gx (Int.le_refl _) (Int.le_refl _) (fa_ex gf (Int.le_refl _) (Int.le_refl _) (fa_ex gn hn1 hn2 (fa_ex hv (by omega) (by omega) fa_nil)))) fa_nil) (fun _ _ h => h) (fun _ h => h)
    refine qs_lnkB (p := 45) (ρ := ρ) fa_nil hT hA zSg_b0h_3_0 (fa_cons (fun ρ1 ht1 hL hg1 _ => ⟨fun rv hrv => ?r0, fun q hq => ?c0⟩) fa_nil)
    case r0 =>
      have hrv : (Sum.inr _ : Option qV ⊕ (Nat × qL × List qV)) = Sum.inl rv := hrv
      cases hrv
    case c0 =>
      have hq : (Sum.inr _ : Option qV ⊕ (Nat × qL × List qV)) = Sum.inr q := hq
      cases hq
      have v1 := (hL.n (i := 50) (d := 0) (List.mem_cons_of_mem _ (List.mem_cons_of_mem _ (List.mem_cons_of_mem _ (List.mem_cons_of_mem _ (List.mem_cons_of_mem _ List.mem_cons_self))))) hv)
      have ht1 : ρ1.take 45 = ρ0 := by rw [ht1]; exact ht
      rcases Int.lt_or_le v 0 with hlt | hge
      · skip
        refine qs_lnkB (p := 45) (ρ := ρ1) (fa_cons (zSh3 ex (qΓ1 fc) D as tys hT hA hh) (fa_cons (zSh4 ex (qΓ1 fc) D as tys hT hA) fa_nil)) hT hA zSg_b0bN (fa_cons (fun ρ2 ht2 hL hg2 _ => ⟨fun rv hrv => ?r0, fun q hq => ?c0⟩) (fa_cons (fun ρ2 ht2 hL hg2 _ => ⟨fun rv hrv => ?r1, fun q hq => ?c1⟩) fa_nil))
        case r0 =>
          have hrv : (Sum.inr _ : Option qV ⊕ (Nat × qL × List qV)) = Sum.inl rv := hrv
          cases hrv
        case c0 =>
          have hq : (Sum.inr _ : Option qV ⊕ (Nat × qL × List qV)) = Sum.inr q := hq
          cases hq
          have v3 := (hL.n (i := 50) (d := 1) (List.mem_cons_of_mem _ (List.mem_cons_of_mem _ (List.mem_cons_of_mem _ (List.mem_cons_of_mem _ (List.mem_cons_of_mem _ List.mem_cons_self))))) v1)
          exact ih ρ2 (v + 1) (by rw [ht2]; exact ht1) (by rw [v3]; exact congrArg some (by omega)) (by omega) (by omega) (by omega)
        case r1 =>
          have hrv : (Sum.inr _ : Option qV ⊕ (Nat × qL × List qV)) = Sum.inl rv := hrv
          cases hrv
        case c1 =>
          have hq : (Sum.inr _ : Option qV ⊕ (Nat × qL × List qV)) = Sum.inr q := hq
          cases hq
          have v3 := (hL.n (i := 52) (d := 1) (List.mem_cons_of_mem _ (List.mem_cons_of_mem _ List.mem_cons_self)) v1)
          exact zSbF0 hT hA hh hl0 7777 ρ2 (v + 1) (by rw [ht2]; exact ht1) (by rw [v3]; exact congrArg some (by omega)) (by omega) (by omega)
      · have gx := q_tkb ht1 hx
        have gf := q_tkb ht1 hf
        have gn := q_tkb ht1 hn
        refine qy_TP.pre (ρ' := ρ1) (g' := zST_b0s_h_3_0.1) (w' := zST_b0s_h_3_0.2.1) (lo' := zST_b0s_h_3_0.2.2.1) (st' := zST_b0s_h_3_0.2.2.2) ?_ (fun ws h => h) (fun h => h.to0 [(24, 3, 3), (26, 0, 0), (44, -1, -1), (50, 0, 0)] [] (by decide +kernel) rfl (by decide +kernel) (fa_ex gx (Int.le_refl _) (Int.le_refl _) (fa_ex gf (Int.le_refl _) (Int.le_refl _) (fa_ex gn hn1 hn2 (fa_ex v1 (by omega) (by omega) fa_nil)))) fa_nil) (fun _ _ h => h) (fun _ h => h)
        refine qs_lnkB (p := 45) (ρ := ρ1) fa_nil hT hA zSg_b0l_3_0 (fa_cons (fun ρ2 ht2 hL hg2 _ => ⟨fun rv hrv => ?r0, fun q hq => ?c0⟩) fa_nil)
        case r0 =>
          have hrv : (Sum.inr _ : Option qV ⊕ (Nat × qL × List qV)) = Sum.inl rv := hrv
          cases hrv
        case c0 =>
          have hq : (Sum.inr _ : Option qV ⊕ (Nat × qL × List qV)) = Sum.inr q := hq
          cases hq
          have v3 := (hL.l (i := 52) (z := 1) (List.mem_cons_of_mem _ (List.mem_cons_of_mem _ (List.mem_cons_of_mem _ (List.mem_cons_of_mem _ (List.mem_cons_of_mem _ (List.mem_cons_of_mem _ (List.mem_cons_of_mem _ List.mem_cons_self))))))))
          exact zSbF0 hT hA hh hl0 7777 ρ2 1 (by rw [ht2]; exact ht1) v3 (by omega) (by omega)
theorem zSbN0_3_1 (hT : zk_t) (hA : zk_a) {fc : Nat → Nat → Int32} (hh : qy_V ex (qΓ1 fc) D as tys zSk2) {ρ0 : List Int} (hl0 : ρ0.length = 45) (hx : ρ0[24]? = some (3 : Int)) (hf : ρ0[26]? = some (1 : Int)) {nv : Int} (hn : ρ0[44]? = some nv) (hn1 : -1 ≤ nv) (hn2 : nv ≤ 0) : ∀ (m : Nat) (ρ : List Int) (v : Int), ρ.take 45 = ρ0 → ρ[50]? = some v → 0 ≤ v → v ≤ 3 → 3 - v < (m : Int) → qy_TP ex D as tys 12 189 fc ρ zST_b0HN.1 zST_b0HN.2.1 zST_b0HN.2.2.1 zST_b0HN.2.2.2 13 (zSBP0 fc ρ0) := by
  intro m
  induction m with
  | zero => intro ρ v _ _ _ h1 h2; exfalso; omega
  | succ m ih =>
    intro ρ v ht hv h0 h1 h2
    have gx := q_tkb ht hx
    have gf := q_tkb ht hf
    have gn := q_tkb ht hn
    refine qy_TP.pre (ρ' := ρ) (g' := zST_b0s_h_3_1.1) (w' := zST_b0s_h_3_1.2.1) (lo' := zST_b0s_h_3_1.2.2.1) (st' := zST_b0s_h_3_1.2.2.2) ?_ (fun ws h => h) (fun h => h.to0 [(24, 3, 3), (26, 1, 1), (44, -1, 0), (50, 0, 3)] [] (by decide +kernel) rfl (by decide +kernel) (fa_ex gx (Int.le_refl _) (Int.le_refl _) (fa_ex gf (Int.le_refl _) (Int.le_refl _) (fa_ex gn hn1 hn2 (fa_ex hv (by omega) (by omega) fa_nil)))) fa_nil) (fun _ _ h => h) (fun _ h => h)
    refine qs_lnkB (p := 45) (ρ := ρ) fa_nil hT hA zSg_b0h_3_1 (fa_cons (fun ρ1 ht1 hL hg1 _ => ⟨fun rv hrv => ?r0, fun q hq => ?c0⟩) fa_nil)
    case r0 =>
      have hrv : (Sum.inr _ : Option qV ⊕ (Nat × qL × List qV)) = Sum.inl rv := hrv
      cases hrv
    case c0 =>
      have hq : (Sum.inr _ : Option qV ⊕ (Nat × qL × List qV)) = Sum.inr q := hq
      cases hq
      have v1 := (hL.n (i := 50) (d := 0) (List.mem_cons_of_mem _ (List.mem_cons_of_mem _ (List.mem_cons_of_mem _ (List.mem_cons_of_mem _ (List.mem_cons_of_mem _ List.mem_cons_self))))) hv)
      have ht1 : ρ1.take 45 = ρ0 := by rw [ht1]; exact ht
      rcases Int.lt_or_le v 3 with hlt | hge
      · skip
        refine qs_lnkB (p := 45) (ρ := ρ1) (fa_cons (zSh3 ex (qΓ1 fc) D as tys hT hA hh) (fa_cons (zSh4 ex (qΓ1 fc) D as tys hT hA) fa_nil)) hT hA zSg_b0bN (fa_cons (fun ρ2 ht2 hL hg2 _ => ⟨fun rv hrv => ?r0, fun q hq => ?c0⟩) (fa_cons (fun ρ2 ht2 hL hg2 _ => ⟨fun rv hrv => ?r1, fun q hq => ?c1⟩) fa_nil))
        case r0 =>
          have hrv : (Sum.inr _ : Option qV ⊕ (Nat × qL × List qV)) = Sum.inl rv := hrv
          cases hrv
        case c0 =>
          have hq : (Sum.inr _ : Option qV ⊕ (Nat × qL × List qV)) = Sum.inr q := hq
          cases hq
          have v3 := (hL.n (i := 50) (d := 1) (List.mem_cons_of_mem _ (List.mem_cons_of_mem _ (List.mem_cons_of_mem _ (List.mem_cons_of_mem _ (List.mem_cons_of_mem _ List.mem_cons_self))))) v1)
          exact ih ρ2 (v + 1) (by rw [ht2]; exact ht1) (by rw [v3]; exact congrArg some (by omega)) (by omega) (by omega) (by omega)
        case r1 =>
          have hrv : (Sum.inr _ : Option qV ⊕ (Nat × qL × List qV)) = Sum.inl rv := hrv
          cases hrv
        case c1 =>
          have hq : (Sum.inr _ : Option qV ⊕ (Nat × qL × List qV)) = Sum.inr q := hq
          cases hq
          have v3 := (hL.n (i := 52) (d := 1) (List.mem_cons_of_mem _ (List.mem_cons_of_mem _ List.mem_cons_self)) v1)
          exact zSbF0 hT hA hh hl0 7777 ρ2 (v + 1) (by rw [ht2]; exact ht1) (by rw [v3]; exact congrArg some (by omega)) (by omega) (by omega)
      · have gx := q_tkb ht1 hx
        have gf := q_tkb ht1 hf
        have gn := q_tkb ht1 hn
        refine qy_TP.pre (ρ' := ρ1) (g' := zST_b0s_l_3_1.1) (w' := zST_b0s_l_3_1.2.1) (lo' := zST_b0s_l_3_1.2.2.1) (st' := zST_b0s_l_3_1.2.2.2) ?_ (fun ws h => h) (fun h => h.to0 [(24, 3, 3), (26, 1, 1), (44, -1, 0), (50, 3, 3)] [] (by decide +kernel) rfl (by decide +kernel) (fa_ex gx (Int.le_refl _) (Int.le_refl _) (fa_ex gf (Int.le_refl _) (Int.le_refl _) (fa_ex gn hn1 hn2 (fa_ex v1 (by omega) (by omega) fa_nil)))) fa_nil) (fun _ _ h => h) (fun _ h => h)
        refine qs_lnkB (p := 45) (ρ := ρ1) (fa_cons (zSh20 ex (qΓ1 fc) D as tys hT hA) fa_nil) hT hA zSg_b0l_3_1 (fa_cons (fun ρ2 ht2 hL hg2 _ => ⟨fun rv hrv => ?r0, fun q hq => ?c0⟩) fa_nil)
        case r0 =>
          have hrv : (Sum.inr _ : Option qV ⊕ (Nat × qL × List qV)) = Sum.inl rv := hrv
          cases hrv
        case c0 =>
          have hq : (Sum.inr _ : Option qV ⊕ (Nat × qL × List qV)) = Sum.inr q := hq
          cases hq
          have v3 := (hL.l (i := 52) (z := 4) (List.mem_cons_of_mem _ (List.mem_cons_of_mem _ (List.mem_cons_of_mem _ (List.mem_cons_of_mem _ (List.mem_cons_of_mem _ (List.mem_cons_of_mem _ (List.mem_cons_of_mem _ List.mem_cons_self))))))))
          exact zSbF0 hT hA hh hl0 7777 ρ2 4 (by rw [ht2]; exact ht1) v3 (by omega) (by omega)
theorem zSbN0_3_2 (hT : zk_t) (hA : zk_a) {fc : Nat → Nat → Int32} (hh : qy_V ex (qΓ1 fc) D as tys zSk2) {ρ0 : List Int} (hl0 : ρ0.length = 45) (hx : ρ0[24]? = some (3 : Int)) (hf : ρ0[26]? = some (2 : Int)) {nv : Int} (hn : ρ0[44]? = some nv) (hn1 : -1 ≤ nv) (hn2 : nv ≤ 1) : ∀ (m : Nat) (ρ : List Int) (v : Int), ρ.take 45 = ρ0 → ρ[50]? = some v → 0 ≤ v → v ≤ 15 → 15 - v < (m : Int) → qy_TP ex D as tys 12 189 fc ρ zST_b0HN.1 zST_b0HN.2.1 zST_b0HN.2.2.1 zST_b0HN.2.2.2 13 (zSBP0 fc ρ0) := by
  intro m
  induction m with
  | zero => intro ρ v _ _ _ h1 h2; exfalso; omega
  | succ m ih =>
    intro ρ v ht hv h0 h1 h2
    have gx := q_tkb ht hx
    have gf := q_tkb ht hf
    have gn := q_tkb ht hn
    refine qy_TP.pre (ρ' := ρ) (g' := zST_b0s_h_3_2.1) (w' := zST_b0s_h_3_2.2.1) (lo' := zST_b0s_h_3_2.2.2.1) (st' := zST_b0s_h_3_2.2.2.2) ?_ (fun ws h => h) (fun h => h.to0 [(24, 3, 3), (26, 2, 2), (44, -1, 1), (50, 0, 15)] [] (by decide +kernel) rfl (by decide +kernel) (fa_ex gx (Int.le_refl _) (Int.le_refl _) (fa_ex gf (Int.le_refl _) (Int.le_refl _) (fa_ex gn hn1 hn2 (fa_ex hv (by omega) (by omega) fa_nil)))) fa_nil) (fun _ _ h => h) (fun _ h => h)
    refine qs_lnkB (p := 45) (ρ := ρ) fa_nil hT hA zSg_b0h_3_2 (fa_cons (fun ρ1 ht1 hL hg1 _ => ⟨fun rv hrv => ?r0, fun q hq => ?c0⟩) fa_nil)
    case r0 =>
      have hrv : (Sum.inr _ : Option qV ⊕ (Nat × qL × List qV)) = Sum.inl rv := hrv
      cases hrv
    case c0 =>
      have hq : (Sum.inr _ : Option qV ⊕ (Nat × qL × List qV)) = Sum.inr q := hq
      cases hq
      have v1 := (hL.n (i := 50) (d := 0) (List.mem_cons_of_mem _ (List.mem_cons_of_mem _ (List.mem_cons_of_mem _ (List.mem_cons_of_mem _ (List.mem_cons_of_mem _ List.mem_cons_self))))) hv)
      have ht1 : ρ1.take 45 = ρ0 := by rw [ht1]; exact ht
      rcases Int.lt_or_le v 15 with hlt | hge
      · skip
        refine qs_lnkB (p := 45) (ρ := ρ1) (fa_cons (zSh3 ex (qΓ1 fc) D as tys hT hA hh) (fa_cons (zSh4 ex (qΓ1 fc) D as tys hT hA) fa_nil)) hT hA zSg_b0bN (fa_cons (fun ρ2 ht2 hL hg2 _ => ⟨fun rv hrv => ?r0, fun q hq => ?c0⟩) (fa_cons (fun ρ2 ht2 hL hg2 _ => ⟨fun rv hrv => ?r1, fun q hq => ?c1⟩) fa_nil))
        case r0 =>
          have hrv : (Sum.inr _ : Option qV ⊕ (Nat × qL × List qV)) = Sum.inl rv := hrv
          cases hrv
        case c0 =>
          have hq : (Sum.inr _ : Option qV ⊕ (Nat × qL × List qV)) = Sum.inr q := hq
          cases hq
          have v3 := (hL.n (i := 50) (d := 1) (List.mem_cons_of_mem _ (List.mem_cons_of_mem _ (List.mem_cons_of_mem _ (List.mem_cons_of_mem _ (List.mem_cons_of_mem _ List.mem_cons_self))))) v1)
          exact ih ρ2 (v + 1) (by rw [ht2]; exact ht1) (by rw [v3]; exact congrArg some (by omega)) (by omega) (by omega) (by omega)
        case r1 =>
          have hrv : (Sum.inr _ : Option qV ⊕ (Nat × qL × List qV)) = Sum.inl rv := hrv
          cases hrv
        case c1 =>
          have hq : (Sum.inr _ : Option qV ⊕ (Nat × qL × List qV)) = Sum.inr q := hq
          cases hq
          have v3 := (hL.n (i := 52) (d := 1) (List.mem_cons_of_mem _ (List.mem_cons_of_mem _ List.mem_cons_self)) v1)
          exact zSbF0 hT hA hh hl0 7777 ρ2 (v + 1) (by rw [ht2]; exact ht1) (by rw [v3]; exact congrArg some (by omega)) (by omega) (by omega)
      · have gx := q_tkb ht1 hx
        have gf := q_tkb ht1 hf
        have gn := q_tkb ht1 hn
        refine qy_TP.pre (ρ' := ρ1) (g' := zST_b0s_l_3_2.1) (w' := zST_b0s_l_3_2.2.1) (lo' := zST_b0s_l_3_2.2.2.1) (st' := zST_b0s_l_3_2.2.2.2) ?_ (fun ws h => h) (fun h => h.to0 [(24, 3, 3), (26, 2, 2), (44, -1, 1), (50, 15, 15)] [] (by decide +kernel) rfl (by decide +kernel) (fa_ex gx (Int.le_refl _) (Int.le_refl _) (fa_ex gf (Int.le_refl _) (Int.le_refl _) (fa_ex gn hn1 hn2 (fa_ex v1 (by omega) (by omega) fa_nil)))) fa_nil) (fun _ _ h => h) (fun _ h => h)
        refine qs_lnkB (p := 45) (ρ := ρ1) (fa_cons (zSh21 ex (qΓ1 fc) D as tys hT hA) fa_nil) hT hA zSg_b0l_3_2 (fa_cons (fun ρ2 ht2 hL hg2 _ => ⟨fun rv hrv => ?r0, fun q hq => ?c0⟩) fa_nil)
        case r0 =>
          have hrv : (Sum.inr _ : Option qV ⊕ (Nat × qL × List qV)) = Sum.inl rv := hrv
          cases hrv
        case c0 =>
          have hq : (Sum.inr _ : Option qV ⊕ (Nat × qL × List qV)) = Sum.inr q := hq
          cases hq
          have v3 := (hL.l (i := 52) (z := 16) (List.mem_cons_of_mem _ (List.mem_cons_of_mem _ (List.mem_cons_of_mem _ (List.mem_cons_of_mem _ (List.mem_cons_of_mem _ (List.mem_cons_of_mem _ (List.mem_cons_of_mem _ List.mem_cons_self))))))))
          exact zSbF0 hT hA hh hl0 7777 ρ2 16 (by rw [ht2]; exact ht1) v3 (by omega) (by omega)
theorem zSbN0_3_3 (hT : zk_t) (hA : zk_a) {fc : Nat → Nat → Int32} (hh : qy_V ex (qΓ1 fc) D as tys zSk2) {ρ0 : List Int} (hl0 : ρ0.length = 45) (hx : ρ0[24]? = some (3 : Int)) (hf : ρ0[26]? = some (3 : Int)) {nv : Int} (hn : ρ0[44]? = some nv) (hn1 : -1 ≤ nv) (hn2 : nv ≤ 2) : ∀ (m : Nat) (ρ : List Int) (v : Int), ρ.take 45 = ρ0 → ρ[50]? = some v → 0 ≤ v → v ≤ 63 → 63 - v < (m : Int) → qy_TP ex D as tys 12 189 fc ρ zST_b0HN.1 zST_b0HN.2.1 zST_b0HN.2.2.1 zST_b0HN.2.2.2 13 (zSBP0 fc ρ0) := by
  intro m
  induction m with
  | zero => intro ρ v _ _ _ h1 h2; exfalso; omega
  | succ m ih =>
    intro ρ v ht hv h0 h1 h2
    have gx := q_tkb ht hx
    have gf := q_tkb ht hf
    have gn := q_tkb ht hn
    refine qy_TP.pre (ρ' := ρ) (g' := zST_b0s_h_3_3.1) (w' := zST_b0s_h_3_3.2.1) (lo' := zST_b0s_h_3_3.2.2.1) (st' := zST_b0s_h_3_3.2.2.2) ?_ (fun ws h => h) (fun h => h.to0 [(24, 3, 3), (26, 3, 3), (44, -1, 2), (50, 0, 63)] [] (by decide +kernel) rfl (by decide +kernel) (fa_ex gx (Int.le_refl _) (Int.le_refl _) (fa_ex gf (Int.le_refl _) (Int.le_refl _) (fa_ex gn hn1 hn2 (fa_ex hv (by omega) (by omega) fa_nil)))) fa_nil) (fun _ _ h => h) (fun _ h => h)
    refine qs_lnkB (p := 45) (ρ := ρ) fa_nil hT hA zSg_b0h_3_3 (fa_cons (fun ρ1 ht1 hL hg1 _ => ⟨fun rv hrv => ?r0, fun q hq => ?c0⟩) fa_nil)
    case r0 =>
      have hrv : (Sum.inr _ : Option qV ⊕ (Nat × qL × List qV)) = Sum.inl rv := hrv
      cases hrv
    case c0 =>
      have hq : (Sum.inr _ : Option qV ⊕ (Nat × qL × List qV)) = Sum.inr q := hq
      cases hq
      have v1 := (hL.n (i := 50) (d := 0) (List.mem_cons_of_mem _ (List.mem_cons_of_mem _ (List.mem_cons_of_mem _ (List.mem_cons_of_mem _ (List.mem_cons_of_mem _ List.mem_cons_self))))) hv)
      have ht1 : ρ1.take 45 = ρ0 := by rw [ht1]; exact ht
      rcases Int.lt_or_le v 63 with hlt | hge
      · skip
        refine qs_lnkB (p := 45) (ρ := ρ1) (fa_cons (zSh3 ex (qΓ1 fc) D as tys hT hA hh) (fa_cons (zSh4 ex (qΓ1 fc) D as tys hT hA) fa_nil)) hT hA zSg_b0bN (fa_cons (fun ρ2 ht2 hL hg2 _ => ⟨fun rv hrv => ?r0, fun q hq => ?c0⟩) (fa_cons (fun ρ2 ht2 hL hg2 _ => ⟨fun rv hrv => ?r1, fun q hq => ?c1⟩) fa_nil))
        case r0 =>
          have hrv : (Sum.inr _ : Option qV ⊕ (Nat × qL × List qV)) = Sum.inl rv := hrv
          cases hrv
        case c0 =>
          have hq : (Sum.inr _ : Option qV ⊕ (Nat × qL × List qV)) = Sum.inr q := hq
          cases hq
          have v3 := (hL.n (i := 50) (d := 1) (List.mem_cons_of_mem _ (List.mem_cons_of_mem _ (List.mem_cons_of_mem _ (List.mem_cons_of_mem _ (List.mem_cons_of_mem _ List.mem_cons_self))))) v1)
          exact ih ρ2 (v + 1) (by rw [ht2]; exact ht1) (by rw [v3]; exact congrArg some (by omega)) (by omega) (by omega) (by omega)
        case r1 =>
          have hrv : (Sum.inr _ : Option qV ⊕ (Nat × qL × List qV)) = Sum.inl rv := hrv
          cases hrv
        case c1 =>
          have hq : (Sum.inr _ : Option qV ⊕ (Nat × qL × List qV)) = Sum.inr q := hq
          cases hq
          have v3 := (hL.n (i := 52) (d := 1) (List.mem_cons_of_mem _ (List.mem_cons_of_mem _ List.mem_cons_self)) v1)
          exact zSbF0 hT hA hh hl0 7777 ρ2 (v + 1) (by rw [ht2]; exact ht1) (by rw [v3]; exact congrArg some (by omega)) (by omega) (by omega)
      · have gx := q_tkb ht1 hx
        have gf := q_tkb ht1 hf
        have gn := q_tkb ht1 hn
        refine qy_TP.pre (ρ' := ρ1) (g' := zST_b0s_l_3_3.1) (w' := zST_b0s_l_3_3.2.1) (lo' := zST_b0s_l_3_3.2.2.1) (st' := zST_b0s_l_3_3.2.2.2) ?_ (fun ws h => h) (fun h => h.to0 [(24, 3, 3), (26, 3, 3), (44, -1, 2), (50, 63, 63)] [] (by decide +kernel) rfl (by decide +kernel) (fa_ex gx (Int.le_refl _) (Int.le_refl _) (fa_ex gf (Int.le_refl _) (Int.le_refl _) (fa_ex gn hn1 hn2 (fa_ex v1 (by omega) (by omega) fa_nil)))) fa_nil) (fun _ _ h => h) (fun _ h => h)
        refine qs_lnkB (p := 45) (ρ := ρ1) (fa_cons (zSh22 ex (qΓ1 fc) D as tys hT hA) fa_nil) hT hA zSg_b0l_3_3 (fa_cons (fun ρ2 ht2 hL hg2 _ => ⟨fun rv hrv => ?r0, fun q hq => ?c0⟩) fa_nil)
        case r0 =>
          have hrv : (Sum.inr _ : Option qV ⊕ (Nat × qL × List qV)) = Sum.inl rv := hrv
          cases hrv
        case c0 =>
          have hq : (Sum.inr _ : Option qV ⊕ (Nat × qL × List qV)) = Sum.inr q := hq
          cases hq
          have v3 := (hL.l (i := 52) (z := 64) (List.mem_cons_of_mem _ (List.mem_cons_of_mem _ (List.mem_cons_of_mem _ (List.mem_cons_of_mem _ (List.mem_cons_of_mem _ (List.mem_cons_of_mem _ (List.mem_cons_of_mem _ List.mem_cons_self))))))))
          exact zSbF0 hT hA hh hl0 7777 ρ2 64 (by rw [ht2]; exact ht1) v3 (by omega) (by omega)
theorem zSbN0_3_4 (hT : zk_t) (hA : zk_a) {fc : Nat → Nat → Int32} (hh : qy_V ex (qΓ1 fc) D as tys zSk2) {ρ0 : List Int} (hl0 : ρ0.length = 45) (hx : ρ0[24]? = some (3 : Int)) (hf : ρ0[26]? = some (4 : Int)) {nv : Int} (hn : ρ0[44]? = some nv) (hn1 : -1 ≤ nv) (hn2 : nv ≤ 3) : ∀ (m : Nat) (ρ : List Int) (v : Int), ρ.take 45 = ρ0 → ρ[50]? = some v → 0 ≤ v → v ≤ 255 → 255 - v < (m : Int) → qy_TP ex D as tys 12 189 fc ρ zST_b0HN.1 zST_b0HN.2.1 zST_b0HN.2.2.1 zST_b0HN.2.2.2 13 (zSBP0 fc ρ0) := by
  intro m
  induction m with
  | zero => intro ρ v _ _ _ h1 h2; exfalso; omega
  | succ m ih =>
    intro ρ v ht hv h0 h1 h2
    have gx := q_tkb ht hx
    have gf := q_tkb ht hf
    have gn := q_tkb ht hn
    refine qy_TP.pre (ρ' := ρ) (g' := zST_b0s_h_3_4.1) (w' := zST_b0s_h_3_4.2.1) (lo' := zST_b0s_h_3_4.2.2.1) (st' := zST_b0s_h_3_4.2.2.2) ?_ (fun ws h => h) (fun h => h.to0 [(24, 3, 3), (26, 4, 4), (44, -1, 3), (50, 0, 255)] [] (by decide +kernel) rfl (by decide +kernel) (fa_ex gx (Int.le_refl _) (Int.le_refl _) (fa_ex gf (Int.le_refl _) (Int.le_refl _) (fa_ex gn hn1 hn2 (fa_ex hv (by omega) (by omega) fa_nil)))) fa_nil) (fun _ _ h => h) (fun _ h => h)
    refine qs_lnkB (p := 45) (ρ := ρ) fa_nil hT hA zSg_b0h_3_4 (fa_cons (fun ρ1 ht1 hL hg1 _ => ⟨fun rv hrv => ?r0, fun q hq => ?c0⟩) fa_nil)
    case r0 =>
      have hrv : (Sum.inr _ : Option qV ⊕ (Nat × qL × List qV)) = Sum.inl rv := hrv
      cases hrv
    case c0 =>
      have hq : (Sum.inr _ : Option qV ⊕ (Nat × qL × List qV)) = Sum.inr q := hq
      cases hq
      have v1 := (hL.n (i := 50) (d := 0) (List.mem_cons_of_mem _ (List.mem_cons_of_mem _ (List.mem_cons_of_mem _ (List.mem_cons_of_mem _ (List.mem_cons_of_mem _ List.mem_cons_self))))) hv)
      have ht1 : ρ1.take 45 = ρ0 := by rw [ht1]; exact ht
      rcases Int.lt_or_le v 255 with hlt | hge
      · skip
        refine qs_lnkB (p := 45) (ρ := ρ1) (fa_cons (zSh3 ex (qΓ1 fc) D as tys hT hA hh) (fa_cons (zSh4 ex (qΓ1 fc) D as tys hT hA) fa_nil)) hT hA zSg_b0bN (fa_cons (fun ρ2 ht2 hL hg2 _ => ⟨fun rv hrv => ?r0, fun q hq => ?c0⟩) (fa_cons (fun ρ2 ht2 hL hg2 _ => ⟨fun rv hrv => ?r1, fun q hq => ?c1⟩) fa_nil))
        case r0 =>
          have hrv : (Sum.inr _ : Option qV ⊕ (Nat × qL × List qV)) = Sum.inl rv := hrv
          cases hrv
        case c0 =>
          have hq : (Sum.inr _ : Option qV ⊕ (Nat × qL × List qV)) = Sum.inr q := hq
          cases hq
          have v3 := (hL.n (i := 50) (d := 1) (List.mem_cons_of_mem _ (List.mem_cons_of_mem _ (List.mem_cons_of_mem _ (List.mem_cons_of_mem _ (List.mem_cons_of_mem _ List.mem_cons_self))))) v1)
          exact ih ρ2 (v + 1) (by rw [ht2]; exact ht1) (by rw [v3]; exact congrArg some (by omega)) (by omega) (by omega) (by omega)
        case r1 =>
          have hrv : (Sum.inr _ : Option qV ⊕ (Nat × qL × List qV)) = Sum.inl rv := hrv
          cases hrv
        case c1 =>
          have hq : (Sum.inr _ : Option qV ⊕ (Nat × qL × List qV)) = Sum.inr q := hq
          cases hq
          have v3 := (hL.n (i := 52) (d := 1) (List.mem_cons_of_mem _ (List.mem_cons_of_mem _ List.mem_cons_self)) v1)
          exact zSbF0 hT hA hh hl0 7777 ρ2 (v + 1) (by rw [ht2]; exact ht1) (by rw [v3]; exact congrArg some (by omega)) (by omega) (by omega)
      · have gx := q_tkb ht1 hx
        have gf := q_tkb ht1 hf
        have gn := q_tkb ht1 hn
        refine qy_TP.pre (ρ' := ρ1) (g' := zST_b0s_l_3_4.1) (w' := zST_b0s_l_3_4.2.1) (lo' := zST_b0s_l_3_4.2.2.1) (st' := zST_b0s_l_3_4.2.2.2) ?_ (fun ws h => h) (fun h => h.to0 [(24, 3, 3), (26, 4, 4), (44, -1, 3), (50, 255, 255)] [] (by decide +kernel) rfl (by decide +kernel) (fa_ex gx (Int.le_refl _) (Int.le_refl _) (fa_ex gf (Int.le_refl _) (Int.le_refl _) (fa_ex gn hn1 hn2 (fa_ex v1 (by omega) (by omega) fa_nil)))) fa_nil) (fun _ _ h => h) (fun _ h => h)
        refine qs_lnkB (p := 45) (ρ := ρ1) (fa_cons (zSh23 ex (qΓ1 fc) D as tys hT hA) fa_nil) hT hA zSg_b0l_3_4 (fa_cons (fun ρ2 ht2 hL hg2 _ => ⟨fun rv hrv => ?r0, fun q hq => ?c0⟩) fa_nil)
        case r0 =>
          have hrv : (Sum.inr _ : Option qV ⊕ (Nat × qL × List qV)) = Sum.inl rv := hrv
          cases hrv
        case c0 =>
          have hq : (Sum.inr _ : Option qV ⊕ (Nat × qL × List qV)) = Sum.inr q := hq
          cases hq
          have v3 := (hL.l (i := 52) (z := 256) (List.mem_cons_of_mem _ (List.mem_cons_of_mem _ (List.mem_cons_of_mem _ (List.mem_cons_of_mem _ (List.mem_cons_of_mem _ (List.mem_cons_of_mem _ (List.mem_cons_of_mem _ List.mem_cons_self))))))))
          exact zSbF0 hT hA hh hl0 7777 ρ2 256 (by rw [ht2]; exact ht1) v3 (by omega) (by omega)
theorem zSbN0_3_5 (hT : zk_t) (hA : zk_a) {fc : Nat → Nat → Int32} (hh : qy_V ex (qΓ1 fc) D as tys zSk2) {ρ0 : List Int} (hl0 : ρ0.length = 45) (hx : ρ0[24]? = some (3 : Int)) (hf : ρ0[26]? = some (5 : Int)) {nv : Int} (hn : ρ0[44]? = some nv) (hn1 : -1 ≤ nv) (hn2 : nv ≤ 4) : ∀ (m : Nat) (ρ : List Int) (v : Int), ρ.take 45 = ρ0 → ρ[50]? = some v → 0 ≤ v → v ≤ 1023 → 1023 - v < (m : Int) → qy_TP ex D as tys 12 189 fc ρ zST_b0HN.1 zST_b0HN.2.1 zST_b0HN.2.2.1 zST_b0HN.2.2.2 13 (zSBP0 fc ρ0) := by
  intro m
  induction m with
  | zero => intro ρ v _ _ _ h1 h2; exfalso; omega
  | succ m ih =>
    intro ρ v ht hv h0 h1 h2
    have gx := q_tkb ht hx
    have gf := q_tkb ht hf
    have gn := q_tkb ht hn
    refine qy_TP.pre (ρ' := ρ) (g' := zST_b0s_h_3_5.1) (w' := zST_b0s_h_3_5.2.1) (lo' := zST_b0s_h_3_5.2.2.1) (st' := zST_b0s_h_3_5.2.2.2) ?_ (fun ws h => h) (fun h => h.to0 [(24, 3, 3), (26, 5, 5), (44, -1, 4), (50, 0, 1023)] [] (by decide +kernel) rfl (by decide +kernel) (fa_ex gx (Int.le_refl _) (Int.le_refl _) (fa_ex gf (Int.le_refl _) (Int.le_refl _) (fa_ex gn hn1 hn2 (fa_ex hv (by omega) (by omega) fa_nil)))) fa_nil) (fun _ _ h => h) (fun _ h => h)
    refine qs_lnkB (p := 45) (ρ := ρ) fa_nil hT hA zSg_b0h_3_5 (fa_cons (fun ρ1 ht1 hL hg1 _ => ⟨fun rv hrv => ?r0, fun q hq => ?c0⟩) fa_nil)
    case r0 =>
      have hrv : (Sum.inr _ : Option qV ⊕ (Nat × qL × List qV)) = Sum.inl rv := hrv
      cases hrv
    case c0 =>
      have hq : (Sum.inr _ : Option qV ⊕ (Nat × qL × List qV)) = Sum.inr q := hq
      cases hq
      have v1 := (hL.n (i := 50) (d := 0) (List.mem_cons_of_mem _ (List.mem_cons_of_mem _ (List.mem_cons_of_mem _ (List.mem_cons_of_mem _ (List.mem_cons_of_mem _ List.mem_cons_self))))) hv)
      have ht1 : ρ1.take 45 = ρ0 := by rw [ht1]; exact ht
      rcases Int.lt_or_le v 1023 with hlt | hge
      · skip
        refine qs_lnkB (p := 45) (ρ := ρ1) (fa_cons (zSh3 ex (qΓ1 fc) D as tys hT hA hh) (fa_cons (zSh4 ex (qΓ1 fc) D as tys hT hA) fa_nil)) hT hA zSg_b0bN (fa_cons (fun ρ2 ht2 hL hg2 _ => ⟨fun rv hrv => ?r0, fun q hq => ?c0⟩) (fa_cons (fun ρ2 ht2 hL hg2 _ => ⟨fun rv hrv => ?r1, fun q hq => ?c1⟩) fa_nil))
        case r0 =>
          have hrv : (Sum.inr _ : Option qV ⊕ (Nat × qL × List qV)) = Sum.inl rv := hrv
          cases hrv
        case c0 =>
          have hq : (Sum.inr _ : Option qV ⊕ (Nat × qL × List qV)) = Sum.inr q := hq
          cases hq
          have v3 := (hL.n (i := 50) (d := 1) (List.mem_cons_of_mem _ (List.mem_cons_of_mem _ (List.mem_cons_of_mem _ (List.mem_cons_of_mem _ (List.mem_cons_of_mem _ List.mem_cons_self))))) v1)
          exact ih ρ2 (v + 1) (by rw [ht2]; exact ht1) (by rw [v3]; exact congrArg some (by omega)) (by omega) (by omega) (by omega)
        case r1 =>
          have hrv : (Sum.inr _ : Option qV ⊕ (Nat × qL × List qV)) = Sum.inl rv := hrv
          cases hrv
        case c1 =>
          have hq : (Sum.inr _ : Option qV ⊕ (Nat × qL × List qV)) = Sum.inr q := hq
          cases hq
          have v3 := (hL.n (i := 52) (d := 1) (List.mem_cons_of_mem _ (List.mem_cons_of_mem _ List.mem_cons_self)) v1)
          exact zSbF0 hT hA hh hl0 7777 ρ2 (v + 1) (by rw [ht2]; exact ht1) (by rw [v3]; exact congrArg some (by omega)) (by omega) (by omega)
      · have gx := q_tkb ht1 hx
        have gf := q_tkb ht1 hf
        have gn := q_tkb ht1 hn
        refine qy_TP.pre (ρ' := ρ1) (g' := zST_b0s_l_3_5.1) (w' := zST_b0s_l_3_5.2.1) (lo' := zST_b0s_l_3_5.2.2.1) (st' := zST_b0s_l_3_5.2.2.2) ?_ (fun ws h => h) (fun h => h.to0 [(24, 3, 3), (26, 5, 5), (44, -1, 4), (50, 1023, 1023)] [] (by decide +kernel) rfl (by decide +kernel) (fa_ex gx (Int.le_refl _) (Int.le_refl _) (fa_ex gf (Int.le_refl _) (Int.le_refl _) (fa_ex gn hn1 hn2 (fa_ex v1 (by omega) (by omega) fa_nil)))) fa_nil) (fun _ _ h => h) (fun _ h => h)
        refine qs_lnkB (p := 45) (ρ := ρ1) (fa_cons (zSh24 ex (qΓ1 fc) D as tys hT hA) fa_nil) hT hA zSg_b0l_3_5 (fa_cons (fun ρ2 ht2 hL hg2 _ => ⟨fun rv hrv => ?r0, fun q hq => ?c0⟩) fa_nil)
        case r0 =>
          have hrv : (Sum.inr _ : Option qV ⊕ (Nat × qL × List qV)) = Sum.inl rv := hrv
          cases hrv
        case c0 =>
          have hq : (Sum.inr _ : Option qV ⊕ (Nat × qL × List qV)) = Sum.inr q := hq
          cases hq
          have v3 := (hL.l (i := 52) (z := 1024) (List.mem_cons_of_mem _ (List.mem_cons_of_mem _ (List.mem_cons_of_mem _ (List.mem_cons_of_mem _ (List.mem_cons_of_mem _ (List.mem_cons_of_mem _ (List.mem_cons_of_mem _ List.mem_cons_self))))))))
          exact zSbF0 hT hA hh hl0 7777 ρ2 1024 (by rw [ht2]; exact ht1) v3 (by omega) (by omega)
theorem zSbN0_4_0 (hT : zk_t) (hA : zk_a) {fc : Nat → Nat → Int32} (hh : qy_V ex (qΓ1 fc) D as tys zSk2) {ρ0 : List Int} (hl0 : ρ0.length = 45) (hx : ρ0[24]? = some (4 : Int)) (hf : ρ0[26]? = some (0 : Int)) {nv : Int} (hn : ρ0[44]? = some nv) (hn1 : -1 ≤ nv) (hn2 : nv ≤ -1) : ∀ (m : Nat) (ρ : List Int) (v : Int), ρ.take 45 = ρ0 → ρ[50]? = some v → 0 ≤ v → v ≤ 0 → 0 - v < (m : Int) → qy_TP ex D as tys 12 189 fc ρ zST_b0HN.1 zST_b0HN.2.1 zST_b0HN.2.2.1 zST_b0HN.2.2.2 13 (zSBP0 fc ρ0) := by
  intro m
  induction m with
  | zero => intro ρ v _ _ _ h1 h2; exfalso; omega
  | succ m ih =>
    intro ρ v ht hv h0 h1 h2
    have gx := q_tkb ht hx
    have gf := q_tkb ht hf
    have gn := q_tkb ht hn
    refine qy_TP.pre (ρ' := ρ) (g' := zST_b0s_h_4_0.1) (w' := zST_b0s_h_4_0.2.1) (lo' := zST_b0s_h_4_0.2.2.1) (st' := zST_b0s_h_4_0.2.2.2) ?_ (fun ws h => h) (fun h => h.to0 [(24, 4, 4), (26, 0, 0), (44, -1, -1), (50, 0, 0)] [] (by decide +kernel) rfl (by decide +kernel) (fa_ex gx (Int.le_refl _) (Int.le_refl _) (fa_ex gf (Int.le_refl _) (Int.le_refl _) (fa_ex gn hn1 hn2 (fa_ex hv (by omega) (by omega) fa_nil)))) fa_nil) (fun _ _ h => h) (fun _ h => h)
    refine qs_lnkB (p := 45) (ρ := ρ) fa_nil hT hA zSg_b0h_4_0 (fa_cons (fun ρ1 ht1 hL hg1 _ => ⟨fun rv hrv => ?r0, fun q hq => ?c0⟩) fa_nil)
    case r0 =>
      have hrv : (Sum.inr _ : Option qV ⊕ (Nat × qL × List qV)) = Sum.inl rv := hrv
      cases hrv
    case c0 =>
      have hq : (Sum.inr _ : Option qV ⊕ (Nat × qL × List qV)) = Sum.inr q := hq
      cases hq
      have v1 := (hL.n (i := 50) (d := 0) (List.mem_cons_of_mem _ (List.mem_cons_of_mem _ (List.mem_cons_of_mem _ (List.mem_cons_of_mem _ (List.mem_cons_of_mem _ List.mem_cons_self))))) hv)
      have ht1 : ρ1.take 45 = ρ0 := by rw [ht1]; exact ht
      rcases Int.lt_or_le v 0 with hlt | hge
      · skip
        refine qs_lnkB (p := 45) (ρ := ρ1) (fa_cons (zSh3 ex (qΓ1 fc) D as tys hT hA hh) (fa_cons (zSh4 ex (qΓ1 fc) D as tys hT hA) fa_nil)) hT hA zSg_b0bN (fa_cons (fun ρ2 ht2 hL hg2 _ => ⟨fun rv hrv => ?r0, fun q hq => ?c0⟩) (fa_cons (fun ρ2 ht2 hL hg2 _ => ⟨fun rv hrv => ?r1, fun q hq => ?c1⟩) fa_nil))
        case r0 =>
          have hrv : (Sum.inr _ : Option qV ⊕ (Nat × qL × List qV)) = Sum.inl rv := hrv
          cases hrv
        case c0 =>
          have hq : (Sum.inr _ : Option qV ⊕ (Nat × qL × List qV)) = Sum.inr q := hq
          cases hq
          have v3 := (hL.n (i := 50) (d := 1) (List.mem_cons_of_mem _ (List.mem_cons_of_mem _ (List.mem_cons_of_mem _ (List.mem_cons_of_mem _ (List.mem_cons_of_mem _ List.mem_cons_self))))) v1)
          exact ih ρ2 (v + 1) (by rw [ht2]; exact ht1) (by rw [v3]; exact congrArg some (by omega)) (by omega) (by omega) (by omega)
        case r1 =>
          have hrv : (Sum.inr _ : Option qV ⊕ (Nat × qL × List qV)) = Sum.inl rv := hrv
          cases hrv
        case c1 =>
          have hq : (Sum.inr _ : Option qV ⊕ (Nat × qL × List qV)) = Sum.inr q := hq
          cases hq
          have v3 := (hL.n (i := 52) (d := 1) (List.mem_cons_of_mem _ (List.mem_cons_of_mem _ List.mem_cons_self)) v1)
          exact zSbF0 hT hA hh hl0 7777 ρ2 (v + 1) (by rw [ht2]; exact ht1) (by rw [v3]; exact congrArg some (by omega)) (by omega) (by omega)
      · have gx := q_tkb ht1 hx
        have gf := q_tkb ht1 hf
        have gn := q_tkb ht1 hn
        refine qy_TP.pre (ρ' := ρ1) (g' := zST_b0s_h_4_0.1) (w' := zST_b0s_h_4_0.2.1) (lo' := zST_b0s_h_4_0.2.2.1) (st' := zST_b0s_h_4_0.2.2.2) ?_ (fun ws h => h) (fun h => h.to0 [(24, 4, 4), (26, 0, 0), (44, -1, -1), (50, 0, 0)] [] (by decide +kernel) rfl (by decide +kernel) (fa_ex gx (Int.le_refl _) (Int.le_refl _) (fa_ex gf (Int.le_refl _) (Int.le_refl _) (fa_ex gn hn1 hn2 (fa_ex v1 (by omega) (by omega) fa_nil)))) fa_nil) (fun _ _ h => h) (fun _ h => h)
        refine qs_lnkB (p := 45) (ρ := ρ1) fa_nil hT hA zSg_b0l_4_0 (fa_cons (fun ρ2 ht2 hL hg2 _ => ⟨fun rv hrv => ?r0, fun q hq => ?c0⟩) fa_nil)
        case r0 =>
          have hrv : (Sum.inr _ : Option qV ⊕ (Nat × qL × List qV)) = Sum.inl rv := hrv
          cases hrv
        case c0 =>
          have hq : (Sum.inr _ : Option qV ⊕ (Nat × qL × List qV)) = Sum.inr q := hq
          cases hq
          have v3 := (hL.l (i := 52) (z := 1) (List.mem_cons_of_mem _ (List.mem_cons_of_mem _ (List.mem_cons_of_mem _ (List.mem_cons_of_mem _ (List.mem_cons_of_mem _ (List.mem_cons_of_mem _ (List.mem_cons_of_mem _ List.mem_cons_self))))))))
          exact zSbF0 hT hA hh hl0 7777 ρ2 1 (by rw [ht2]; exact ht1) v3 (by omega) (by omega)
theorem zSbN0_4_1 (hT : zk_t) (hA : zk_a) {fc : Nat → Nat → Int32} (hh : qy_V ex (qΓ1 fc) D as tys zSk2) {ρ0 : List Int} (hl0 : ρ0.length = 45) (hx : ρ0[24]? = some (4 : Int)) (hf : ρ0[26]? = some (1 : Int)) {nv : Int} (hn : ρ0[44]? = some nv) (hn1 : -1 ≤ nv) (hn2 : nv ≤ 0) : ∀ (m : Nat) (ρ : List Int) (v : Int), ρ.take 45 = ρ0 → ρ[50]? = some v → 0 ≤ v → v ≤ 4 → 4 - v < (m : Int) → qy_TP ex D as tys 12 189 fc ρ zST_b0HN.1 zST_b0HN.2.1 zST_b0HN.2.2.1 zST_b0HN.2.2.2 13 (zSBP0 fc ρ0) := by
  intro m
  induction m with
  | zero => intro ρ v _ _ _ h1 h2; exfalso; omega
  | succ m ih =>
    intro ρ v ht hv h0 h1 h2
    have gx := q_tkb ht hx
    have gf := q_tkb ht hf
    have gn := q_tkb ht hn
    refine qy_TP.pre (ρ' := ρ) (g' := zST_b0s_h_4_1.1) (w' := zST_b0s_h_4_1.2.1) (lo' := zST_b0s_h_4_1.2.2.1) (st' := zST_b0s_h_4_1.2.2.2) ?_ (fun ws h => h) (fun h => h.to0 [(24, 4, 4), (26, 1, 1), (44, -1, 0), (50, 0, 4)] [] (by decide +kernel) rfl (by decide +kernel) (fa_ex gx (Int.le_refl _) (Int.le_refl _) (fa_ex gf (Int.le_refl _) (Int.le_refl _) (fa_ex gn hn1 hn2 (fa_ex hv (by omega) (by omega) fa_nil)))) fa_nil) (fun _ _ h => h) (fun _ h => h)
    refine qs_lnkB (p := 45) (ρ := ρ) fa_nil hT hA zSg_b0h_4_1 (fa_cons (fun ρ1 ht1 hL hg1 _ => ⟨fun rv hrv => ?r0, fun q hq => ?c0⟩) fa_nil)
    case r0 =>
      have hrv : (Sum.inr _ : Option qV ⊕ (Nat × qL × List qV)) = Sum.inl rv := hrv
      cases hrv
    case c0 =>
      have hq : (Sum.inr _ : Option qV ⊕ (Nat × qL × List qV)) = Sum.inr q := hq
      cases hq
      have v1 := (hL.n (i := 50) (d := 0) (List.mem_cons_of_mem _ (List.mem_cons_of_mem _ (List.mem_cons_of_mem _ (List.mem_cons_of_mem _ (List.mem_cons_of_mem _ List.mem_cons_self))))) hv)
      have ht1 : ρ1.take 45 = ρ0 := by rw [ht1]; exact ht
      rcases Int.lt_or_le v 4 with hlt | hge
      · skip
        refine qs_lnkB (p := 45) (ρ := ρ1) (fa_cons (zSh3 ex (qΓ1 fc) D as tys hT hA hh) (fa_cons (zSh4 ex (qΓ1 fc) D as tys hT hA) fa_nil)) hT hA zSg_b0bN (fa_cons (fun ρ2 ht2 hL hg2 _ => ⟨fun rv hrv => ?r0, fun q hq => ?c0⟩) (fa_cons (fun ρ2 ht2 hL hg2 _ => ⟨fun rv hrv => ?r1, fun q hq => ?c1⟩) fa_nil))
        case r0 =>
          have hrv : (Sum.inr _ : Option qV ⊕ (Nat × qL × List qV)) = Sum.inl rv := hrv
          cases hrv
        case c0 =>
          have hq : (Sum.inr _ : Option qV ⊕ (Nat × qL × List qV)) = Sum.inr q := hq
          cases hq
          have v3 := (hL.n (i := 50) (d := 1) (List.mem_cons_of_mem _ (List.mem_cons_of_mem _ (List.mem_cons_of_mem _ (List.mem_cons_of_mem _ (List.mem_cons_of_mem _ List.mem_cons_self))))) v1)
          exact ih ρ2 (v + 1) (by rw [ht2]; exact ht1) (by rw [v3]; exact congrArg some (by omega)) (by omega) (by omega) (by omega)
        case r1 =>
          have hrv : (Sum.inr _ : Option qV ⊕ (Nat × qL × List qV)) = Sum.inl rv := hrv
          cases hrv
        case c1 =>
          have hq : (Sum.inr _ : Option qV ⊕ (Nat × qL × List qV)) = Sum.inr q := hq
          cases hq
          have v3 := (hL.n (i := 52) (d := 1) (List.mem_cons_of_mem _ (List.mem_cons_of_mem _ List.mem_cons_self)) v1)
          exact zSbF0 hT hA hh hl0 7777 ρ2 (v + 1) (by rw [ht2]; exact ht1) (by rw [v3]; exact congrArg some (by omega)) (by omega) (by omega)
      · have gx := q_tkb ht1 hx
        have gf := q_tkb ht1 hf
        have gn := q_tkb ht1 hn
        refine qy_TP.pre (ρ' := ρ1) (g' := zST_b0s_l_4_1.1) (w' := zST_b0s_l_4_1.2.1) (lo' := zST_b0s_l_4_1.2.2.1) (st' := zST_b0s_l_4_1.2.2.2) ?_ (fun ws h => h) (fun h => h.to0 [(24, 4, 4), (26, 1, 1), (44, -1, 0), (50, 4, 4)] [] (by decide +kernel) rfl (by decide +kernel) (fa_ex gx (Int.le_refl _) (Int.le_refl _) (fa_ex gf (Int.le_refl _) (Int.le_refl _) (fa_ex gn hn1 hn2 (fa_ex v1 (by omega) (by omega) fa_nil)))) fa_nil) (fun _ _ h => h) (fun _ h => h)
        refine qs_lnkB (p := 45) (ρ := ρ1) (fa_cons (zSh25 ex (qΓ1 fc) D as tys hT hA) fa_nil) hT hA zSg_b0l_4_1 (fa_cons (fun ρ2 ht2 hL hg2 _ => ⟨fun rv hrv => ?r0, fun q hq => ?c0⟩) fa_nil)
        case r0 =>
          have hrv : (Sum.inr _ : Option qV ⊕ (Nat × qL × List qV)) = Sum.inl rv := hrv
          cases hrv
        case c0 =>
          have hq : (Sum.inr _ : Option qV ⊕ (Nat × qL × List qV)) = Sum.inr q := hq
          cases hq
          have v3 := (hL.l (i := 52) (z := 5) (List.mem_cons_of_mem _ (List.mem_cons_of_mem _ (List.mem_cons_of_mem _ (List.mem_cons_of_mem _ (List.mem_cons_of_mem _ (List.mem_cons_of_mem _ (List.mem_cons_of_mem _ List.mem_cons_self))))))))
          exact zSbF0 hT hA hh hl0 7777 ρ2 5 (by rw [ht2]; exact ht1) v3 (by omega) (by omega)
theorem zSbN0_4_2 (hT : zk_t) (hA : zk_a) {fc : Nat → Nat → Int32} (hh : qy_V ex (qΓ1 fc) D as tys zSk2) {ρ0 : List Int} (hl0 : ρ0.length = 45) (hx : ρ0[24]? = some (4 : Int)) (hf : ρ0[26]? = some (2 : Int)) {nv : Int} (hn : ρ0[44]? = some nv) (hn1 : -1 ≤ nv) (hn2 : nv ≤ 1) : ∀ (m : Nat) (ρ : List Int) (v : Int), ρ.take 45 = ρ0 → ρ[50]? = some v → 0 ≤ v → v ≤ 24 → 24 - v < (m : Int) → qy_TP ex D as tys 12 189 fc ρ zST_b0HN.1 zST_b0HN.2.1 zST_b0HN.2.2.1 zST_b0HN.2.2.2 13 (zSBP0 fc ρ0) := by
  intro m
  induction m with
  | zero => intro ρ v _ _ _ h1 h2; exfalso; omega
  | succ m ih =>
    intro ρ v ht hv h0 h1 h2
    have gx := q_tkb ht hx
    have gf := q_tkb ht hf
    have gn := q_tkb ht hn
    refine qy_TP.pre (ρ' := ρ) (g' := zST_b0s_h_4_2.1) (w' := zST_b0s_h_4_2.2.1) (lo' := zST_b0s_h_4_2.2.2.1) (st' := zST_b0s_h_4_2.2.2.2) ?_ (fun ws h => h) (fun h => h.to0 [(24, 4, 4), (26, 2, 2), (44, -1, 1), (50, 0, 24)] [] (by decide +kernel) rfl (by decide +kernel) (fa_ex gx (Int.le_refl _) (Int.le_refl _) (fa_ex gf (Int.le_refl _) (Int.le_refl _) (fa_ex gn hn1 hn2 (fa_ex hv (by omega) (by omega) fa_nil)))) fa_nil) (fun _ _ h => h) (fun _ h => h)
    refine qs_lnkB (p := 45) (ρ := ρ) fa_nil hT hA zSg_b0h_4_2 (fa_cons (fun ρ1 ht1 hL hg1 _ => ⟨fun rv hrv => ?r0, fun q hq => ?c0⟩) fa_nil)
    case r0 =>
      have hrv : (Sum.inr _ : Option qV ⊕ (Nat × qL × List qV)) = Sum.inl rv := hrv
      cases hrv
    case c0 =>
      have hq : (Sum.inr _ : Option qV ⊕ (Nat × qL × List qV)) = Sum.inr q := hq
      cases hq
      have v1 := (hL.n (i := 50) (d := 0) (List.mem_cons_of_mem _ (List.mem_cons_of_mem _ (List.mem_cons_of_mem _ (List.mem_cons_of_mem _ (List.mem_cons_of_mem _ List.mem_cons_self))))) hv)
      have ht1 : ρ1.take 45 = ρ0 := by rw [ht1]; exact ht
      rcases Int.lt_or_le v 24 with hlt | hge
      · skip
        refine qs_lnkB (p := 45) (ρ := ρ1) (fa_cons (zSh3 ex (qΓ1 fc) D as tys hT hA hh) (fa_cons (zSh4 ex (qΓ1 fc) D as tys hT hA) fa_nil)) hT hA zSg_b0bN (fa_cons (fun ρ2 ht2 hL hg2 _ => ⟨fun rv hrv => ?r0, fun q hq => ?c0⟩) (fa_cons (fun ρ2 ht2 hL hg2 _ => ⟨fun rv hrv => ?r1, fun q hq => ?c1⟩) fa_nil))
        case r0 =>
          have hrv : (Sum.inr _ : Option qV ⊕ (Nat × qL × List qV)) = Sum.inl rv := hrv
          cases hrv
        case c0 =>
          have hq : (Sum.inr _ : Option qV ⊕ (Nat × qL × List qV)) = Sum.inr q := hq
          cases hq
          have v3 := (hL.n (i := 50) (d := 1) (List.mem_cons_of_mem _ (List.mem_cons_of_mem _ (List.mem_cons_of_mem _ (List.mem_cons_of_mem _ (List.mem_cons_of_mem _ List.mem_cons_self))))) v1)
          exact ih ρ2 (v + 1) (by rw [ht2]; exact ht1) (by rw [v3]; exact congrArg some (by omega)) (by omega) (by omega) (by omega)
        case r1 =>
          have hrv : (Sum.inr _ : Option qV ⊕ (Nat × qL × List qV)) = Sum.inl rv := hrv
          cases hrv
        case c1 =>
          have hq : (Sum.inr _ : Option qV ⊕ (Nat × qL × List qV)) = Sum.inr q := hq
          cases hq
          have v3 := (hL.n (i := 52) (d := 1) (List.mem_cons_of_mem _ (List.mem_cons_of_mem _ List.mem_cons_self)) v1)
          exact zSbF0 hT hA hh hl0 7777 ρ2 (v + 1) (by rw [ht2]; exact ht1) (by rw [v3]; exact congrArg some (by omega)) (by omega) (by omega)
      · have gx := q_tkb ht1 hx
        have gf := q_tkb ht1 hf
        have gn := q_tkb ht1 hn
        refine qy_TP.pre (ρ' := ρ1) (g' := zST_b0s_l_4_2.1) (w' := zST_b0s_l_4_2.2.1) (lo' := zST_b0s_l_4_2.2.2.1) (st' := zST_b0s_l_4_2.2.2.2) ?_ (fun ws h => h) (fun h => h.to0 [(24, 4, 4), (26, 2, 2), (44, -1, 1), (50, 24, 24)] [] (by decide +kernel) rfl (by decide +kernel) (fa_ex gx (Int.le_refl _) (Int.le_refl _) (fa_ex gf (Int.le_refl _) (Int.le_refl _) (fa_ex gn hn1 hn2 (fa_ex v1 (by omega) (by omega) fa_nil)))) fa_nil) (fun _ _ h => h) (fun _ h => h)
        refine qs_lnkB (p := 45) (ρ := ρ1) (fa_cons (zSh26 ex (qΓ1 fc) D as tys hT hA) fa_nil) hT hA zSg_b0l_4_2 (fa_cons (fun ρ2 ht2 hL hg2 _ => ⟨fun rv hrv => ?r0, fun q hq => ?c0⟩) fa_nil)
        case r0 =>
          have hrv : (Sum.inr _ : Option qV ⊕ (Nat × qL × List qV)) = Sum.inl rv := hrv
          cases hrv
        case c0 =>
          have hq : (Sum.inr _ : Option qV ⊕ (Nat × qL × List qV)) = Sum.inr q := hq
          cases hq
          have v3 := (hL.l (i := 52) (z := 25) (List.mem_cons_of_mem _ (List.mem_cons_of_mem _ (List.mem_cons_of_mem _ (List.mem_cons_of_mem _ (List.mem_cons_of_mem _ (List.mem_cons_of_mem _ (List.mem_cons_of_mem _ List.mem_cons_self))))))))
          exact zSbF0 hT hA hh hl0 7777 ρ2 25 (by rw [ht2]; exact ht1) v3 (by omega) (by omega)
theorem zSbN0_4_3 (hT : zk_t) (hA : zk_a) {fc : Nat → Nat → Int32} (hh : qy_V ex (qΓ1 fc) D as tys zSk2) {ρ0 : List Int} (hl0 : ρ0.length = 45) (hx : ρ0[24]? = some (4 : Int)) (hf : ρ0[26]? = some (3 : Int)) {nv : Int} (hn : ρ0[44]? = some nv) (hn1 : -1 ≤ nv) (hn2 : nv ≤ 2) : ∀ (m : Nat) (ρ : List Int) (v : Int), ρ.take 45 = ρ0 → ρ[50]? = some v → 0 ≤ v → v ≤ 124 → 124 - v < (m : Int) → qy_TP ex D as tys 12 189 fc ρ zST_b0HN.1 zST_b0HN.2.1 zST_b0HN.2.2.1 zST_b0HN.2.2.2 13 (zSBP0 fc ρ0) := by
  intro m
  induction m with
  | zero => intro ρ v _ _ _ h1 h2; exfalso; omega
  | succ m ih =>
    intro ρ v ht hv h0 h1 h2
    have gx := q_tkb ht hx
    have gf := q_tkb ht hf
    have gn := q_tkb ht hn
    refine qy_TP.pre (ρ' := ρ) (g' := zST_b0s_h_4_3.1) (w' := zST_b0s_h_4_3.2.1) (lo' := zST_b0s_h_4_3.2.2.1) (st' := zST_b0s_h_4_3.2.2.2) ?_ (fun ws h => h) (fun h => h.to0 [(24, 4, 4), (26, 3, 3), (44, -1, 2), (50, 0, 124)] [] (by decide +kernel) rfl (by decide +kernel) (fa_ex gx (Int.le_refl _) (Int.le_refl _) (fa_ex gf (Int.le_refl _) (Int.le_refl _) (fa_ex gn hn1 hn2 (fa_ex hv (by omega) (by omega) fa_nil)))) fa_nil) (fun _ _ h => h) (fun _ h => h)
    refine qs_lnkB (p := 45) (ρ := ρ) fa_nil hT hA zSg_b0h_4_3 (fa_cons (fun ρ1 ht1 hL hg1 _ => ⟨fun rv hrv => ?r0, fun q hq => ?c0⟩) fa_nil)
    case r0 =>
      have hrv : (Sum.inr _ : Option qV ⊕ (Nat × qL × List qV)) = Sum.inl rv := hrv
      cases hrv
    case c0 =>
      have hq : (Sum.inr _ : Option qV ⊕ (Nat × qL × List qV)) = Sum.inr q := hq
      cases hq
      have v1 := (hL.n (i := 50) (d := 0) (List.mem_cons_of_mem _ (List.mem_cons_of_mem _ (List.mem_cons_of_mem _ (List.mem_cons_of_mem _ (List.mem_cons_of_mem _ List.mem_cons_self))))) hv)
      have ht1 : ρ1.take 45 = ρ0 := by rw [ht1]; exact ht
      rcases Int.lt_or_le v 124 with hlt | hge
      · skip
        refine qs_lnkB (p := 45) (ρ := ρ1) (fa_cons (zSh3 ex (qΓ1 fc) D as tys hT hA hh) (fa_cons (zSh4 ex (qΓ1 fc) D as tys hT hA) fa_nil)) hT hA zSg_b0bN (fa_cons (fun ρ2 ht2 hL hg2 _ => ⟨fun rv hrv => ?r0, fun q hq => ?c0⟩) (fa_cons (fun ρ2 ht2 hL hg2 _ => ⟨fun rv hrv => ?r1, fun q hq => ?c1⟩) fa_nil))
        case r0 =>
          have hrv : (Sum.inr _ : Option qV ⊕ (Nat × qL × List qV)) = Sum.inl rv := hrv
          cases hrv
        case c0 =>
          have hq : (Sum.inr _ : Option qV ⊕ (Nat × qL × List qV)) = Sum.inr q := hq
          cases hq
          have v3 := (hL.n (i := 50) (d := 1) (List.mem_cons_of_mem _ (List.mem_cons_of_mem _ (List.mem_cons_of_mem _ (List.mem_cons_of_mem _ (List.mem_cons_of_mem _ List.mem_cons_self))))) v1)
          exact ih ρ2 (v + 1) (by rw [ht2]; exact ht1) (by rw [v3]; exact congrArg some (by omega)) (by omega) (by omega) (by omega)
        case r1 =>
          have hrv : (Sum.inr _ : Option qV ⊕ (Nat × qL × List qV)) = Sum.inl rv := hrv
          cases hrv
        case c1 =>
          have hq : (Sum.inr _ : Option qV ⊕ (Nat × qL × List qV)) = Sum.inr q := hq
          cases hq
          have v3 := (hL.n (i := 52) (d := 1) (List.mem_cons_of_mem _ (List.mem_cons_of_mem _ List.mem_cons_self)) v1)
          exact zSbF0 hT hA hh hl0 7777 ρ2 (v + 1) (by rw [ht2]; exact ht1) (by rw [v3]; exact congrArg some (by omega)) (by omega) (by omega)
      · have gx := q_tkb ht1 hx
        have gf := q_tkb ht1 hf
        have gn := q_tkb ht1 hn
        refine qy_TP.pre (ρ' := ρ1) (g' := zST_b0s_l_4_3.1) (w' := zST_b0s_l_4_3.2.1) (lo' := zST_b0s_l_4_3.2.2.1) (st' := zST_b0s_l_4_3.2.2.2) ?_ (fun ws h => h) (fun h => h.to0 [(24, 4, 4), (26, 3, 3), (44, -1, 2), (50, 124, 124)] [] (by decide +kernel) rfl (by decide +kernel) (fa_ex gx (Int.le_refl _) (Int.le_refl _) (fa_ex gf (Int.le_refl _) (Int.le_refl _) (fa_ex gn hn1 hn2 (fa_ex v1 (by omega) (by omega) fa_nil)))) fa_nil) (fun _ _ h => h) (fun _ h => h)
        refine qs_lnkB (p := 45) (ρ := ρ1) (fa_cons (zSh27 ex (qΓ1 fc) D as tys hT hA) fa_nil) hT hA zSg_b0l_4_3 (fa_cons (fun ρ2 ht2 hL hg2 _ => ⟨fun rv hrv => ?r0, fun q hq => ?c0⟩) fa_nil)
        case r0 =>
          have hrv : (Sum.inr _ : Option qV ⊕ (Nat × qL × List qV)) = Sum.inl rv := hrv
          cases hrv
        case c0 =>
          have hq : (Sum.inr _ : Option qV ⊕ (Nat × qL × List qV)) = Sum.inr q := hq
          cases hq
          have v3 := (hL.l (i := 52) (z := 125) (List.mem_cons_of_mem _ (List.mem_cons_of_mem _ (List.mem_cons_of_mem _ (List.mem_cons_of_mem _ (List.mem_cons_of_mem _ (List.mem_cons_of_mem _ (List.mem_cons_of_mem _ List.mem_cons_self))))))))
          exact zSbF0 hT hA hh hl0 7777 ρ2 125 (by rw [ht2]; exact ht1) v3 (by omega) (by omega)
theorem zSbN0_4_4 (hT : zk_t) (hA : zk_a) {fc : Nat → Nat → Int32} (hh : qy_V ex (qΓ1 fc) D as tys zSk2) {ρ0 : List Int} (hl0 : ρ0.length = 45) (hx : ρ0[24]? = some (4 : Int)) (hf : ρ0[26]? = some (4 : Int)) {nv : Int} (hn : ρ0[44]? = some nv) (hn1 : -1 ≤ nv) (hn2 : nv ≤ 3) : ∀ (m : Nat) (ρ : List Int) (v : Int), ρ.take 45 = ρ0 → ρ[50]? = some v → 0 ≤ v → v ≤ 624 → 624 - v < (m : Int) → qy_TP ex D as tys 12 189 fc ρ zST_b0HN.1 zST_b0HN.2.1 zST_b0HN.2.2.1 zST_b0HN.2.2.2 13 (zSBP0 fc ρ0) := by
  intro m
  induction m with
  | zero => intro ρ v _ _ _ h1 h2; exfalso; omega
  | succ m ih =>
    intro ρ v ht hv h0 h1 h2
    have gx := q_tkb ht hx
    have gf := q_tkb ht hf
    have gn := q_tkb ht hn
    refine qy_TP.pre (ρ' := ρ) (g' := zST_b0s_h_4_4.1) (w' := zST_b0s_h_4_4.2.1) (lo' := zST_b0s_h_4_4.2.2.1) (st' := zST_b0s_h_4_4.2.2.2) ?_ (fun ws h => h) (fun h => h.to0 [(24, 4, 4), (26, 4, 4), (44, -1, 3), (50, 0, 624)] [] (by decide +kernel) rfl (by decide +kernel) (fa_ex gx (Int.le_refl _) (Int.le_refl _) (fa_ex gf (Int.le_refl _) (Int.le_refl _) (fa_ex gn hn1 hn2 (fa_ex hv (by omega) (by omega) fa_nil)))) fa_nil) (fun _ _ h => h) (fun _ h => h)
    refine qs_lnkB (p := 45) (ρ := ρ) fa_nil hT hA zSg_b0h_4_4 (fa_cons (fun ρ1 ht1 hL hg1 _ => ⟨fun rv hrv => ?r0, fun q hq => ?c0⟩) fa_nil)
    case r0 =>
      have hrv : (Sum.inr _ : Option qV ⊕ (Nat × qL × List qV)) = Sum.inl rv := hrv
      cases hrv
    case c0 =>
      have hq : (Sum.inr _ : Option qV ⊕ (Nat × qL × List qV)) = Sum.inr q := hq
      cases hq
      have v1 := (hL.n (i := 50) (d := 0) (List.mem_cons_of_mem _ (List.mem_cons_of_mem _ (List.mem_cons_of_mem _ (List.mem_cons_of_mem _ (List.mem_cons_of_mem _ List.mem_cons_self))))) hv)
      have ht1 : ρ1.take 45 = ρ0 := by rw [ht1]; exact ht
      rcases Int.lt_or_le v 624 with hlt | hge
      · skip
        refine qs_lnkB (p := 45) (ρ := ρ1) (fa_cons (zSh3 ex (qΓ1 fc) D as tys hT hA hh) (fa_cons (zSh4 ex (qΓ1 fc) D as tys hT hA) fa_nil)) hT hA zSg_b0bN (fa_cons (fun ρ2 ht2 hL hg2 _ => ⟨fun rv hrv => ?r0, fun q hq => ?c0⟩) (fa_cons (fun ρ2 ht2 hL hg2 _ => ⟨fun rv hrv => ?r1, fun q hq => ?c1⟩) fa_nil))
        case r0 =>
          have hrv : (Sum.inr _ : Option qV ⊕ (Nat × qL × List qV)) = Sum.inl rv := hrv
          cases hrv
        case c0 =>
          have hq : (Sum.inr _ : Option qV ⊕ (Nat × qL × List qV)) = Sum.inr q := hq
          cases hq
          have v3 := (hL.n (i := 50) (d := 1) (List.mem_cons_of_mem _ (List.mem_cons_of_mem _ (List.mem_cons_of_mem _ (List.mem_cons_of_mem _ (List.mem_cons_of_mem _ List.mem_cons_self))))) v1)
          exact ih ρ2 (v + 1) (by rw [ht2]; exact ht1) (by rw [v3]; exact congrArg some (by omega)) (by omega) (by omega) (by omega)
        case r1 =>
          have hrv : (Sum.inr _ : Option qV ⊕ (Nat × qL × List qV)) = Sum.inl rv := hrv
          cases hrv
        case c1 =>
          have hq : (Sum.inr _ : Option qV ⊕ (Nat × qL × List qV)) = Sum.inr q := hq
          cases hq
          have v3 := (hL.n (i := 52) (d := 1) (List.mem_cons_of_mem _ (List.mem_cons_of_mem _ List.mem_cons_self)) v1)
          exact zSbF0 hT hA hh hl0 7777 ρ2 (v + 1) (by rw [ht2]; exact ht1) (by rw [v3]; exact congrArg some (by omega)) (by omega) (by omega)
      · have gx := q_tkb ht1 hx
        have gf := q_tkb ht1 hf
        have gn := q_tkb ht1 hn
        refine qy_TP.pre (ρ' := ρ1) (g' := zST_b0s_l_4_4.1) (w' := zST_b0s_l_4_4.2.1) (lo' := zST_b0s_l_4_4.2.2.1) (st' := zST_b0s_l_4_4.2.2.2) ?_ (fun ws h => h) (fun h => h.to0 [(24, 4, 4), (26, 4, 4), (44, -1, 3), (50, 624, 624)] [] (by decide +kernel) rfl (by decide +kernel) (fa_ex gx (Int.le_refl _) (Int.le_refl _) (fa_ex gf (Int.le_refl _) (Int.le_refl _) (fa_ex gn hn1 hn2 (fa_ex v1 (by omega) (by omega) fa_nil)))) fa_nil) (fun _ _ h => h) (fun _ h => h)
        refine qs_lnkB (p := 45) (ρ := ρ1) (fa_cons (zSh28 ex (qΓ1 fc) D as tys hT hA) fa_nil) hT hA zSg_b0l_4_4 (fa_cons (fun ρ2 ht2 hL hg2 _ => ⟨fun rv hrv => ?r0, fun q hq => ?c0⟩) fa_nil)
        case r0 =>
          have hrv : (Sum.inr _ : Option qV ⊕ (Nat × qL × List qV)) = Sum.inl rv := hrv
          cases hrv
        case c0 =>
          have hq : (Sum.inr _ : Option qV ⊕ (Nat × qL × List qV)) = Sum.inr q := hq
          cases hq
          have v3 := (hL.l (i := 52) (z := 625) (List.mem_cons_of_mem _ (List.mem_cons_of_mem _ (List.mem_cons_of_mem _ (List.mem_cons_of_mem _ (List.mem_cons_of_mem _ (List.mem_cons_of_mem _ (List.mem_cons_of_mem _ List.mem_cons_self))))))))
          exact zSbF0 hT hA hh hl0 7777 ρ2 625 (by rw [ht2]; exact ht1) v3 (by omega) (by omega)
theorem zSbN0_4_5 (hT : zk_t) (hA : zk_a) {fc : Nat → Nat → Int32} (hh : qy_V ex (qΓ1 fc) D as tys zSk2) {ρ0 : List Int} (hl0 : ρ0.length = 45) (hx : ρ0[24]? = some (4 : Int)) (hf : ρ0[26]? = some (5 : Int)) {nv : Int} (hn : ρ0[44]? = some nv) (hn1 : -1 ≤ nv) (hn2 : nv ≤ 4) : ∀ (m : Nat) (ρ : List Int) (v : Int), ρ.take 45 = ρ0 → ρ[50]? = some v → 0 ≤ v → v ≤ 3124 → 3124 - v < (m : Int) → qy_TP ex D as tys 12 189 fc ρ zST_b0HN.1 zST_b0HN.2.1 zST_b0HN.2.2.1 zST_b0HN.2.2.2 13 (zSBP0 fc ρ0) := by
  intro m
  induction m with
  | zero => intro ρ v _ _ _ h1 h2; exfalso; omega
  | succ m ih =>
    intro ρ v ht hv h0 h1 h2
    have gx := q_tkb ht hx
    have gf := q_tkb ht hf
    have gn := q_tkb ht hn
    refine qy_TP.pre (ρ' := ρ) (g' := zST_b0s_h_4_5.1) (w' := zST_b0s_h_4_5.2.1) (lo' := zST_b0s_h_4_5.2.2.1) (st' := zST_b0s_h_4_5.2.2.2) ?_ (fun ws h => h) (fun h => h.to0 [(24, 4, 4), (26, 5, 5), (44, -1, 4), (50, 0, 3124)] [] (by decide +kernel) rfl (by decide +kernel) (fa_ex gx (Int.le_refl _) (Int.le_refl _) (fa_ex gf (Int.le_refl _) (Int.le_refl _) (fa_ex gn hn1 hn2 (fa_ex hv (by omega) (by omega) fa_nil)))) fa_nil) (fun _ _ h => h) (fun _ h => h)
    refine qs_lnkB (p := 45) (ρ := ρ) fa_nil hT hA zSg_b0h_4_5 (fa_cons (fun ρ1 ht1 hL hg1 _ => ⟨fun rv hrv => ?r0, fun q hq => ?c0⟩) fa_nil)
    case r0 =>
      have hrv : (Sum.inr _ : Option qV ⊕ (Nat × qL × List qV)) = Sum.inl rv := hrv
      cases hrv
    case c0 =>
      have hq : (Sum.inr _ : Option qV ⊕ (Nat × qL × List qV)) = Sum.inr q := hq
      cases hq
      have v1 := (hL.n (i := 50) (d := 0) (List.mem_cons_of_mem _ (List.mem_cons_of_mem _ (List.mem_cons_of_mem _ (List.mem_cons_of_mem _ (List.mem_cons_of_mem _ List.mem_cons_self))))) hv)
      have ht1 : ρ1.take 45 = ρ0 := by rw [ht1]; exact ht
      rcases Int.lt_or_le v 3124 with hlt | hge
      · skip
        refine qs_lnkB (p := 45) (ρ := ρ1) (fa_cons (zSh3 ex (qΓ1 fc) D as tys hT hA hh) (fa_cons (zSh4 ex (qΓ1 fc) D as tys hT hA) fa_nil)) hT hA zSg_b0bN (fa_cons (fun ρ2 ht2 hL hg2 _ => ⟨fun rv hrv => ?r0, fun q hq => ?c0⟩) (fa_cons (fun ρ2 ht2 hL hg2 _ => ⟨fun rv hrv => ?r1, fun q hq => ?c1⟩) fa_nil))
        case r0 =>
          have hrv : (Sum.inr _ : Option qV ⊕ (Nat × qL × List qV)) = Sum.inl rv := hrv
          cases hrv
        case c0 =>
          have hq : (Sum.inr _ : Option qV ⊕ (Nat × qL × List qV)) = Sum.inr q := hq
          cases hq
          have v3 := (hL.n (i := 50) (d := 1) (List.mem_cons_of_mem _ (List.mem_cons_of_mem _ (List.mem_cons_of_mem _ (List.mem_cons_of_mem _ (List.mem_cons_of_mem _ List.mem_cons_self))))) v1)
          exact ih ρ2 (v + 1) (by rw [ht2]; exact ht1) (by rw [v3]; exact congrArg some (by omega)) (by omega) (by omega) (by omega)
        case r1 =>
          have hrv : (Sum.inr _ : Option qV ⊕ (Nat × qL × List qV)) = Sum.inl rv := hrv
          cases hrv
        case c1 =>
          have hq : (Sum.inr _ : Option qV ⊕ (Nat × qL × List qV)) = Sum.inr q := hq
          cases hq
          have v3 := (hL.n (i := 52) (d := 1) (List.mem_cons_of_mem _ (List.mem_cons_of_mem _ List.mem_cons_self)) v1)
          exact zSbF0 hT hA hh hl0 7777 ρ2 (v + 1) (by rw [ht2]; exact ht1) (by rw [v3]; exact congrArg some (by omega)) (by omega) (by omega)
      · have gx := q_tkb ht1 hx
        have gf := q_tkb ht1 hf
        have gn := q_tkb ht1 hn
        refine qy_TP.pre (ρ' := ρ1) (g' := zST_b0s_l_4_5.1) (w' := zST_b0s_l_4_5.2.1) (lo' := zST_b0s_l_4_5.2.2.1) (st' := zST_b0s_l_4_5.2.2.2) ?_ (fun ws h => h) (fun h => h.to0 [(24, 4, 4), (26, 5, 5), (44, -1, 4), (50, 3124, 3124)] [] (by decide +kernel) rfl (by decide +kernel) (fa_ex gx (Int.le_refl _) (Int.le_refl _) (fa_ex gf (Int.le_refl _) (Int.le_refl _) (fa_ex gn hn1 hn2 (fa_ex v1 (by omega) (by omega) fa_nil)))) fa_nil) (fun _ _ h => h) (fun _ h => h)
        refine qs_lnkB (p := 45) (ρ := ρ1) (fa_cons (zSh29 ex (qΓ1 fc) D as tys hT hA) fa_nil) hT hA zSg_b0l_4_5 (fa_cons (fun ρ2 ht2 hL hg2 _ => ⟨fun rv hrv => ?r0, fun q hq => ?c0⟩) fa_nil)
        case r0 =>
          have hrv : (Sum.inr _ : Option qV ⊕ (Nat × qL × List qV)) = Sum.inl rv := hrv
          cases hrv
        case c0 =>
          have hq : (Sum.inr _ : Option qV ⊕ (Nat × qL × List qV)) = Sum.inr q := hq
          cases hq
          have v3 := (hL.l (i := 52) (z := 3125) (List.mem_cons_of_mem _ (List.mem_cons_of_mem _ (List.mem_cons_of_mem _ (List.mem_cons_of_mem _ (List.mem_cons_of_mem _ (List.mem_cons_of_mem _ (List.mem_cons_of_mem _ List.mem_cons_self))))))))
          exact zSbF0 hT hA hh hl0 7777 ρ2 3125 (by rw [ht2]; exact ht1) v3 (by omega) (by omega)
theorem zSbN0_5_0 (hT : zk_t) (hA : zk_a) {fc : Nat → Nat → Int32} (hh : qy_V ex (qΓ1 fc) D as tys zSk2) {ρ0 : List Int} (hl0 : ρ0.length = 45) (hx : ρ0[24]? = some (5 : Int)) (hf : ρ0[26]? = some (0 : Int)) {nv : Int} (hn : ρ0[44]? = some nv) (hn1 : -1 ≤ nv) (hn2 : nv ≤ -1) : ∀ (m : Nat) (ρ : List Int) (v : Int), ρ.take 45 = ρ0 → ρ[50]? = some v → 0 ≤ v → v ≤ 0 → 0 - v < (m : Int) → qy_TP ex D as tys 12 189 fc ρ zST_b0HN.1 zST_b0HN.2.1 zST_b0HN.2.2.1 zST_b0HN.2.2.2 13 (zSBP0 fc ρ0) := by
  intro m
  induction m with
  | zero => intro ρ v _ _ _ h1 h2; exfalso; omega
  | succ m ih =>
    intro ρ v ht hv h0 h1 h2
    have gx := q_tkb ht hx
    have gf := q_tkb ht hf
    have gn := q_tkb ht hn
    refine qy_TP.pre (ρ' := ρ) (g' := zST_b0s_h_5_0.1) (w' := zST_b0s_h_5_0.2.1) (lo' := zST_b0s_h_5_0.2.2.1) (st' := zST_b0s_h_5_0.2.2.2) ?_ (fun ws h => h) (fun h => h.to0 [(24, 5, 5), (26, 0, 0), (44, -1, -1), (50, 0, 0)] [] (by decide +kernel) rfl (by decide +kernel) (fa_ex gx (Int.le_refl _) (Int.le_refl _) (fa_ex gf (Int.le_refl _) (Int.le_refl _) (fa_ex gn hn1 hn2 (fa_ex hv (by omega) (by omega) fa_nil)))) fa_nil) (fun _ _ h => h) (fun _ h => h)
    refine qs_lnkB (p := 45) (ρ := ρ) fa_nil hT hA zSg_b0h_5_0 (fa_cons (fun ρ1 ht1 hL hg1 _ => ⟨fun rv hrv => ?r0, fun q hq => ?c0⟩) fa_nil)
    case r0 =>
      have hrv : (Sum.inr _ : Option qV ⊕ (Nat × qL × List qV)) = Sum.inl rv := hrv
      cases hrv
    case c0 =>
      have hq : (Sum.inr _ : Option qV ⊕ (Nat × qL × List qV)) = Sum.inr q := hq
      cases hq
      have v1 := (hL.n (i := 50) (d := 0) (List.mem_cons_of_mem _ (List.mem_cons_of_mem _ (List.mem_cons_of_mem _ (List.mem_cons_of_mem _ (List.mem_cons_of_mem _ List.mem_cons_self))))) hv)
      have ht1 : ρ1.take 45 = ρ0 := by rw [ht1]; exact ht
      rcases Int.lt_or_le v 0 with hlt | hge
      · skip
        refine qs_lnkB (p := 45) (ρ := ρ1) (fa_cons (zSh3 ex (qΓ1 fc) D as tys hT hA hh) (fa_cons (zSh4 ex (qΓ1 fc) D as tys hT hA) fa_nil)) hT hA zSg_b0bN (fa_cons (fun ρ2 ht2 hL hg2 _ => ⟨fun rv hrv => ?r0, fun q hq => ?c0⟩) (fa_cons (fun ρ2 ht2 hL hg2 _ => ⟨fun rv hrv => ?r1, fun q hq => ?c1⟩) fa_nil))
        case r0 =>
          have hrv : (Sum.inr _ : Option qV ⊕ (Nat × qL × List qV)) = Sum.inl rv := hrv
          cases hrv
        case c0 =>
          have hq : (Sum.inr _ : Option qV ⊕ (Nat × qL × List qV)) = Sum.inr q := hq
          cases hq
          have v3 := (hL.n (i := 50) (d := 1) (List.mem_cons_of_mem _ (List.mem_cons_of_mem _ (List.mem_cons_of_mem _ (List.mem_cons_of_mem _ (List.mem_cons_of_mem _ List.mem_cons_self))))) v1)
          exact ih ρ2 (v + 1) (by rw [ht2]; exact ht1) (by rw [v3]; exact congrArg some (by omega)) (by omega) (by omega) (by omega)
        case r1 =>
          have hrv : (Sum.inr _ : Option qV ⊕ (Nat × qL × List qV)) = Sum.inl rv := hrv
          cases hrv
        case c1 =>
          have hq : (Sum.inr _ : Option qV ⊕ (Nat × qL × List qV)) = Sum.inr q := hq
          cases hq
          have v3 := (hL.n (i := 52) (d := 1) (List.mem_cons_of_mem _ (List.mem_cons_of_mem _ List.mem_cons_self)) v1)
          exact zSbF0 hT hA hh hl0 7777 ρ2 (v + 1) (by rw [ht2]; exact ht1) (by rw [v3]; exact congrArg some (by omega)) (by omega) (by omega)
      · have gx := q_tkb ht1 hx
        have gf := q_tkb ht1 hf
        have gn := q_tkb ht1 hn
        refine qy_TP.pre (ρ' := ρ1) (g' := zST_b0s_h_5_0.1) (w' := zST_b0s_h_5_0.2.1) (lo' := zST_b0s_h_5_0.2.2.1) (st' := zST_b0s_h_5_0.2.2.2) ?_ (fun ws h => h) (fun h => h.to0 [(24, 5, 5), (26, 0, 0), (44, -1, -1), (50, 0, 0)] [] (by decide +kernel) rfl (by decide +kernel) (fa_ex gx (Int.le_refl _) (Int.le_refl _) (fa_ex gf (Int.le_refl _) (Int.le_refl _) (fa_ex gn hn1 hn2 (fa_ex v1 (by omega) (by omega) fa_nil)))) fa_nil) (fun _ _ h => h) (fun _ h => h)
        refine qs_lnkB (p := 45) (ρ := ρ1) fa_nil hT hA zSg_b0l_5_0 (fa_cons (fun ρ2 ht2 hL hg2 _ => ⟨fun rv hrv => ?r0, fun q hq => ?c0⟩) fa_nil)
        case r0 =>
          have hrv : (Sum.inr _ : Option qV ⊕ (Nat × qL × List qV)) = Sum.inl rv := hrv
          cases hrv
        case c0 =>
          have hq : (Sum.inr _ : Option qV ⊕ (Nat × qL × List qV)) = Sum.inr q := hq
          cases hq
          have v3 := (hL.l (i := 52) (z := 1) (List.mem_cons_of_mem _ (List.mem_cons_of_mem _ (List.mem_cons_of_mem _ (List.mem_cons_of_mem _ (List.mem_cons_of_mem _ (List.mem_cons_of_mem _ (List.mem_cons_of_mem _ List.mem_cons_self))))))))
          exact zSbF0 hT hA hh hl0 7777 ρ2 1 (by rw [ht2]; exact ht1) v3 (by omega) (by omega)
theorem zSbN0_5_1 (hT : zk_t) (hA : zk_a) {fc : Nat → Nat → Int32} (hh : qy_V ex (qΓ1 fc) D as tys zSk2) {ρ0 : List Int} (hl0 : ρ0.length = 45) (hx : ρ0[24]? = some (5 : Int)) (hf : ρ0[26]? = some (1 : Int)) {nv : Int} (hn : ρ0[44]? = some nv) (hn1 : -1 ≤ nv) (hn2 : nv ≤ 0) : ∀ (m : Nat) (ρ : List Int) (v : Int), ρ.take 45 = ρ0 → ρ[50]? = some v → 0 ≤ v → v ≤ 5 → 5 - v < (m : Int) → qy_TP ex D as tys 12 189 fc ρ zST_b0HN.1 zST_b0HN.2.1 zST_b0HN.2.2.1 zST_b0HN.2.2.2 13 (zSBP0 fc ρ0) := by
  intro m
  induction m with
  | zero => intro ρ v _ _ _ h1 h2; exfalso; omega
  | succ m ih =>
    intro ρ v ht hv h0 h1 h2
    have gx := q_tkb ht hx
    have gf := q_tkb ht hf
    have gn := q_tkb ht hn
    refine qy_TP.pre (ρ' := ρ) (g' := zST_b0s_h_5_1.1) (w' := zST_b0s_h_5_1.2.1) (lo' := zST_b0s_h_5_1.2.2.1) (st' := zST_b0s_h_5_1.2.2.2) ?_ (fun ws h => h) (fun h => h.to0 [(24, 5, 5), (26, 1, 1), (44, -1, 0), (50, 0, 5)] [] (by decide +kernel) rfl (by decide +kernel) (fa_ex gx (Int.le_refl _) (Int.le_refl _) (fa_ex gf (Int.le_refl _) (Int.le_refl _) (fa_ex gn hn1 hn2 (fa_ex hv (by omega) (by omega) fa_nil)))) fa_nil) (fun _ _ h => h) (fun _ h => h)
    refine qs_lnkB (p := 45) (ρ := ρ) fa_nil hT hA zSg_b0h_5_1 (fa_cons (fun ρ1 ht1 hL hg1 _ => ⟨fun rv hrv => ?r0, fun q hq => ?c0⟩) fa_nil)
    case r0 =>
      have hrv : (Sum.inr _ : Option qV ⊕ (Nat × qL × List qV)) = Sum.inl rv := hrv
      cases hrv
    case c0 =>
      have hq : (Sum.inr _ : Option qV ⊕ (Nat × qL × List qV)) = Sum.inr q := hq
      cases hq
      have v1 := (hL.n (i := 50) (d := 0) (List.mem_cons_of_mem _ (List.mem_cons_of_mem _ (List.mem_cons_of_mem _ (List.mem_cons_of_mem _ (List.mem_cons_of_mem _ List.mem_cons_self))))) hv)
      have ht1 : ρ1.take 45 = ρ0 := by rw [ht1]; exact ht
      rcases Int.lt_or_le v 5 with hlt | hge
      · skip
        refine qs_lnkB (p := 45) (ρ := ρ1) (fa_cons (zSh3 ex (qΓ1 fc) D as tys hT hA hh) (fa_cons (zSh4 ex (qΓ1 fc) D as tys hT hA) fa_nil)) hT hA zSg_b0bN (fa_cons (fun ρ2 ht2 hL hg2 _ => ⟨fun rv hrv => ?r0, fun q hq => ?c0⟩) (fa_cons (fun ρ2 ht2 hL hg2 _ => ⟨fun rv hrv => ?r1, fun q hq => ?c1⟩) fa_nil))
        case r0 =>
          have hrv : (Sum.inr _ : Option qV ⊕ (Nat × qL × List qV)) = Sum.inl rv := hrv
          cases hrv
        case c0 =>
          have hq : (Sum.inr _ : Option qV ⊕ (Nat × qL × List qV)) = Sum.inr q := hq
          cases hq
          have v3 := (hL.n (i := 50) (d := 1) (List.mem_cons_of_mem _ (List.mem_cons_of_mem _ (List.mem_cons_of_mem _ (List.mem_cons_of_mem _ (List.mem_cons_of_mem _ List.mem_cons_self))))) v1)
          exact ih ρ2 (v + 1) (by rw [ht2]; exact ht1) (by rw [v3]; exact congrArg some (by omega)) (by omega) (by omega) (by omega)
        case r1 =>
          have hrv : (Sum.inr _ : Option qV ⊕ (Nat × qL × List qV)) = Sum.inl rv := hrv
          cases hrv
        case c1 =>
          have hq : (Sum.inr _ : Option qV ⊕ (Nat × qL × List qV)) = Sum.inr q := hq
          cases hq
          have v3 := (hL.n (i := 52) (d := 1) (List.mem_cons_of_mem _ (List.mem_cons_of_mem _ List.mem_cons_self)) v1)
          exact zSbF0 hT hA hh hl0 7777 ρ2 (v + 1) (by rw [ht2]; exact ht1) (by rw [v3]; exact congrArg some (by omega)) (by omega) (by omega)
      · have gx := q_tkb ht1 hx
        have gf := q_tkb ht1 hf
        have gn := q_tkb ht1 hn
        refine qy_TP.pre (ρ' := ρ1) (g' := zST_b0s_l_5_1.1) (w' := zST_b0s_l_5_1.2.1) (lo' := zST_b0s_l_5_1.2.2.1) (st' := zST_b0s_l_5_1.2.2.2) ?_ (fun ws h => h) (fun h => h.to0 [(24, 5, 5), (26, 1, 1), (44, -1, 0), (50, 5, 5)] [] (by decide +kernel) rfl (by decide +kernel) (fa_ex gx (Int.le_refl _) (Int.le_refl _) (fa_ex gf (Int.le_refl _) (Int.le_refl _) (fa_ex gn hn1 hn2 (fa_ex v1 (by omega) (by omega) fa_nil)))) fa_nil) (fun _ _ h => h) (fun _ h => h)
        refine qs_lnkB (p := 45) (ρ := ρ1) (fa_cons (zSh30 ex (qΓ1 fc) D as tys hT hA) fa_nil) hT hA zSg_b0l_5_1 (fa_cons (fun ρ2 ht2 hL hg2 _ => ⟨fun rv hrv => ?r0, fun q hq => ?c0⟩) fa_nil)
        case r0 =>
          have hrv : (Sum.inr _ : Option qV ⊕ (Nat × qL × List qV)) = Sum.inl rv := hrv
          cases hrv
        case c0 =>
          have hq : (Sum.inr _ : Option qV ⊕ (Nat × qL × List qV)) = Sum.inr q := hq
          cases hq
          have v3 := (hL.l (i := 52) (z := 6) (List.mem_cons_of_mem _ (List.mem_cons_of_mem _ (List.mem_cons_of_mem _ (List.mem_cons_of_mem _ (List.mem_cons_of_mem _ (List.mem_cons_of_mem _ (List.mem_cons_of_mem _ List.mem_cons_self))))))))
          exact zSbF0 hT hA hh hl0 7777 ρ2 6 (by rw [ht2]; exact ht1) v3 (by omega) (by omega)
theorem zSbN0_5_2 (hT : zk_t) (hA : zk_a) {fc : Nat → Nat → Int32} (hh : qy_V ex (qΓ1 fc) D as tys zSk2) {ρ0 : List Int} (hl0 : ρ0.length = 45) (hx : ρ0[24]? = some (5 : Int)) (hf : ρ0[26]? = some (2 : Int)) {nv : Int} (hn : ρ0[44]? = some nv) (hn1 : -1 ≤ nv) (hn2 : nv ≤ 1) : ∀ (m : Nat) (ρ : List Int) (v : Int), ρ.take 45 = ρ0 → ρ[50]? = some v → 0 ≤ v → v ≤ 35 → 35 - v < (m : Int) → qy_TP ex D as tys 12 189 fc ρ zST_b0HN.1 zST_b0HN.2.1 zST_b0HN.2.2.1 zST_b0HN.2.2.2 13 (zSBP0 fc ρ0) := by
  intro m
  induction m with
  | zero => intro ρ v _ _ _ h1 h2; exfalso; omega
  | succ m ih =>
    intro ρ v ht hv h0 h1 h2
    have gx := q_tkb ht hx
    have gf := q_tkb ht hf
    have gn := q_tkb ht hn
    refine qy_TP.pre (ρ' := ρ) (g' := zST_b0s_h_5_2.1) (w' := zST_b0s_h_5_2.2.1) (lo' := zST_b0s_h_5_2.2.2.1) (st' := zST_b0s_h_5_2.2.2.2) ?_ (fun ws h => h) (fun h => h.to0 [(24, 5, 5), (26, 2, 2), (44, -1, 1), (50, 0, 35)] [] (by decide +kernel) rfl (by decide +kernel) (fa_ex gx (Int.le_refl _) (Int.le_refl _) (fa_ex gf (Int.le_refl _) (Int.le_refl _) (fa_ex gn hn1 hn2 (fa_ex hv (by omega) (by omega) fa_nil)))) fa_nil) (fun _ _ h => h) (fun _ h => h)
    refine qs_lnkB (p := 45) (ρ := ρ) fa_nil hT hA zSg_b0h_5_2 (fa_cons (fun ρ1 ht1 hL hg1 _ => ⟨fun rv hrv => ?r0, fun q hq => ?c0⟩) fa_nil)
    case r0 =>
      have hrv : (Sum.inr _ : Option qV ⊕ (Nat × qL × List qV)) = Sum.inl rv := hrv
      cases hrv
    case c0 =>
      have hq : (Sum.inr _ : Option qV ⊕ (Nat × qL × List qV)) = Sum.inr q := hq
      cases hq
      have v1 := (hL.n (i := 50) (d := 0) (List.mem_cons_of_mem _ (List.mem_cons_of_mem _ (List.mem_cons_of_mem _ (List.mem_cons_of_mem _ (List.mem_cons_of_mem _ List.mem_cons_self))))) hv)
      have ht1 : ρ1.take 45 = ρ0 := by rw [ht1]; exact ht
      rcases Int.lt_or_le v 35 with hlt | hge
      · skip
        refine qs_lnkB (p := 45) (ρ := ρ1) (fa_cons (zSh3 ex (qΓ1 fc) D as tys hT hA hh) (fa_cons (zSh4 ex (qΓ1 fc) D as tys hT hA) fa_nil)) hT hA zSg_b0bN (fa_cons (fun ρ2 ht2 hL hg2 _ => ⟨fun rv hrv => ?r0, fun q hq => ?c0⟩) (fa_cons (fun ρ2 ht2 hL hg2 _ => ⟨fun rv hrv => ?r1, fun q hq => ?c1⟩) fa_nil))
        case r0 =>
          have hrv : (Sum.inr _ : Option qV ⊕ (Nat × qL × List qV)) = Sum.inl rv := hrv
          cases hrv
        case c0 =>
          have hq : (Sum.inr _ : Option qV ⊕ (Nat × qL × List qV)) = Sum.inr q := hq
          cases hq
          have v3 := (hL.n (i := 50) (d := 1) (List.mem_cons_of_mem _ (List.mem_cons_of_mem _ (List.mem_cons_of_mem _ (List.mem_cons_of_mem _ (List.mem_cons_of_mem _ List.mem_cons_self))))) v1)
          exact ih ρ2 (v + 1) (by rw [ht2]; exact ht1) (by rw [v3]; exact congrArg some (by omega)) (by omega) (by omega) (by omega)
        case r1 =>
          have hrv : (Sum.inr _ : Option qV ⊕ (Nat × qL × List qV)) = Sum.inl rv := hrv
          cases hrv
        case c1 =>
          have hq : (Sum.inr _ : Option qV ⊕ (Nat × qL × List qV)) = Sum.inr q := hq
          cases hq
          have v3 := (hL.n (i := 52) (d := 1) (List.mem_cons_of_mem _ (List.mem_cons_of_mem _ List.mem_cons_self)) v1)
          exact zSbF0 hT hA hh hl0 7777 ρ2 (v + 1) (by rw [ht2]; exact ht1) (by rw [v3]; exact congrArg some (by omega)) (by omega) (by omega)
      · have gx := q_tkb ht1 hx
        have gf := q_tkb ht1 hf
        have gn := q_tkb ht1 hn
        refine qy_TP.pre (ρ' := ρ1) (g' := zST_b0s_l_5_2.1) (w' := zST_b0s_l_5_2.2.1) (lo' := zST_b0s_l_5_2.2.2.1) (st' := zST_b0s_l_5_2.2.2.2) ?_ (fun ws h => h) (fun h => h.to0 [(24, 5, 5), (26, 2, 2), (44, -1, 1), (50, 35, 35)] [] (by decide +kernel) rfl (by decide +kernel) (fa_ex gx (Int.le_refl _) (Int.le_refl _) (fa_ex gf (Int.le_refl _) (Int.le_refl _) (fa_ex gn hn1 hn2 (fa_ex v1 (by omega) (by omega) fa_nil)))) fa_nil) (fun _ _ h => h) (fun _ h => h)
        refine qs_lnkB (p := 45) (ρ := ρ1) (fa_cons (zSh31 ex (qΓ1 fc) D as tys hT hA) fa_nil) hT hA zSg_b0l_5_2 (fa_cons (fun ρ2 ht2 hL hg2 _ => ⟨fun rv hrv => ?r0, fun q hq => ?c0⟩) fa_nil)
        case r0 =>
          have hrv : (Sum.inr _ : Option qV ⊕ (Nat × qL × List qV)) = Sum.inl rv := hrv
          cases hrv
        case c0 =>
          have hq : (Sum.inr _ : Option qV ⊕ (Nat × qL × List qV)) = Sum.inr q := hq
          cases hq
          have v3 := (hL.l (i := 52) (z := 36) (List.mem_cons_of_mem _ (List.mem_cons_of_mem _ (List.mem_cons_of_mem _ (List.mem_cons_of_mem _ (List.mem_cons_of_mem _ (List.mem_cons_of_mem _ (List.mem_cons_of_mem _ List.mem_cons_self))))))))
          exact zSbF0 hT hA hh hl0 7777 ρ2 36 (by rw [ht2]; exact ht1) v3 (by omega) (by omega)
theorem zSbN0_5_3 (hT : zk_t) (hA : zk_a) {fc : Nat → Nat → Int32} (hh : qy_V ex (qΓ1 fc) D as tys zSk2) {ρ0 : List Int} (hl0 : ρ0.length = 45) (hx : ρ0[24]? = some (5 : Int)) (hf : ρ0[26]? = some (3 : Int)) {nv : Int} (hn : ρ0[44]? = some nv) (hn1 : -1 ≤ nv) (hn2 : nv ≤ 2) : ∀ (m : Nat) (ρ : List Int) (v : Int), ρ.take 45 = ρ0 → ρ[50]? = some v → 0 ≤ v → v ≤ 215 → 215 - v < (m : Int) → qy_TP ex D as tys 12 189 fc ρ zST_b0HN.1 zST_b0HN.2.1 zST_b0HN.2.2.1 zST_b0HN.2.2.2 13 (zSBP0 fc ρ0) := by
  intro m
  induction m with
  | zero => intro ρ v _ _ _ h1 h2; exfalso; omega
  | succ m ih =>
    intro ρ v ht hv h0 h1 h2
    have gx := q_tkb ht hx
    have gf := q_tkb ht hf
    have gn := q_tkb ht hn
    refine qy_TP.pre (ρ' := ρ) (g' := zST_b0s_h_5_3.1) (w' := zST_b0s_h_5_3.2.1) (lo' := zST_b0s_h_5_3.2.2.1) (st' := zST_b0s_h_5_3.2.2.2) ?_ (fun ws h => h) (fun h => h.to0 [(24, 5, 5), (26, 3, 3), (44, -1, 2), (50, 0, 215)] [] (by decide +kernel) rfl (by decide +kernel) (fa_ex gx (Int.le_refl _) (Int.le_refl _) (fa_ex gf (Int.le_refl _) (Int.le_refl _) (fa_ex gn hn1 hn2 (fa_ex hv (by omega) (by omega) fa_nil)))) fa_nil) (fun _ _ h => h) (fun _ h => h)
    refine qs_lnkB (p := 45) (ρ := ρ) fa_nil hT hA zSg_b0h_5_3 (fa_cons (fun ρ1 ht1 hL hg1 _ => ⟨fun rv hrv => ?r0, fun q hq => ?c0⟩) fa_nil)
    case r0 =>
      have hrv : (Sum.inr _ : Option qV ⊕ (Nat × qL × List qV)) = Sum.inl rv := hrv
      cases hrv
    case c0 =>
      have hq : (Sum.inr _ : Option qV ⊕ (Nat × qL × List qV)) = Sum.inr q := hq
      cases hq
      have v1 := (hL.n (i := 50) (d := 0) (List.mem_cons_of_mem _ (List.mem_cons_of_mem _ (List.mem_cons_of_mem _ (List.mem_cons_of_mem _ (List.mem_cons_of_mem _ List.mem_cons_self))))) hv)
      have ht1 : ρ1.take 45 = ρ0 := by rw [ht1]; exact ht
      rcases Int.lt_or_le v 215 with hlt | hge
      · skip
        refine qs_lnkB (p := 45) (ρ := ρ1) (fa_cons (zSh3 ex (qΓ1 fc) D as tys hT hA hh) (fa_cons (zSh4 ex (qΓ1 fc) D as tys hT hA) fa_nil)) hT hA zSg_b0bN (fa_cons (fun ρ2 ht2 hL hg2 _ => ⟨fun rv hrv => ?r0, fun q hq => ?c0⟩) (fa_cons (fun ρ2 ht2 hL hg2 _ => ⟨fun rv hrv => ?r1, fun q hq => ?c1⟩) fa_nil))
        case r0 =>
          have hrv : (Sum.inr _ : Option qV ⊕ (Nat × qL × List qV)) = Sum.inl rv := hrv
          cases hrv
        case c0 =>
          have hq : (Sum.inr _ : Option qV ⊕ (Nat × qL × List qV)) = Sum.inr q := hq
          cases hq
          have v3 := (hL.n (i := 50) (d := 1) (List.mem_cons_of_mem _ (List.mem_cons_of_mem _ (List.mem_cons_of_mem _ (List.mem_cons_of_mem _ (List.mem_cons_of_mem _ List.mem_cons_self))))) v1)
          exact ih ρ2 (v + 1) (by rw [ht2]; exact ht1) (by rw [v3]; exact congrArg some (by omega)) (by omega) (by omega) (by omega)
        case r1 =>
          have hrv : (Sum.inr _ : Option qV ⊕ (Nat × qL × List qV)) = Sum.inl rv := hrv
          cases hrv
        case c1 =>
          have hq : (Sum.inr _ : Option qV ⊕ (Nat × qL × List qV)) = Sum.inr q := hq
          cases hq
          have v3 := (hL.n (i := 52) (d := 1) (List.mem_cons_of_mem _ (List.mem_cons_of_mem _ List.mem_cons_self)) v1)
          exact zSbF0 hT hA hh hl0 7777 ρ2 (v + 1) (by rw [ht2]; exact ht1) (by rw [v3]; exact congrArg some (by omega)) (by omega) (by omega)
      · have gx := q_tkb ht1 hx
        have gf := q_tkb ht1 hf
        have gn := q_tkb ht1 hn
        refine qy_TP.pre (ρ' := ρ1) (g' := zST_b0s_l_5_3.1) (w' := zST_b0s_l_5_3.2.1) (lo' := zST_b0s_l_5_3.2.2.1) (st' := zST_b0s_l_5_3.2.2.2) ?_ (fun ws h => h) (fun h => h.to0 [(24, 5, 5), (26, 3, 3), (44, -1, 2), (50, 215, 215)] [] (by decide +kernel) rfl (by decide +kernel) (fa_ex gx (Int.le_refl _) (Int.le_refl _) (fa_ex gf (Int.le_refl _) (Int.le_refl _) (fa_ex gn hn1 hn2 (fa_ex v1 (by omega) (by omega) fa_nil)))) fa_nil) (fun _ _ h => h) (fun _ h => h)
        refine qs_lnkB (p := 45) (ρ := ρ1) (fa_cons (zSh32 ex (qΓ1 fc) D as tys hT hA) fa_nil) hT hA zSg_b0l_5_3 (fa_cons (fun ρ2 ht2 hL hg2 _ => ⟨fun rv hrv => ?r0, fun q hq => ?c0⟩) fa_nil)
        case r0 =>
          have hrv : (Sum.inr _ : Option qV ⊕ (Nat × qL × List qV)) = Sum.inl rv := hrv
          cases hrv
        case c0 =>
          have hq : (Sum.inr _ : Option qV ⊕ (Nat × qL × List qV)) = Sum.inr q := hq
          cases hq
          have v3 := (hL.l (i := 52) (z := 216) (List.mem_cons_of_mem _ (List.mem_cons_of_mem _ (List.mem_cons_of_mem _ (List.mem_cons_of_mem _ (List.mem_cons_of_mem _ (List.mem_cons_of_mem _ (List.mem_cons_of_mem _ List.mem_cons_self))))))))
          exact zSbF0 hT hA hh hl0 7777 ρ2 216 (by rw [ht2]; exact ht1) v3 (by omega) (by omega)
theorem zSbN0_5_4 (hT : zk_t) (hA : zk_a) {fc : Nat → Nat → Int32} (hh : qy_V ex (qΓ1 fc) D as tys zSk2) {ρ0 : List Int} (hl0 : ρ0.length = 45) (hx : ρ0[24]? = some (5 : Int)) (hf : ρ0[26]? = some (4 : Int)) {nv : Int} (hn : ρ0[44]? = some nv) (hn1 : -1 ≤ nv) (hn2 : nv ≤ 3) : ∀ (m : Nat) (ρ : List Int) (v : Int), ρ.take 45 = ρ0 → ρ[50]? = some v → 0 ≤ v → v ≤ 1295 → 1295 - v < (m : Int) → qy_TP ex D as tys 12 189 fc ρ zST_b0HN.1 zST_b0HN.2.1 zST_b0HN.2.2.1 zST_b0HN.2.2.2 13 (zSBP0 fc ρ0) := by
  intro m
  induction m with
  | zero => intro ρ v _ _ _ h1 h2; exfalso; omega
  | succ m ih =>
    intro ρ v ht hv h0 h1 h2
    have gx := q_tkb ht hx
    have gf := q_tkb ht hf
    have gn := q_tkb ht hn
    refine qy_TP.pre (ρ' := ρ) (g' := zST_b0s_h_5_4.1) (w' := zST_b0s_h_5_4.2.1) (lo' := zST_b0s_h_5_4.2.2.1) (st' := zST_b0s_h_5_4.2.2.2) ?_ (fun ws h => h) (fun h => h.to0 [(24, 5, 5), (26, 4, 4), (44, -1, 3), (50, 0, 1295)] [] (by decide +kernel) rfl (by decide +kernel) (fa_ex gx (Int.le_refl _) (Int.le_refl _) (fa_ex gf (Int.le_refl _) (Int.le_refl _) (fa_ex gn hn1 hn2 (fa_ex hv (by omega) (by omega) fa_nil)))) fa_nil) (fun _ _ h => h) (fun _ h => h)
    refine qs_lnkB (p := 45) (ρ := ρ) fa_nil hT hA zSg_b0h_5_4 (fa_cons (fun ρ1 ht1 hL hg1 _ => ⟨fun rv hrv => ?r0, fun q hq => ?c0⟩) fa_nil)
    case r0 =>
      have hrv : (Sum.inr _ : Option qV ⊕ (Nat × qL × List qV)) = Sum.inl rv := hrv
      cases hrv
    case c0 =>
      have hq : (Sum.inr _ : Option qV ⊕ (Nat × qL × List qV)) = Sum.inr q := hq
      cases hq
      have v1 := (hL.n (i := 50) (d := 0) (List.mem_cons_of_mem _ (List.mem_cons_of_mem _ (List.mem_cons_of_mem _ (List.mem_cons_of_mem _ (List.mem_cons_of_mem _ List.mem_cons_self))))) hv)
      have ht1 : ρ1.take 45 = ρ0 := by rw [ht1]; exact ht
      rcases Int.lt_or_le v 1295 with hlt | hge
      · skip
        refine qs_lnkB (p := 45) (ρ := ρ1) (fa_cons (zSh3 ex (qΓ1 fc) D as tys hT hA hh) (fa_cons (zSh4 ex (qΓ1 fc) D as tys hT hA) fa_nil)) hT hA zSg_b0bN (fa_cons (fun ρ2 ht2 hL hg2 _ => ⟨fun rv hrv => ?r0, fun q hq => ?c0⟩) (fa_cons (fun ρ2 ht2 hL hg2 _ => ⟨fun rv hrv => ?r1, fun q hq => ?c1⟩) fa_nil))
        case r0 =>
          have hrv : (Sum.inr _ : Option qV ⊕ (Nat × qL × List qV)) = Sum.inl rv := hrv
          cases hrv
        case c0 =>
          have hq : (Sum.inr _ : Option qV ⊕ (Nat × qL × List qV)) = Sum.inr q := hq
          cases hq
          have v3 := (hL.n (i := 50) (d := 1) (List.mem_cons_of_mem _ (List.mem_cons_of_mem _ (List.mem_cons_of_mem _ (List.mem_cons_of_mem _ (List.mem_cons_of_mem _ List.mem_cons_self))))) v1)
          exact ih ρ2 (v + 1) (by rw [ht2]; exact ht1) (by rw [v3]; exact congrArg some (by omega)) (by omega) (by omega) (by omega)
        case r1 =>
          have hrv : (Sum.inr _ : Option qV ⊕ (Nat × qL × List qV)) = Sum.inl rv := hrv
          cases hrv
        case c1 =>
          have hq : (Sum.inr _ : Option qV ⊕ (Nat × qL × List qV)) = Sum.inr q := hq
          cases hq
          have v3 := (hL.n (i := 52) (d := 1) (List.mem_cons_of_mem _ (List.mem_cons_of_mem _ List.mem_cons_self)) v1)
          exact zSbF0 hT hA hh hl0 7777 ρ2 (v + 1) (by rw [ht2]; exact ht1) (by rw [v3]; exact congrArg some (by omega)) (by omega) (by omega)
      · have gx := q_tkb ht1 hx
        have gf := q_tkb ht1 hf
        have gn := q_tkb ht1 hn
        refine qy_TP.pre (ρ' := ρ1) (g' := zST_b0s_l_5_4.1) (w' := zST_b0s_l_5_4.2.1) (lo' := zST_b0s_l_5_4.2.2.1) (st' := zST_b0s_l_5_4.2.2.2) ?_ (fun ws h => h) (fun h => h.to0 [(24, 5, 5), (26, 4, 4), (44, -1, 3), (50, 1295, 1295)] [] (by decide +kernel) rfl (by decide +kernel) (fa_ex gx (Int.le_refl _) (Int.le_refl _) (fa_ex gf (Int.le_refl _) (Int.le_refl _) (fa_ex gn hn1 hn2 (fa_ex v1 (by omega) (by omega) fa_nil)))) fa_nil) (fun _ _ h => h) (fun _ h => h)
        refine qs_lnkB (p := 45) (ρ := ρ1) (fa_cons (zSh33 ex (qΓ1 fc) D as tys hT hA) fa_nil) hT hA zSg_b0l_5_4 (fa_cons (fun ρ2 ht2 hL hg2 _ => ⟨fun rv hrv => ?r0, fun q hq => ?c0⟩) fa_nil)
        case r0 =>
          have hrv : (Sum.inr _ : Option qV ⊕ (Nat × qL × List qV)) = Sum.inl rv := hrv
          cases hrv
        case c0 =>
          have hq : (Sum.inr _ : Option qV ⊕ (Nat × qL × List qV)) = Sum.inr q := hq
          cases hq
          have v3 := (hL.l (i := 52) (z := 1296) (List.mem_cons_of_mem _ (List.mem_cons_of_mem _ (List.mem_cons_of_mem _ (List.mem_cons_of_mem _ (List.mem_cons_of_mem _ (List.mem_cons_of_mem _ (List.mem_cons_of_mem _ List.mem_cons_self))))))))
          exact zSbF0 hT hA hh hl0 7777 ρ2 1296 (by rw [ht2]; exact ht1) v3 (by omega) (by omega)
theorem zSbN0_5_5 (hT : zk_t) (hA : zk_a) {fc : Nat → Nat → Int32} (hh : qy_V ex (qΓ1 fc) D as tys zSk2) {ρ0 : List Int} (hl0 : ρ0.length = 45) (hx : ρ0[24]? = some (5 : Int)) (hf : ρ0[26]? = some (5 : Int)) {nv : Int} (hn : ρ0[44]? = some nv) (hn1 : -1 ≤ nv) (hn2 : nv ≤ 4) : ∀ (m : Nat) (ρ : List Int) (v : Int), ρ.take 45 = ρ0 → ρ[50]? = some v → 0 ≤ v → v ≤ 7775 → 7775 - v < (m : Int) → qy_TP ex D as tys 12 189 fc ρ zST_b0HN.1 zST_b0HN.2.1 zST_b0HN.2.2.1 zST_b0HN.2.2.2 13 (zSBP0 fc ρ0) := by
  intro m
  induction m with
  | zero => intro ρ v _ _ _ h1 h2; exfalso; omega
  | succ m ih =>
    intro ρ v ht hv h0 h1 h2
    have gx := q_tkb ht hx
    have gf := q_tkb ht hf
    have gn := q_tkb ht hn
    refine qy_TP.pre (ρ' := ρ) (g' := zST_b0s_h_5_5.1) (w' := zST_b0s_h_5_5.2.1) (lo' := zST_b0s_h_5_5.2.2.1) (st' := zST_b0s_h_5_5.2.2.2) ?_ (fun ws h => h) (fun h => h.to0 [(24, 5, 5), (26, 5, 5), (44, -1, 4), (50, 0, 7775)] [] (by decide +kernel) rfl (by decide +kernel) (fa_ex gx (Int.le_refl _) (Int.le_refl _) (fa_ex gf (Int.le_refl _) (Int.le_refl _) (fa_ex gn hn1 hn2 (fa_ex hv (by omega) (by omega) fa_nil)))) fa_nil) (fun _ _ h => h) (fun _ h => h)
    refine qs_lnkB (p := 45) (ρ := ρ) fa_nil hT hA zSg_b0h_5_5 (fa_cons (fun ρ1 ht1 hL hg1 _ => ⟨fun rv hrv => ?r0, fun q hq => ?c0⟩) fa_nil)
    case r0 =>
      have hrv : (Sum.inr _ : Option qV ⊕ (Nat × qL × List qV)) = Sum.inl rv := hrv
      cases hrv
    case c0 =>
      have hq : (Sum.inr _ : Option qV ⊕ (Nat × qL × List qV)) = Sum.inr q := hq
      cases hq
      have v1 := (hL.n (i := 50) (d := 0) (List.mem_cons_of_mem _ (List.mem_cons_of_mem _ (List.mem_cons_of_mem _ (List.mem_cons_of_mem _ (List.mem_cons_of_mem _ List.mem_cons_self))))) hv)
      have ht1 : ρ1.take 45 = ρ0 := by rw [ht1]; exact ht
      rcases Int.lt_or_le v 7775 with hlt | hge
      · skip
        refine qs_lnkB (p := 45) (ρ := ρ1) (fa_cons (zSh3 ex (qΓ1 fc) D as tys hT hA hh) (fa_cons (zSh4 ex (qΓ1 fc) D as tys hT hA) fa_nil)) hT hA zSg_b0bN (fa_cons (fun ρ2 ht2 hL hg2 _ => ⟨fun rv hrv => ?r0, fun q hq => ?c0⟩) (fa_cons (fun ρ2 ht2 hL hg2 _ => ⟨fun rv hrv => ?r1, fun q hq => ?c1⟩) fa_nil))
        case r0 =>
          have hrv : (Sum.inr _ : Option qV ⊕ (Nat × qL × List qV)) = Sum.inl rv := hrv
          cases hrv
        case c0 =>
          have hq : (Sum.inr _ : Option qV ⊕ (Nat × qL × List qV)) = Sum.inr q := hq
          cases hq
          have v3 := (hL.n (i := 50) (d := 1) (List.mem_cons_of_mem _ (List.mem_cons_of_mem _ (List.mem_cons_of_mem _ (List.mem_cons_of_mem _ (List.mem_cons_of_mem _ List.mem_cons_self))))) v1)
          exact ih ρ2 (v + 1) (by rw [ht2]; exact ht1) (by rw [v3]; exact congrArg some (by omega)) (by omega) (by omega) (by omega)
        case r1 =>
          have hrv : (Sum.inr _ : Option qV ⊕ (Nat × qL × List qV)) = Sum.inl rv := hrv
          cases hrv
        case c1 =>
          have hq : (Sum.inr _ : Option qV ⊕ (Nat × qL × List qV)) = Sum.inr q := hq
          cases hq
          have v3 := (hL.n (i := 52) (d := 1) (List.mem_cons_of_mem _ (List.mem_cons_of_mem _ List.mem_cons_self)) v1)
          exact zSbF0 hT hA hh hl0 7777 ρ2 (v + 1) (by rw [ht2]; exact ht1) (by rw [v3]; exact congrArg some (by omega)) (by omega) (by omega)
      · have gx := q_tkb ht1 hx
        have gf := q_tkb ht1 hf
        have gn := q_tkb ht1 hn
        refine qy_TP.pre (ρ' := ρ1) (g' := zST_b0s_l_5_5.1) (w' := zST_b0s_l_5_5.2.1) (lo' := zST_b0s_l_5_5.2.2.1) (st' := zST_b0s_l_5_5.2.2.2) ?_ (fun ws h => h) (fun h => h.to0 [(24, 5, 5), (26, 5, 5), (44, -1, 4), (50, 7775, 7775)] [] (by decide +kernel) rfl (by decide +kernel) (fa_ex gx (Int.le_refl _) (Int.le_refl _) (fa_ex gf (Int.le_refl _) (Int.le_refl _) (fa_ex gn hn1 hn2 (fa_ex v1 (by omega) (by omega) fa_nil)))) fa_nil) (fun _ _ h => h) (fun _ h => h)
        refine qs_lnkB (p := 45) (ρ := ρ1) (fa_cons (zSh34 ex (qΓ1 fc) D as tys hT hA) fa_nil) hT hA zSg_b0l_5_5 (fa_cons (fun ρ2 ht2 hL hg2 _ => ⟨fun rv hrv => ?r0, fun q hq => ?c0⟩) fa_nil)
        case r0 =>
          have hrv : (Sum.inr _ : Option qV ⊕ (Nat × qL × List qV)) = Sum.inl rv := hrv
          cases hrv
        case c0 =>
          have hq : (Sum.inr _ : Option qV ⊕ (Nat × qL × List qV)) = Sum.inr q := hq
          cases hq
          have v3 := (hL.l (i := 52) (z := 7776) (List.mem_cons_of_mem _ (List.mem_cons_of_mem _ (List.mem_cons_of_mem _ (List.mem_cons_of_mem _ (List.mem_cons_of_mem _ (List.mem_cons_of_mem _ (List.mem_cons_of_mem _ List.mem_cons_self))))))))
          exact zSbF0 hT hA hh hl0 7777 ρ2 7776 (by rw [ht2]; exact ht1) v3 (by omega) (by omega)
theorem zSbest0 (hT : zk_t) (hA : zk_a) (hh : ∀ fc, Γ.1 fc → qy_V ex (qΓ1 fc) D as tys zSk2) : qy_V ex Γ D as tys zSk70 := by
  refine qy_V.ofTP fun fc ρ hfc => qy_TP.intro fun _ hg => ?_
  have hl : ρ.length = 45 := hg.len rfl
  have hh := hh fc hfc
  refine qy_TP.post (P1 := zSBP0 fc ρ) ?_ (fun fc' ρ' o h => ⟨h.2.2, h.2.1, by rw [h.1]; exact ⟨hfc, fun _ _ => rfl⟩⟩)
  obtain ⟨x, hx, hx1, hx2⟩ := hg.2.1 24 (0, 5) rfl
  obtain ⟨f, hf, hf1, hf2⟩ := hg.2.1 26 (0, 5) rfl
  obtain ⟨nv, hn, hn1, hn2⟩ := hg.2.1 44 _ rfl
  obtain ⟨f2, n2, hf3, hn3, hfn⟩ := hg.2.2 ((.ofNat 1), 26, (.negSucc 0), 44, (.ofNat 1)) (List.mem_cons_of_mem _ List.mem_cons_self)
  have hf3 : ρ[26]? = some f2 := hf3
  have hn3 : ρ[44]? = some n2 := hn3
  rw [hf] at hf3; cases hf3
  rw [hn] at hn3; cases hn3
  have hfn : (1 : Int) ≤ 1 * f + (-1) * nv := hfn
  have hx1 : (0 : Int) ≤ x := hx1
  have hx2 : x ≤ (5 : Int) := hx2
  have hf1 : (0 : Int) ≤ f := hf1
  have hf2 : f ≤ (5 : Int) := hf2
  have hn1 : (-1 : Int) ≤ nv := hn1
  refine qs_lnkB (p := 45) (ρ := ρ) (fa_cons (zSh0 ex (qΓ1 fc) D as tys hT hA) fa_nil) hT hA zSg_b0s0 (fa_cons (fun ρ1 ht1 hL hg1 _ => ⟨fun rv hrv => ?r0, fun q hq => ?c0⟩) fa_nil)
  case r0 =>
    have hrv : (Sum.inr _ : Option qV ⊕ (Nat × qL × List qV)) = Sum.inl rv := hrv
    cases hrv
  case c0 =>
    have hq : (Sum.inr _ : Option qV ⊕ (Nat × qL × List qV)) = Sum.inr q := hq
    cases hq
    have v0 := (hL.l (i := 50) (z := 0) (List.mem_cons_of_mem _ (List.mem_cons_of_mem _ (List.mem_cons_of_mem _ (List.mem_cons_of_mem _ List.mem_cons_self)))))
    have ht : ρ1.take 45 = ρ := by rw [ht1]; exact List.take_of_length_le (by omega)
    have cx : x = 0 ∨ x = 1 ∨ x = 2 ∨ x = 3 ∨ x = 4 ∨ x = 5 := by omega
    have cf : f = 0 ∨ f = 1 ∨ f = 2 ∨ f = 3 ∨ f = 4 ∨ f = 5 := by omega
    rcases cx with e | e | e | e | e | e
    · rw [e] at hx
      rcases cf with e2 | e2 | e2 | e2 | e2 | e2
      · rw [e2] at hf hfn
        exact zSbN0_0_0 hT hA hh hl hx hf hn hn1 (by omega) 7777 ρ1 0 ht v0 (by omega) (by omega) (by omega)
      · rw [e2] at hf hfn
        exact zSbN0_0_1 hT hA hh hl hx hf hn hn1 (by omega) 7777 ρ1 0 ht v0 (by omega) (by omega) (by omega)
      · rw [e2] at hf hfn
        exact zSbN0_0_2 hT hA hh hl hx hf hn hn1 (by omega) 7777 ρ1 0 ht v0 (by omega) (by omega) (by omega)
      · rw [e2] at hf hfn
        exact zSbN0_0_3 hT hA hh hl hx hf hn hn1 (by omega) 7777 ρ1 0 ht v0 (by omega) (by omega) (by omega)
      · rw [e2] at hf hfn
        exact zSbN0_0_4 hT hA hh hl hx hf hn hn1 (by omega) 7777 ρ1 0 ht v0 (by omega) (by omega) (by omega)
      · rw [e2] at hf hfn
        exact zSbN0_0_5 hT hA hh hl hx hf hn hn1 (by omega) 7777 ρ1 0 ht v0 (by omega) (by omega) (by omega)
    · rw [e] at hx
      rcases cf with e2 | e2 | e2 | e2 | e2 | e2
      · rw [e2] at hf hfn
        exact zSbN0_1_0 hT hA hh hl hx hf hn hn1 (by omega) 7777 ρ1 0 ht v0 (by omega) (by omega) (by omega)
      · rw [e2] at hf hfn
        exact zSbN0_1_1 hT hA hh hl hx hf hn hn1 (by omega) 7777 ρ1 0 ht v0 (by omega) (by omega) (by omega)
      · rw [e2] at hf hfn
        exact zSbN0_1_2 hT hA hh hl hx hf hn hn1 (by omega) 7777 ρ1 0 ht v0 (by omega) (by omega) (by omega)
      · rw [e2] at hf hfn
        exact zSbN0_1_3 hT hA hh hl hx hf hn hn1 (by omega) 7777 ρ1 0 ht v0 (by omega) (by omega) (by omega)
      · rw [e2] at hf hfn
        exact zSbN0_1_4 hT hA hh hl hx hf hn hn1 (by omega) 7777 ρ1 0 ht v0 (by omega) (by omega) (by omega)
      · rw [e2] at hf hfn
        exact zSbN0_1_5 hT hA hh hl hx hf hn hn1 (by omega) 7777 ρ1 0 ht v0 (by omega) (by omega) (by omega)
    · rw [e] at hx
      rcases cf with e2 | e2 | e2 | e2 | e2 | e2
      · rw [e2] at hf hfn
        exact zSbN0_2_0 hT hA hh hl hx hf hn hn1 (by omega) 7777 ρ1 0 ht v0 (by omega) (by omega) (by omega)
      · rw [e2] at hf hfn
        exact zSbN0_2_1 hT hA hh hl hx hf hn hn1 (by omega) 7777 ρ1 0 ht v0 (by omega) (by omega) (by omega)
      · rw [e2] at hf hfn
        exact zSbN0_2_2 hT hA hh hl hx hf hn hn1 (by omega) 7777 ρ1 0 ht v0 (by omega) (by omega) (by omega)
      · rw [e2] at hf hfn
        exact zSbN0_2_3 hT hA hh hl hx hf hn hn1 (by omega) 7777 ρ1 0 ht v0 (by omega) (by omega) (by omega)
      · rw [e2] at hf hfn
        exact zSbN0_2_4 hT hA hh hl hx hf hn hn1 (by omega) 7777 ρ1 0 ht v0 (by omega) (by omega) (by omega)
      · rw [e2] at hf hfn
        exact zSbN0_2_5 hT hA hh hl hx hf hn hn1 (by omega) 7777 ρ1 0 ht v0 (by omega) (by omega) (by omega)
    · rw [e] at hx
      rcases cf with e2 | e2 | e2 | e2 | e2 | e2
      · rw [e2] at hf hfn
        exact zSbN0_3_0 hT hA hh hl hx hf hn hn1 (by omega) 7777 ρ1 0 ht v0 (by omega) (by omega) (by omega)
      · rw [e2] at hf hfn
        exact zSbN0_3_1 hT hA hh hl hx hf hn hn1 (by omega) 7777 ρ1 0 ht v0 (by omega) (by omega) (by omega)
      · rw [e2] at hf hfn
        exact zSbN0_3_2 hT hA hh hl hx hf hn hn1 (by omega) 7777 ρ1 0 ht v0 (by omega) (by omega) (by omega)
      · rw [e2] at hf hfn
        exact zSbN0_3_3 hT hA hh hl hx hf hn hn1 (by omega) 7777 ρ1 0 ht v0 (by omega) (by omega) (by omega)
      · rw [e2] at hf hfn
        exact zSbN0_3_4 hT hA hh hl hx hf hn hn1 (by omega) 7777 ρ1 0 ht v0 (by omega) (by omega) (by omega)
      · rw [e2] at hf hfn
        exact zSbN0_3_5 hT hA hh hl hx hf hn hn1 (by omega) 7777 ρ1 0 ht v0 (by omega) (by omega) (by omega)
    · rw [e] at hx
      rcases cf with e2 | e2 | e2 | e2 | e2 | e2
      · rw [e2] at hf hfn
        exact zSbN0_4_0 hT hA hh hl hx hf hn hn1 (by omega) 7777 ρ1 0 ht v0 (by omega) (by omega) (by omega)
      · rw [e2] at hf hfn
        exact zSbN0_4_1 hT hA hh hl hx hf hn hn1 (by omega) 7777 ρ1 0 ht v0 (by omega) (by omega) (by omega)
      · rw [e2] at hf hfn
        exact zSbN0_4_2 hT hA hh hl hx hf hn hn1 (by omega) 7777 ρ1 0 ht v0 (by omega) (by omega) (by omega)
      · rw [e2] at hf hfn
        exact zSbN0_4_3 hT hA hh hl hx hf hn hn1 (by omega) 7777 ρ1 0 ht v0 (by omega) (by omega) (by omega)
      · rw [e2] at hf hfn
        exact zSbN0_4_4 hT hA hh hl hx hf hn hn1 (by omega) 7777 ρ1 0 ht v0 (by omega) (by omega) (by omega)
      · rw [e2] at hf hfn
        exact zSbN0_4_5 hT hA hh hl hx hf hn hn1 (by omega) 7777 ρ1 0 ht v0 (by omega) (by omega) (by omega)
    · rw [e] at hx
      rcases cf with e2 | e2 | e2 | e2 | e2 | e2
      · rw [e2] at hf hfn
        exact zSbN0_5_0 hT hA hh hl hx hf hn hn1 (by omega) 7777 ρ1 0 ht v0 (by omega) (by omega) (by omega)
      · rw [e2] at hf hfn
        exact zSbN0_5_1 hT hA hh hl hx hf hn hn1 (by omega) 7777 ρ1 0 ht v0 (by omega) (by omega) (by omega)
      · rw [e2] at hf hfn
        exact zSbN0_5_2 hT hA hh hl hx hf hn hn1 (by omega) 7777 ρ1 0 ht v0 (by omega) (by omega) (by omega)
      · rw [e2] at hf hfn
        exact zSbN0_5_3 hT hA hh hl hx hf hn hn1 (by omega) 7777 ρ1 0 ht v0 (by omega) (by omega) (by omega)
      · rw [e2] at hf hfn
        exact zSbN0_5_4 hT hA hh hl hx hf hn hn1 (by omega) 7777 ρ1 0 ht v0 (by omega) (by omega) (by omega)
      · rw [e2] at hf hfn
        exact zSbN0_5_5 hT hA hh hl hx hf hn hn1 (by omega) 7777 ρ1 0 ht v0 (by omega) (by omega) (by omega)
end zSB0
section zSB1
variable {ex : Nat → Value} {Γ : qΓ} {D : va_G} {as : List Nat} {tys : List (ClassId × FieldType)}
def zSBP1 (fc : Nat → Nat → Int32) (ρ0 : List Int) : qP := fun fc' ρ' o => fc' = fc ∧ qe ρ0 ρ' ∧ o ∈ q_po zSk78
theorem zSbF1 (hT : zk_t) (hA : zk_a) {fc : Nat → Nat → Int32} (hh : qy_V ex (qΓ1 fc) D as tys zSk37) {ρ0 : List Int} (hl0 : ρ0.length = 45) : ∀ (m : Nat) (ρ : List Int) (v : Int), ρ.take 45 = ρ0 → ρ[52]? = some v → v ≤ 7776 → 7776 - v < (m : Int) → qy_TP ex D as tys 12 189 fc ρ zST_b1HF.1 zST_b1HF.2.1 zST_b1HF.2.2.1 zST_b1HF.2.2.2 13 (zSBP1 fc ρ0) := by
  intro m
  induction m with
  | zero => intro ρ v _ _ h1 h2; exfalso; omega
  | succ m ih =>
    intro ρ v ht hv h1 h2
    refine qs_lnkB (p := 45) (ρ := ρ) fa_nil hT hA zSg_b1hF (fa_cons (fun ρ1 ht1 hL hg1 _ => ⟨fun rv hrv => ?r0, fun q hq => ?c0⟩) (fa_cons (fun ρ1 ht1 hL hg1 _ => ⟨fun rv hrv => ?r1, fun q hq => ?c1⟩) fa_nil))
    case r0 =>
      have hrv : (Sum.inr _ : Option qV ⊕ (Nat × qL × List qV)) = Sum.inl rv := hrv
      cases hrv
    case c0 =>
      have hq : (Sum.inr _ : Option qV ⊕ (Nat × qL × List qV)) = Sum.inr q := hq
      cases hq
      have v1 := (hL.n (i := 52) (d := 0) (List.mem_cons_of_mem _ (List.mem_cons_of_mem _ (List.mem_cons_of_mem _ (List.mem_cons_of_mem _ (List.mem_cons_of_mem _ (List.mem_cons_of_mem _ (List.mem_cons_of_mem _ List.mem_cons_self))))))) hv)
      have v2 : (0 : Int) ≤ v + 0 ∧ v + 0 ≤ 7775 := hg1.rng (i := 52) (r := (0, 7775)) rfl v1
      refine qs_lnkB (p := 45) (ρ := ρ1) (fa_cons (zSh38 ex (qΓ1 fc) D as tys hT hA hh) (fa_cons (zSh39 ex (qΓ1 fc) D as tys hT hA) fa_nil)) hT hA zSg_b1bF (fa_cons (fun ρ2 ht2 hL hg2 _ => ⟨fun rv hrv => ?r0, fun q hq => ?c0⟩) fa_nil)
      case r0 =>
        have hrv : (Sum.inr _ : Option qV ⊕ (Nat × qL × List qV)) = Sum.inl rv := hrv
        cases hrv
      case c0 =>
        have hq : (Sum.inr _ : Option qV ⊕ (Nat × qL × List qV)) = Sum.inr q := hq
        cases hq
        have v3 := (hL.n (i := 52) (d := 1) (List.mem_cons_of_mem _ List.mem_cons_self) v1)
        exact ih ρ2 (v + 1) (by rw [ht2, ht1]; exact ht) (by rw [v3]; exact congrArg some (by omega)) (by omega) (by omega)
    case r1 =>
      exact ⟨rfl, ⟨ρ1.drop 45, by rw [← ht, ← ht1, List.take_append_drop]⟩, List.mem_cons_self⟩
    case c1 =>
      have hq : (Sum.inl _ : Option qV ⊕ (Nat × qL × List qV)) = Sum.inr q := hq
      cases hq
theorem zSbN1_0_0 (hT : zk_t) (hA : zk_a) {fc : Nat → Nat → Int32} (hh : qy_V ex (qΓ1 fc) D as tys zSk37) {ρ0 : List Int} (hl0 : ρ0.length = 45) (hx : ρ0[25]? = some (0 : Int)) (hf : ρ0[27]? = some (0 : Int)) {nv : Int} (hn : ρ0[44]? = some nv) (hn1 : -1 ≤ nv) (hn2 : nv ≤ -1) : ∀ (m : Nat) (ρ : List Int) (v : Int), ρ.take 45 = ρ0 → ρ[50]? = some v → 0 ≤ v → v ≤ 0 → 0 - v < (m : Int) → qy_TP ex D as tys 12 189 fc ρ zST_b1HN.1 zST_b1HN.2.1 zST_b1HN.2.2.1 zST_b1HN.2.2.2 13 (zSBP1 fc ρ0) := by
  intro m
  induction m with
  | zero => intro ρ v _ _ _ h1 h2; exfalso; omega
  | succ m ih =>
    intro ρ v ht hv h0 h1 h2
    have gx := q_tkb ht hx
    have gf := q_tkb ht hf
    have gn := q_tkb ht hn
    refine qy_TP.pre (ρ' := ρ) (g' := zST_b1s_h_0_0.1) (w' := zST_b1s_h_0_0.2.1) (lo' := zST_b1s_h_0_0.2.2.1) (st' := zST_b1s_h_0_0.2.2.2) ?_ (fun ws h => h) (fun h => h.to0 [(25, 0, 0), (27, 0, 0), (44, -1, -1), (50, 0, 0)] [] (by decide +kernel) rfl (by decide +kernel) (fa_ex gx (Int.le_refl _) (Int.le_refl _) (fa_ex gf (Int.le_refl _) (Int.le_refl _) (fa_ex gn hn1 hn2 (fa_ex hv (by omega) (by omega) fa_nil)))) fa_nil) (fun _ _ h => h) (fun _ h => h)
    refine qs_lnkB (p := 45) (ρ := ρ) fa_nil hT hA zSg_b1h_0_0 (fa_cons (fun ρ1 ht1 hL hg1 _ => ⟨fun rv hrv => ?r0, fun q hq => ?c0⟩) fa_nil)
    case r0 =>
      have hrv : (Sum.inr _ : Option qV ⊕ (Nat × qL × List qV)) = Sum.inl rv := hrv
      cases hrv
    case c0 =>
      have hq : (Sum.inr _ : Option qV ⊕ (Nat × qL × List qV)) = Sum.inr q := hq
      cases hq
      have v1 := (hL.n (i := 50) (d := 0) (List.mem_cons_of_mem _ (List.mem_cons_of_mem _ (List.mem_cons_of_mem _ (List.mem_cons_of_mem _ (List.mem_cons_of_mem _ List.mem_cons_self))))) hv)
      have ht1 : ρ1.take 45 = ρ0 := by rw [ht1]; exact ht
      rcases Int.lt_or_le v 0 with hlt | hge
      · skip
        refine qs_lnkB (p := 45) (ρ := ρ1) (fa_cons (zSh38 ex (qΓ1 fc) D as tys hT hA hh) (fa_cons (zSh39 ex (qΓ1 fc) D as tys hT hA) fa_nil)) hT hA zSg_b1bN (fa_cons (fun ρ2 ht2 hL hg2 _ => ⟨fun rv hrv => ?r0, fun q hq => ?c0⟩) (fa_cons (fun ρ2 ht2 hL hg2 _ => ⟨fun rv hrv => ?r1, fun q hq => ?c1⟩) fa_nil))
        case r0 =>
          have hrv : (Sum.inr _ : Option qV ⊕ (Nat × qL × List qV)) = Sum.inl rv := hrv
          cases hrv
        case c0 =>
          have hq : (Sum.inr _ : Option qV ⊕ (Nat × qL × List qV)) = Sum.inr q := hq
          cases hq
          have v3 := (hL.n (i := 50) (d := 1) (List.mem_cons_of_mem _ (List.mem_cons_of_mem _ (List.mem_cons_of_mem _ (List.mem_cons_of_mem _ (List.mem_cons_of_mem _ List.mem_cons_self))))) v1)
          exact ih ρ2 (v + 1) (by rw [ht2]; exact ht1) (by rw [v3]; exact congrArg some (by omega)) (by omega) (by omega) (by omega)
        case r1 =>
          have hrv : (Sum.inr _ : Option qV ⊕ (Nat × qL × List qV)) = Sum.inl rv := hrv
          cases hrv
        case c1 =>
          have hq : (Sum.inr _ : Option qV ⊕ (Nat × qL × List qV)) = Sum.inr q := hq
          cases hq
          have v3 := (hL.n (i := 52) (d := 1) (List.mem_cons_of_mem _ (List.mem_cons_of_mem _ List.mem_cons_self)) v1)
          exact zSbF1 hT hA hh hl0 7777 ρ2 (v + 1) (by rw [ht2]; exact ht1) (by rw [v3]; exact congrArg some (by omega)) (by omega) (by omega)
      · have gx := q_tkb ht1 hx
        have gf := q_tkb ht1 hf
        have gn := q_tkb ht1 hn
        refine qy_TP.pre (ρ' := ρ1) (g' := zST_b1s_h_0_0.1) (w' := zST_b1s_h_0_0.2.1) (lo' := zST_b1s_h_0_0.2.2.1) (st' := zST_b1s_h_0_0.2.2.2) ?_ (fun ws h => h) (fun h => h.to0 [(25, 0, 0), (27, 0, 0), (44, -1, -1), (50, 0, 0)] [] (by decide +kernel) rfl (by decide +kernel) (fa_ex gx (Int.le_refl _) (Int.le_refl _) (fa_ex gf (Int.le_refl _) (Int.le_refl _) (fa_ex gn hn1 hn2 (fa_ex v1 (by omega) (by omega) fa_nil)))) fa_nil) (fun _ _ h => h) (fun _ h => h)
        refine qs_lnkB (p := 45) (ρ := ρ1) fa_nil hT hA zSg_b1l_0_0 (fa_cons (fun ρ2 ht2 hL hg2 _ => ⟨fun rv hrv => ?r0, fun q hq => ?c0⟩) fa_nil)
        case r0 =>
          have hrv : (Sum.inr _ : Option qV ⊕ (Nat × qL × List qV)) = Sum.inl rv := hrv
          cases hrv
        case c0 =>
          have hq : (Sum.inr _ : Option qV ⊕ (Nat × qL × List qV)) = Sum.inr q := hq
          cases hq
          have v3 := (hL.l (i := 52) (z := 1) (List.mem_cons_of_mem _ (List.mem_cons_of_mem _ (List.mem_cons_of_mem _ (List.mem_cons_of_mem _ (List.mem_cons_of_mem _ (List.mem_cons_of_mem _ (List.mem_cons_of_mem _ List.mem_cons_self))))))))
          exact zSbF1 hT hA hh hl0 7777 ρ2 1 (by rw [ht2]; exact ht1) v3 (by omega) (by omega)
theorem zSbN1_0_1 (hT : zk_t) (hA : zk_a) {fc : Nat → Nat → Int32} (hh : qy_V ex (qΓ1 fc) D as tys zSk37) {ρ0 : List Int} (hl0 : ρ0.length = 45) (hx : ρ0[25]? = some (0 : Int)) (hf : ρ0[27]? = some (1 : Int)) {nv : Int} (hn : ρ0[44]? = some nv) (hn1 : -1 ≤ nv) (hn2 : nv ≤ 0) : ∀ (m : Nat) (ρ : List Int) (v : Int), ρ.take 45 = ρ0 → ρ[50]? = some v → 0 ≤ v → v ≤ 0 → 0 - v < (m : Int) → qy_TP ex D as tys 12 189 fc ρ zST_b1HN.1 zST_b1HN.2.1 zST_b1HN.2.2.1 zST_b1HN.2.2.2 13 (zSBP1 fc ρ0) := by
  intro m
  induction m with
  | zero => intro ρ v _ _ _ h1 h2; exfalso; omega
  | succ m ih =>
    intro ρ v ht hv h0 h1 h2
    have gx := q_tkb ht hx
    have gf := q_tkb ht hf
    have gn := q_tkb ht hn
    refine qy_TP.pre (ρ' := ρ) (g' := zST_b1s_h_0_1.1) (w' := zST_b1s_h_0_1.2.1) (lo' := zST_b1s_h_0_1.2.2.1) (st' := zST_b1s_h_0_1.2.2.2) ?_ (fun ws h => h) (fun h => h.to0 [(25, 0, 0), (27, 1, 1), (44, -1, 0), (50, 0, 0)] [] (by decide +kernel) rfl (by decide +kernel) (fa_ex gx (Int.le_refl _) (Int.le_refl _) (fa_ex gf (Int.le_refl _) (Int.le_refl _) (fa_ex gn hn1 hn2 (fa_ex hv (by omega) (by omega) fa_nil)))) fa_nil) (fun _ _ h => h) (fun _ h => h)
    refine qs_lnkB (p := 45) (ρ := ρ) fa_nil hT hA zSg_b1h_0_1 (fa_cons (fun ρ1 ht1 hL hg1 _ => ⟨fun rv hrv => ?r0, fun q hq => ?c0⟩) fa_nil)
    case r0 =>
      have hrv : (Sum.inr _ : Option qV ⊕ (Nat × qL × List qV)) = Sum.inl rv := hrv
      cases hrv
    case c0 =>
      have hq : (Sum.inr _ : Option qV ⊕ (Nat × qL × List qV)) = Sum.inr q := hq
      cases hq
      have v1 := (hL.n (i := 50) (d := 0) (List.mem_cons_of_mem _ (List.mem_cons_of_mem _ (List.mem_cons_of_mem _ (List.mem_cons_of_mem _ (List.mem_cons_of_mem _ List.mem_cons_self))))) hv)
      have ht1 : ρ1.take 45 = ρ0 := by rw [ht1]; exact ht
      rcases Int.lt_or_le v 0 with hlt | hge
      · skip
        refine qs_lnkB (p := 45) (ρ := ρ1) (fa_cons (zSh38 ex (qΓ1 fc) D as tys hT hA hh) (fa_cons (zSh39 ex (qΓ1 fc) D as tys hT hA) fa_nil)) hT hA zSg_b1bN (fa_cons (fun ρ2 ht2 hL hg2 _ => ⟨fun rv hrv => ?r0, fun q hq => ?c0⟩) (fa_cons (fun ρ2 ht2 hL hg2 _ => ⟨fun rv hrv => ?r1, fun q hq => ?c1⟩) fa_nil))
        case r0 =>
          have hrv : (Sum.inr _ : Option qV ⊕ (Nat × qL × List qV)) = Sum.inl rv := hrv
          cases hrv
        case c0 =>
          have hq : (Sum.inr _ : Option qV ⊕ (Nat × qL × List qV)) = Sum.inr q := hq
          cases hq
          have v3 := (hL.n (i := 50) (d := 1) (List.mem_cons_of_mem _ (List.mem_cons_of_mem _ (List.mem_cons_of_mem _ (List.mem_cons_of_mem _ (List.mem_cons_of_mem _ List.mem_cons_self))))) v1)
          exact ih ρ2 (v + 1) (by rw [ht2]; exact ht1) (by rw [v3]; exact congrArg some (by omega)) (by omega) (by omega) (by omega)
        case r1 =>
          have hrv : (Sum.inr _ : Option qV ⊕ (Nat × qL × List qV)) = Sum.inl rv := hrv
          cases hrv
        case c1 =>
          have hq : (Sum.inr _ : Option qV ⊕ (Nat × qL × List qV)) = Sum.inr q := hq
          cases hq
          have v3 := (hL.n (i := 52) (d := 1) (List.mem_cons_of_mem _ (List.mem_cons_of_mem _ List.mem_cons_self)) v1)
          exact zSbF1 hT hA hh hl0 7777 ρ2 (v + 1) (by rw [ht2]; exact ht1) (by rw [v3]; exact congrArg some (by omega)) (by omega) (by omega)
      · have gx := q_tkb ht1 hx
        have gf := q_tkb ht1 hf
        have gn := q_tkb ht1 hn
        refine qy_TP.pre (ρ' := ρ1) (g' := zST_b1s_h_0_1.1) (w' := zST_b1s_h_0_1.2.1) (lo' := zST_b1s_h_0_1.2.2.1) (st' := zST_b1s_h_0_1.2.2.2) ?_ (fun ws h => h) (fun h => h.to0 [(25, 0, 0), (27, 1, 1), (44, -1, 0), (50, 0, 0)] [] (by decide +kernel) rfl (by decide +kernel) (fa_ex gx (Int.le_refl _) (Int.le_refl _) (fa_ex gf (Int.le_refl _) (Int.le_refl _) (fa_ex gn hn1 hn2 (fa_ex v1 (by omega) (by omega) fa_nil)))) fa_nil) (fun _ _ h => h) (fun _ h => h)
        refine qs_lnkB (p := 45) (ρ := ρ1) (fa_cons (zSh40 ex (qΓ1 fc) D as tys hT hA) fa_nil) hT hA zSg_b1l_0_1 (fa_cons (fun ρ2 ht2 hL hg2 _ => ⟨fun rv hrv => ?r0, fun q hq => ?c0⟩) fa_nil)
        case r0 =>
          have hrv : (Sum.inr _ : Option qV ⊕ (Nat × qL × List qV)) = Sum.inl rv := hrv
          cases hrv
        case c0 =>
          have hq : (Sum.inr _ : Option qV ⊕ (Nat × qL × List qV)) = Sum.inr q := hq
          cases hq
          have v3 := (hL.l (i := 52) (z := 1) (List.mem_cons_of_mem _ (List.mem_cons_of_mem _ (List.mem_cons_of_mem _ (List.mem_cons_of_mem _ (List.mem_cons_of_mem _ (List.mem_cons_of_mem _ (List.mem_cons_of_mem _ List.mem_cons_self))))))))
          exact zSbF1 hT hA hh hl0 7777 ρ2 1 (by rw [ht2]; exact ht1) v3 (by omega) (by omega)
theorem zSbN1_0_2 (hT : zk_t) (hA : zk_a) {fc : Nat → Nat → Int32} (hh : qy_V ex (qΓ1 fc) D as tys zSk37) {ρ0 : List Int} (hl0 : ρ0.length = 45) (hx : ρ0[25]? = some (0 : Int)) (hf : ρ0[27]? = some (2 : Int)) {nv : Int} (hn : ρ0[44]? = some nv) (hn1 : -1 ≤ nv) (hn2 : nv ≤ 1) : ∀ (m : Nat) (ρ : List Int) (v : Int), ρ.take 45 = ρ0 → ρ[50]? = some v → 0 ≤ v → v ≤ 0 → 0 - v < (m : Int) → qy_TP ex D as tys 12 189 fc ρ zST_b1HN.1 zST_b1HN.2.1 zST_b1HN.2.2.1 zST_b1HN.2.2.2 13 (zSBP1 fc ρ0) := by
  intro m
  induction m with
  | zero => intro ρ v _ _ _ h1 h2; exfalso; omega
  | succ m ih =>
    intro ρ v ht hv h0 h1 h2
    have gx := q_tkb ht hx
    have gf := q_tkb ht hf
    have gn := q_tkb ht hn
    refine qy_TP.pre (ρ' := ρ) (g' := zST_b1s_h_0_2.1) (w' := zST_b1s_h_0_2.2.1) (lo' := zST_b1s_h_0_2.2.2.1) (st' := zST_b1s_h_0_2.2.2.2) ?_ (fun ws h => h) (fun h => h.to0 [(25, 0, 0), (27, 2, 2), (44, -1, 1), (50, 0, 0)] [] (by decide +kernel) rfl (by decide +kernel) (fa_ex gx (Int.le_refl _) (Int.le_refl _) (fa_ex gf (Int.le_refl _) (Int.le_refl _) (fa_ex gn hn1 hn2 (fa_ex hv (by omega) (by omega) fa_nil)))) fa_nil) (fun _ _ h => h) (fun _ h => h)
    refine qs_lnkB (p := 45) (ρ := ρ) fa_nil hT hA zSg_b1h_0_2 (fa_cons (fun ρ1 ht1 hL hg1 _ => ⟨fun rv hrv => ?r0, fun q hq => ?c0⟩) fa_nil)
    case r0 =>
      have hrv : (Sum.inr _ : Option qV ⊕ (Nat × qL × List qV)) = Sum.inl rv := hrv
      cases hrv
    case c0 =>
      have hq : (Sum.inr _ : Option qV ⊕ (Nat × qL × List qV)) = Sum.inr q := hq
      cases hq
      have v1 := (hL.n (i := 50) (d := 0) (List.mem_cons_of_mem _ (List.mem_cons_of_mem _ (List.mem_cons_of_mem _ (List.mem_cons_of_mem _ (List.mem_cons_of_mem _ List.mem_cons_self))))) hv)
      have ht1 : ρ1.take 45 = ρ0 := by rw [ht1]; exact ht
      rcases Int.lt_or_le v 0 with hlt | hge
      · skip
        refine qs_lnkB (p := 45) (ρ := ρ1) (fa_cons (zSh38 ex (qΓ1 fc) D as tys hT hA hh) (fa_cons (zSh39 ex (qΓ1 fc) D as tys hT hA) fa_nil)) hT hA zSg_b1bN (fa_cons (fun ρ2 ht2 hL hg2 _ => ⟨fun rv hrv => ?r0, fun q hq => ?c0⟩) (fa_cons (fun ρ2 ht2 hL hg2 _ => ⟨fun rv hrv => ?r1, fun q hq => ?c1⟩) fa_nil))
        case r0 =>
          have hrv : (Sum.inr _ : Option qV ⊕ (Nat × qL × List qV)) = Sum.inl rv := hrv
          cases hrv
        case c0 =>
          have hq : (Sum.inr _ : Option qV ⊕ (Nat × qL × List qV)) = Sum.inr q := hq
          cases hq
          have v3 := (hL.n (i := 50) (d := 1) (List.mem_cons_of_mem _ (List.mem_cons_of_mem _ (List.mem_cons_of_mem _ (List.mem_cons_of_mem _ (List.mem_cons_of_mem _ List.mem_cons_self))))) v1)
          exact ih ρ2 (v + 1) (by rw [ht2]; exact ht1) (by rw [v3]; exact congrArg some (by omega)) (by omega) (by omega) (by omega)
        case r1 =>
          have hrv : (Sum.inr _ : Option qV ⊕ (Nat × qL × List qV)) = Sum.inl rv := hrv
          cases hrv
        case c1 =>
          have hq : (Sum.inr _ : Option qV ⊕ (Nat × qL × List qV)) = Sum.inr q := hq
          cases hq
          have v3 := (hL.n (i := 52) (d := 1) (List.mem_cons_of_mem _ (List.mem_cons_of_mem _ List.mem_cons_self)) v1)
          exact zSbF1 hT hA hh hl0 7777 ρ2 (v + 1) (by rw [ht2]; exact ht1) (by rw [v3]; exact congrArg some (by omega)) (by omega) (by omega)
      · have gx := q_tkb ht1 hx
        have gf := q_tkb ht1 hf
        have gn := q_tkb ht1 hn
        refine qy_TP.pre (ρ' := ρ1) (g' := zST_b1s_h_0_2.1) (w' := zST_b1s_h_0_2.2.1) (lo' := zST_b1s_h_0_2.2.2.1) (st' := zST_b1s_h_0_2.2.2.2) ?_ (fun ws h => h) (fun h => h.to0 [(25, 0, 0), (27, 2, 2), (44, -1, 1), (50, 0, 0)] [] (by decide +kernel) rfl (by decide +kernel) (fa_ex gx (Int.le_refl _) (Int.le_refl _) (fa_ex gf (Int.le_refl _) (Int.le_refl _) (fa_ex gn hn1 hn2 (fa_ex v1 (by omega) (by omega) fa_nil)))) fa_nil) (fun _ _ h => h) (fun _ h => h)
        refine qs_lnkB (p := 45) (ρ := ρ1) (fa_cons (zSh41 ex (qΓ1 fc) D as tys hT hA) fa_nil) hT hA zSg_b1l_0_2 (fa_cons (fun ρ2 ht2 hL hg2 _ => ⟨fun rv hrv => ?r0, fun q hq => ?c0⟩) fa_nil)
        case r0 =>
          have hrv : (Sum.inr _ : Option qV ⊕ (Nat × qL × List qV)) = Sum.inl rv := hrv
          cases hrv
        case c0 =>
          have hq : (Sum.inr _ : Option qV ⊕ (Nat × qL × List qV)) = Sum.inr q := hq
          cases hq
          have v3 := (hL.l (i := 52) (z := 1) (List.mem_cons_of_mem _ (List.mem_cons_of_mem _ (List.mem_cons_of_mem _ (List.mem_cons_of_mem _ (List.mem_cons_of_mem _ (List.mem_cons_of_mem _ (List.mem_cons_of_mem _ List.mem_cons_self))))))))
          exact zSbF1 hT hA hh hl0 7777 ρ2 1 (by rw [ht2]; exact ht1) v3 (by omega) (by omega)
theorem zSbN1_0_3 (hT : zk_t) (hA : zk_a) {fc : Nat → Nat → Int32} (hh : qy_V ex (qΓ1 fc) D as tys zSk37) {ρ0 : List Int} (hl0 : ρ0.length = 45) (hx : ρ0[25]? = some (0 : Int)) (hf : ρ0[27]? = some (3 : Int)) {nv : Int} (hn : ρ0[44]? = some nv) (hn1 : -1 ≤ nv) (hn2 : nv ≤ 2) : ∀ (m : Nat) (ρ : List Int) (v : Int), ρ.take 45 = ρ0 → ρ[50]? = some v → 0 ≤ v → v ≤ 0 → 0 - v < (m : Int) → qy_TP ex D as tys 12 189 fc ρ zST_b1HN.1 zST_b1HN.2.1 zST_b1HN.2.2.1 zST_b1HN.2.2.2 13 (zSBP1 fc ρ0) := by
  intro m
  induction m with
  | zero => intro ρ v _ _ _ h1 h2; exfalso; omega
  | succ m ih =>
    intro ρ v ht hv h0 h1 h2
    have gx := q_tkb ht hx
    have gf := q_tkb ht hf
    have gn := q_tkb ht hn
    refine qy_TP.pre (ρ' := ρ) (g' := zST_b1s_h_0_3.1) (w' := zST_b1s_h_0_3.2.1) (lo' := zST_b1s_h_0_3.2.2.1) (st' := zST_b1s_h_0_3.2.2.2) ?_ (fun ws h => h) (fun h => h.to0 [(25, 0, 0), (27, 3, 3), (44, -1, 2), (50, 0, 0)] [] (by decide +kernel) rfl (by decide +kernel) (fa_ex gx (Int.le_refl _) (Int.le_refl _) (fa_ex gf (Int.le_refl _) (Int.le_refl _) (fa_ex gn hn1 hn2 (fa_ex hv (by omega) (by omega) fa_nil)))) fa_nil) (fun _ _ h => h) (fun _ h => h)
    refine qs_lnkB (p := 45) (ρ := ρ) fa_nil hT hA zSg_b1h_0_3 (fa_cons (fun ρ1 ht1 hL hg1 _ => ⟨fun rv hrv => ?r0, fun q hq => ?c0⟩) fa_nil)
    case r0 =>
      have hrv : (Sum.inr _ : Option qV ⊕ (Nat × qL × List qV)) = Sum.inl rv := hrv
      cases hrv
    case c0 =>
      have hq : (Sum.inr _ : Option qV ⊕ (Nat × qL × List qV)) = Sum.inr q := hq
      cases hq
      have v1 := (hL.n (i := 50) (d := 0) (List.mem_cons_of_mem _ (List.mem_cons_of_mem _ (List.mem_cons_of_mem _ (List.mem_cons_of_mem _ (List.mem_cons_of_mem _ List.mem_cons_self))))) hv)
      have ht1 : ρ1.take 45 = ρ0 := by rw [ht1]; exact ht
      rcases Int.lt_or_le v 0 with hlt | hge
      · skip
        refine qs_lnkB (p := 45) (ρ := ρ1) (fa_cons (zSh38 ex (qΓ1 fc) D as tys hT hA hh) (fa_cons (zSh39 ex (qΓ1 fc) D as tys hT hA) fa_nil)) hT hA zSg_b1bN (fa_cons (fun ρ2 ht2 hL hg2 _ => ⟨fun rv hrv => ?r0, fun q hq => ?c0⟩) (fa_cons (fun ρ2 ht2 hL hg2 _ => ⟨fun rv hrv => ?r1, fun q hq => ?c1⟩) fa_nil))
        case r0 =>
          have hrv : (Sum.inr _ : Option qV ⊕ (Nat × qL × List qV)) = Sum.inl rv := hrv
          cases hrv
        case c0 =>
          have hq : (Sum.inr _ : Option qV ⊕ (Nat × qL × List qV)) = Sum.inr q := hq
          cases hq
          have v3 := (hL.n (i := 50) (d := 1) (List.mem_cons_of_mem _ (List.mem_cons_of_mem _ (List.mem_cons_of_mem _ (List.mem_cons_of_mem _ (List.mem_cons_of_mem _ List.mem_cons_self))))) v1)
          exact ih ρ2 (v + 1) (by rw [ht2]; exact ht1) (by rw [v3]; exact congrArg some (by omega)) (by omega) (by omega) (by omega)
        case r1 =>
          have hrv : (Sum.inr _ : Option qV ⊕ (Nat × qL × List qV)) = Sum.inl rv := hrv
          cases hrv
        case c1 =>
          have hq : (Sum.inr _ : Option qV ⊕ (Nat × qL × List qV)) = Sum.inr q := hq
          cases hq
          have v3 := (hL.n (i := 52) (d := 1) (List.mem_cons_of_mem _ (List.mem_cons_of_mem _ List.mem_cons_self)) v1)
          exact zSbF1 hT hA hh hl0 7777 ρ2 (v + 1) (by rw [ht2]; exact ht1) (by rw [v3]; exact congrArg some (by omega)) (by omega) (by omega)
      · have gx := q_tkb ht1 hx
        have gf := q_tkb ht1 hf
        have gn := q_tkb ht1 hn
        refine qy_TP.pre (ρ' := ρ1) (g' := zST_b1s_h_0_3.1) (w' := zST_b1s_h_0_3.2.1) (lo' := zST_b1s_h_0_3.2.2.1) (st' := zST_b1s_h_0_3.2.2.2) ?_ (fun ws h => h) (fun h => h.to0 [(25, 0, 0), (27, 3, 3), (44, -1, 2), (50, 0, 0)] [] (by decide +kernel) rfl (by decide +kernel) (fa_ex gx (Int.le_refl _) (Int.le_refl _) (fa_ex gf (Int.le_refl _) (Int.le_refl _) (fa_ex gn hn1 hn2 (fa_ex v1 (by omega) (by omega) fa_nil)))) fa_nil) (fun _ _ h => h) (fun _ h => h)
        refine qs_lnkB (p := 45) (ρ := ρ1) (fa_cons (zSh42 ex (qΓ1 fc) D as tys hT hA) fa_nil) hT hA zSg_b1l_0_3 (fa_cons (fun ρ2 ht2 hL hg2 _ => ⟨fun rv hrv => ?r0, fun q hq => ?c0⟩) fa_nil)
        case r0 =>
          have hrv : (Sum.inr _ : Option qV ⊕ (Nat × qL × List qV)) = Sum.inl rv := hrv
          cases hrv
        case c0 =>
          have hq : (Sum.inr _ : Option qV ⊕ (Nat × qL × List qV)) = Sum.inr q := hq
          cases hq
          have v3 := (hL.l (i := 52) (z := 1) (List.mem_cons_of_mem _ (List.mem_cons_of_mem _ (List.mem_cons_of_mem _ (List.mem_cons_of_mem _ (List.mem_cons_of_mem _ (List.mem_cons_of_mem _ (List.mem_cons_of_mem _ List.mem_cons_self))))))))
          exact zSbF1 hT hA hh hl0 7777 ρ2 1 (by rw [ht2]; exact ht1) v3 (by omega) (by omega)
theorem zSbN1_0_4 (hT : zk_t) (hA : zk_a) {fc : Nat → Nat → Int32} (hh : qy_V ex (qΓ1 fc) D as tys zSk37) {ρ0 : List Int} (hl0 : ρ0.length = 45) (hx : ρ0[25]? = some (0 : Int)) (hf : ρ0[27]? = some (4 : Int)) {nv : Int} (hn : ρ0[44]? = some nv) (hn1 : -1 ≤ nv) (hn2 : nv ≤ 3) : ∀ (m : Nat) (ρ : List Int) (v : Int), ρ.take 45 = ρ0 → ρ[50]? = some v → 0 ≤ v → v ≤ 0 → 0 - v < (m : Int) → qy_TP ex D as tys 12 189 fc ρ zST_b1HN.1 zST_b1HN.2.1 zST_b1HN.2.2.1 zST_b1HN.2.2.2 13 (zSBP1 fc ρ0) := by
  intro m
  induction m with
  | zero => intro ρ v _ _ _ h1 h2; exfalso; omega
  | succ m ih =>
    intro ρ v ht hv h0 h1 h2
    have gx := q_tkb ht hx
    have gf := q_tkb ht hf
    have gn := q_tkb ht hn
    refine qy_TP.pre (ρ' := ρ) (g' := zST_b1s_h_0_4.1) (w' := zST_b1s_h_0_4.2.1) (lo' := zST_b1s_h_0_4.2.2.1) (st' := zST_b1s_h_0_4.2.2.2) ?_ (fun ws h => h) (fun h => h.to0 [(25, 0, 0), (27, 4, 4), (44, -1, 3), (50, 0, 0)] [] (by decide +kernel) rfl (by decide +kernel) (fa_ex gx (Int.le_refl _) (Int.le_refl _) (fa_ex gf (Int.le_refl _) (Int.le_refl _) (fa_ex gn hn1 hn2 (fa_ex hv (by omega) (by omega) fa_nil)))) fa_nil) (fun _ _ h => h) (fun _ h => h)
    refine qs_lnkB (p := 45) (ρ := ρ) fa_nil hT hA zSg_b1h_0_4 (fa_cons (fun ρ1 ht1 hL hg1 _ => ⟨fun rv hrv => ?r0, fun q hq => ?c0⟩) fa_nil)
    case r0 =>
      have hrv : (Sum.inr _ : Option qV ⊕ (Nat × qL × List qV)) = Sum.inl rv := hrv
      cases hrv
    case c0 =>
      have hq : (Sum.inr _ : Option qV ⊕ (Nat × qL × List qV)) = Sum.inr q := hq
      cases hq
      have v1 := (hL.n (i := 50) (d := 0) (List.mem_cons_of_mem _ (List.mem_cons_of_mem _ (List.mem_cons_of_mem _ (List.mem_cons_of_mem _ (List.mem_cons_of_mem _ List.mem_cons_self))))) hv)
      have ht1 : ρ1.take 45 = ρ0 := by rw [ht1]; exact ht
      rcases Int.lt_or_le v 0 with hlt | hge
      · skip
        refine qs_lnkB (p := 45) (ρ := ρ1) (fa_cons (zSh38 ex (qΓ1 fc) D as tys hT hA hh) (fa_cons (zSh39 ex (qΓ1 fc) D as tys hT hA) fa_nil)) hT hA zSg_b1bN (fa_cons (fun ρ2 ht2 hL hg2 _ => ⟨fun rv hrv => ?r0, fun q hq => ?c0⟩) (fa_cons (fun ρ2 ht2 hL hg2 _ => ⟨fun rv hrv => ?r1, fun q hq => ?c1⟩) fa_nil))
        case r0 =>
          have hrv : (Sum.inr _ : Option qV ⊕ (Nat × qL × List qV)) = Sum.inl rv := hrv
          cases hrv
        case c0 =>
          have hq : (Sum.inr _ : Option qV ⊕ (Nat × qL × List qV)) = Sum.inr q := hq
          cases hq
          have v3 := (hL.n (i := 50) (d := 1) (List.mem_cons_of_mem _ (List.mem_cons_of_mem _ (List.mem_cons_of_mem _ (List.mem_cons_of_mem _ (List.mem_cons_of_mem _ List.mem_cons_self))))) v1)
          exact ih ρ2 (v + 1) (by rw [ht2]; exact ht1) (by rw [v3]; exact congrArg some (by omega)) (by omega) (by omega) (by omega)
        case r1 =>
          have hrv : (Sum.inr _ : Option qV ⊕ (Nat × qL × List qV)) = Sum.inl rv := hrv
          cases hrv
        case c1 =>
          have hq : (Sum.inr _ : Option qV ⊕ (Nat × qL × List qV)) = Sum.inr q := hq
          cases hq
          have v3 := (hL.n (i := 52) (d := 1) (List.mem_cons_of_mem _ (List.mem_cons_of_mem _ List.mem_cons_self)) v1)
          exact zSbF1 hT hA hh hl0 7777 ρ2 (v + 1) (by rw [ht2]; exact ht1) (by rw [v3]; exact congrArg some (by omega)) (by omega) (by omega)
      · have gx := q_tkb ht1 hx
        have gf := q_tkb ht1 hf
        have gn := q_tkb ht1 hn
        refine qy_TP.pre (ρ' := ρ1) (g' := zST_b1s_h_0_4.1) (w' := zST_b1s_h_0_4.2.1) (lo' := zST_b1s_h_0_4.2.2.1) (st' := zST_b1s_h_0_4.2.2.2) ?_ (fun ws h => h) (fun h => h.to0 [(25, 0, 0), (27, 4, 4), (44, -1, 3), (50, 0, 0)] [] (by decide +kernel) rfl (by decide +kernel) (fa_ex gx (Int.le_refl _) (Int.le_refl _) (fa_ex gf (Int.le_refl _) (Int.le_refl _) (fa_ex gn hn1 hn2 (fa_ex v1 (by omega) (by omega) fa_nil)))) fa_nil) (fun _ _ h => h) (fun _ h => h)
        refine qs_lnkB (p := 45) (ρ := ρ1) (fa_cons (zSh43 ex (qΓ1 fc) D as tys hT hA) fa_nil) hT hA zSg_b1l_0_4 (fa_cons (fun ρ2 ht2 hL hg2 _ => ⟨fun rv hrv => ?r0, fun q hq => ?c0⟩) fa_nil)
        case r0 =>
          have hrv : (Sum.inr _ : Option qV ⊕ (Nat × qL × List qV)) = Sum.inl rv := hrv
          cases hrv
        case c0 =>
          have hq : (Sum.inr _ : Option qV ⊕ (Nat × qL × List qV)) = Sum.inr q := hq
          cases hq
          have v3 := (hL.l (i := 52) (z := 1) (List.mem_cons_of_mem _ (List.mem_cons_of_mem _ (List.mem_cons_of_mem _ (List.mem_cons_of_mem _ (List.mem_cons_of_mem _ (List.mem_cons_of_mem _ (List.mem_cons_of_mem _ List.mem_cons_self))))))))
          exact zSbF1 hT hA hh hl0 7777 ρ2 1 (by rw [ht2]; exact ht1) v3 (by omega) (by omega)
theorem zSbN1_0_5 (hT : zk_t) (hA : zk_a) {fc : Nat → Nat → Int32} (hh : qy_V ex (qΓ1 fc) D as tys zSk37) {ρ0 : List Int} (hl0 : ρ0.length = 45) (hx : ρ0[25]? = some (0 : Int)) (hf : ρ0[27]? = some (5 : Int)) {nv : Int} (hn : ρ0[44]? = some nv) (hn1 : -1 ≤ nv) (hn2 : nv ≤ 4) : ∀ (m : Nat) (ρ : List Int) (v : Int), ρ.take 45 = ρ0 → ρ[50]? = some v → 0 ≤ v → v ≤ 0 → 0 - v < (m : Int) → qy_TP ex D as tys 12 189 fc ρ zST_b1HN.1 zST_b1HN.2.1 zST_b1HN.2.2.1 zST_b1HN.2.2.2 13 (zSBP1 fc ρ0) := by
  intro m
  induction m with
  | zero => intro ρ v _ _ _ h1 h2; exfalso; omega
  | succ m ih =>
    intro ρ v ht hv h0 h1 h2
    have gx := q_tkb ht hx
    have gf := q_tkb ht hf
    have gn := q_tkb ht hn
    refine qy_TP.pre (ρ' := ρ) (g' := zST_b1s_h_0_5.1) (w' := zST_b1s_h_0_5.2.1) (lo' := zST_b1s_h_0_5.2.2.1) (st' := zST_b1s_h_0_5.2.2.2) ?_ (fun ws h => h) (fun h => h.to0 [(25, 0, 0), (27, 5, 5), (44, -1, 4), (50, 0, 0)] [] (by decide +kernel) rfl (by decide +kernel) (fa_ex gx (Int.le_refl _) (Int.le_refl _) (fa_ex gf (Int.le_refl _) (Int.le_refl _) (fa_ex gn hn1 hn2 (fa_ex hv (by omega) (by omega) fa_nil)))) fa_nil) (fun _ _ h => h) (fun _ h => h)
    refine qs_lnkB (p := 45) (ρ := ρ) fa_nil hT hA zSg_b1h_0_5 (fa_cons (fun ρ1 ht1 hL hg1 _ => ⟨fun rv hrv => ?r0, fun q hq => ?c0⟩) fa_nil)
    case r0 =>
      have hrv : (Sum.inr _ : Option qV ⊕ (Nat × qL × List qV)) = Sum.inl rv := hrv
      cases hrv
    case c0 =>
      have hq : (Sum.inr _ : Option qV ⊕ (Nat × qL × List qV)) = Sum.inr q := hq
      cases hq
      have v1 := (hL.n (i := 50) (d := 0) (List.mem_cons_of_mem _ (List.mem_cons_of_mem _ (List.mem_cons_of_mem _ (List.mem_cons_of_mem _ (List.mem_cons_of_mem _ List.mem_cons_self))))) hv)
      have ht1 : ρ1.take 45 = ρ0 := by rw [ht1]; exact ht
      rcases Int.lt_or_le v 0 with hlt | hge
      · skip
        refine qs_lnkB (p := 45) (ρ := ρ1) (fa_cons (zSh38 ex (qΓ1 fc) D as tys hT hA hh) (fa_cons (zSh39 ex (qΓ1 fc) D as tys hT hA) fa_nil)) hT hA zSg_b1bN (fa_cons (fun ρ2 ht2 hL hg2 _ => ⟨fun rv hrv => ?r0, fun q hq => ?c0⟩) (fa_cons (fun ρ2 ht2 hL hg2 _ => ⟨fun rv hrv => ?r1, fun q hq => ?c1⟩) fa_nil))
        case r0 =>
          have hrv : (Sum.inr _ : Option qV ⊕ (Nat × qL × List qV)) = Sum.inl rv := hrv
          cases hrv
        case c0 =>
          have hq : (Sum.inr _ : Option qV ⊕ (Nat × qL × List qV)) = Sum.inr q := hq
          cases hq
          have v3 := (hL.n (i := 50) (d := 1) (List.mem_cons_of_mem _ (List.mem_cons_of_mem _ (List.mem_cons_of_mem _ (List.mem_cons_of_mem _ (List.mem_cons_of_mem _ List.mem_cons_self))))) v1)
          exact ih ρ2 (v + 1) (by rw [ht2]; exact ht1) (by rw [v3]; exact congrArg some (by omega)) (by omega) (by omega) (by omega)
        case r1 =>
          have hrv : (Sum.inr _ : Option qV ⊕ (Nat × qL × List qV)) = Sum.inl rv := hrv
          cases hrv
        case c1 =>
          have hq : (Sum.inr _ : Option qV ⊕ (Nat × qL × List qV)) = Sum.inr q := hq
          cases hq
          have v3 := (hL.n (i := 52) (d := 1) (List.mem_cons_of_mem _ (List.mem_cons_of_mem _ List.mem_cons_self)) v1)
          exact zSbF1 hT hA hh hl0 7777 ρ2 (v + 1) (by rw [ht2]; exact ht1) (by rw [v3]; exact congrArg some (by omega)) (by omega) (by omega)
      · have gx := q_tkb ht1 hx
        have gf := q_tkb ht1 hf
        have gn := q_tkb ht1 hn
        refine qy_TP.pre (ρ' := ρ1) (g' := zST_b1s_h_0_5.1) (w' := zST_b1s_h_0_5.2.1) (lo' := zST_b1s_h_0_5.2.2.1) (st' := zST_b1s_h_0_5.2.2.2) ?_ (fun ws h => h) (fun h => h.to0 [(25, 0, 0), (27, 5, 5), (44, -1, 4), (50, 0, 0)] [] (by decide +kernel) rfl (by decide +kernel) (fa_ex gx (Int.le_refl _) (Int.le_refl _) (fa_ex gf (Int.le_refl _) (Int.le_refl _) (fa_ex gn hn1 hn2 (fa_ex v1 (by omega) (by omega) fa_nil)))) fa_nil) (fun _ _ h => h) (fun _ h => h)
        refine qs_lnkB (p := 45) (ρ := ρ1) (fa_cons (zSh44 ex (qΓ1 fc) D as tys hT hA) fa_nil) hT hA zSg_b1l_0_5 (fa_cons (fun ρ2 ht2 hL hg2 _ => ⟨fun rv hrv => ?r0, fun q hq => ?c0⟩) fa_nil)
        case r0 =>
          have hrv : (Sum.inr _ : Option qV ⊕ (Nat × qL × List qV)) = Sum.inl rv := hrv
          cases hrv
        case c0 =>
          have hq : (Sum.inr _ : Option qV ⊕ (Nat × qL × List qV)) = Sum.inr q := hq
          cases hq
          have v3 := (hL.l (i := 52) (z := 1) (List.mem_cons_of_mem _ (List.mem_cons_of_mem _ (List.mem_cons_of_mem _ (List.mem_cons_of_mem _ (List.mem_cons_of_mem _ (List.mem_cons_of_mem _ (List.mem_cons_of_mem _ List.mem_cons_self))))))))
          exact zSbF1 hT hA hh hl0 7777 ρ2 1 (by rw [ht2]; exact ht1) v3 (by omega) (by omega)
theorem zSbN1_1_0 (hT : zk_t) (hA : zk_a) {fc : Nat → Nat → Int32} (hh : qy_V ex (qΓ1 fc) D as tys zSk37) {ρ0 : List Int} (hl0 : ρ0.length = 45) (hx : ρ0[25]? = some (1 : Int)) (hf : ρ0[27]? = some (0 : Int)) {nv : Int} (hn : ρ0[44]? = some nv) (hn1 : -1 ≤ nv) (hn2 : nv ≤ -1) : ∀ (m : Nat) (ρ : List Int) (v : Int), ρ.take 45 = ρ0 → ρ[50]? = some v → 0 ≤ v → v ≤ 0 → 0 - v < (m : Int) → qy_TP ex D as tys 12 189 fc ρ zST_b1HN.1 zST_b1HN.2.1 zST_b1HN.2.2.1 zST_b1HN.2.2.2 13 (zSBP1 fc ρ0) := by
  intro m
  induction m with
  | zero => intro ρ v _ _ _ h1 h2; exfalso; omega
  | succ m ih =>
    intro ρ v ht hv h0 h1 h2
    have gx := q_tkb ht hx
    have gf := q_tkb ht hf
    have gn := q_tkb ht hn
    refine qy_TP.pre (ρ' := ρ) (g' := zST_b1s_h_1_0.1) (w' := zST_b1s_h_1_0.2.1) (lo' := zST_b1s_h_1_0.2.2.1) (st' := zST_b1s_h_1_0.2.2.2) ?_ (fun ws h => h) (fun h => h.to0 [(25, 1, 1), (27, 0, 0), (44, -1, -1), (50, 0, 0)] [] (by decide +kernel) rfl (by decide +kernel) (fa_ex gx (Int.le_refl _) (Int.le_refl _) (fa_ex gf (Int.le_refl _) (Int.le_refl _) (fa_ex gn hn1 hn2 (fa_ex hv (by omega) (by omega) fa_nil)))) fa_nil) (fun _ _ h => h) (fun _ h => h)
    refine qs_lnkB (p := 45) (ρ := ρ) fa_nil hT hA zSg_b1h_1_0 (fa_cons (fun ρ1 ht1 hL hg1 _ => ⟨fun rv hrv => ?r0, fun q hq => ?c0⟩) fa_nil)
    case r0 =>
      have hrv : (Sum.inr _ : Option qV ⊕ (Nat × qL × List qV)) = Sum.inl rv := hrv
      cases hrv
    case c0 =>
      have hq : (Sum.inr _ : Option qV ⊕ (Nat × qL × List qV)) = Sum.inr q := hq
      cases hq
      have v1 := (hL.n (i := 50) (d := 0) (List.mem_cons_of_mem _ (List.mem_cons_of_mem _ (List.mem_cons_of_mem _ (List.mem_cons_of_mem _ (List.mem_cons_of_mem _ List.mem_cons_self))))) hv)
      have ht1 : ρ1.take 45 = ρ0 := by rw [ht1]; exact ht
      rcases Int.lt_or_le v 0 with hlt | hge
      · skip
        refine qs_lnkB (p := 45) (ρ := ρ1) (fa_cons (zSh38 ex (qΓ1 fc) D as tys hT hA hh) (fa_cons (zSh39 ex (qΓ1 fc) D as tys hT hA) fa_nil)) hT hA zSg_b1bN (fa_cons (fun ρ2 ht2 hL hg2 _ => ⟨fun rv hrv => ?r0, fun q hq => ?c0⟩) (fa_cons (fun ρ2 ht2 hL hg2 _ => ⟨fun rv hrv => ?r1, fun q hq => ?c1⟩) fa_nil))
        case r0 =>
          have hrv : (Sum.inr _ : Option qV ⊕ (Nat × qL × List qV)) = Sum.inl rv := hrv
          cases hrv
        case c0 =>
          have hq : (Sum.inr _ : Option qV ⊕ (Nat × qL × List qV)) = Sum.inr q := hq
          cases hq
          have v3 := (hL.n (i := 50) (d := 1) (List.mem_cons_of_mem _ (List.mem_cons_of_mem _ (List.mem_cons_of_mem _ (List.mem_cons_of_mem _ (List.mem_cons_of_mem _ List.mem_cons_self))))) v1)
          exact ih ρ2 (v + 1) (by rw [ht2]; exact ht1) (by rw [v3]; exact congrArg some (by omega)) (by omega) (by omega) (by omega)
        case r1 =>
          have hrv : (Sum.inr _ : Option qV ⊕ (Nat × qL × List qV)) = Sum.inl rv := hrv
          cases hrv
        case c1 =>
          have hq : (Sum.inr _ : Option qV ⊕ (Nat × qL × List qV)) = Sum.inr q := hq
          cases hq
          have v3 := (hL.n (i := 52) (d := 1) (List.mem_cons_of_mem _ (List.mem_cons_of_mem _ List.mem_cons_self)) v1)
          exact zSbF1 hT hA hh hl0 7777 ρ2 (v + 1) (by rw [ht2]; exact ht1) (by rw [v3]; exact congrArg some (by omega)) (by omega) (by omega)
      · have gx := q_tkb ht1 hx
        have gf := q_tkb ht1 hf
        have gn := q_tkb ht1 hn
        refine qy_TP.pre (ρ' := ρ1) (g' := zST_b1s_h_1_0.1) (w' := zST_b1s_h_1_0.2.1) (lo' := zST_b1s_h_1_0.2.2.1) (st' := zST_b1s_h_1_0.2.2.2) ?_ (fun ws h => h) (fun h => h.to0 [(25, 1, 1), (27, 0, 0), (44, -1, -1), (50, 0, 0)] [] (by decide +kernel) rfl (by decide +kernel) (fa_ex gx (Int.le_refl _) (Int.le_refl _) (fa_ex gf (Int.le_refl _) (Int.le_refl _) (fa_ex gn hn1 hn2 (fa_ex v1 (by omega) (by omega) fa_nil)))) fa_nil) (fun _ _ h => h) (fun _ h => h)
        refine qs_lnkB (p := 45) (ρ := ρ1) fa_nil hT hA zSg_b1l_1_0 (fa_cons (fun ρ2 ht2 hL hg2 _ => ⟨fun rv hrv => ?r0, fun q hq => ?c0⟩) fa_nil)
        case r0 =>
          have hrv : (Sum.inr _ : Option qV ⊕ (Nat × qL × List qV)) = Sum.inl rv := hrv
          cases hrv
        case c0 =>
          have hq : (Sum.inr _ : Option qV ⊕ (Nat × qL × List qV)) = Sum.inr q := hq
          cases hq
          have v3 := (hL.l (i := 52) (z := 1) (List.mem_cons_of_mem _ (List.mem_cons_of_mem _ (List.mem_cons_of_mem _ (List.mem_cons_of_mem _ (List.mem_cons_of_mem _ (List.mem_cons_of_mem _ (List.mem_cons_of_mem _ List.mem_cons_self))))))))
          exact zSbF1 hT hA hh hl0 7777 ρ2 1 (by rw [ht2]; exact ht1) v3 (by omega) (by omega)
theorem zSbN1_1_1 (hT : zk_t) (hA : zk_a) {fc : Nat → Nat → Int32} (hh : qy_V ex (qΓ1 fc) D as tys zSk37) {ρ0 : List Int} (hl0 : ρ0.length = 45) (hx : ρ0[25]? = some (1 : Int)) (hf : ρ0[27]? = some (1 : Int)) {nv : Int} (hn : ρ0[44]? = some nv) (hn1 : -1 ≤ nv) (hn2 : nv ≤ 0) : ∀ (m : Nat) (ρ : List Int) (v : Int), ρ.take 45 = ρ0 → ρ[50]? = some v → 0 ≤ v → v ≤ 1 → 1 - v < (m : Int) → qy_TP ex D as tys 12 189 fc ρ zST_b1HN.1 zST_b1HN.2.1 zST_b1HN.2.2.1 zST_b1HN.2.2.2 13 (zSBP1 fc ρ0) := by
  intro m
  induction m with
  | zero => intro ρ v _ _ _ h1 h2; exfalso; omega
  | succ m ih =>
    intro ρ v ht hv h0 h1 h2
    have gx := q_tkb ht hx
    have gf := q_tkb ht hf
    have gn := q_tkb ht hn
    refine qy_TP.pre (ρ' := ρ) (g' := zST_b1s_h_1_1.1) (w' := zST_b1s_h_1_1.2.1) (lo' := zST_b1s_h_1_1.2.2.1) (st' := zST_b1s_h_1_1.2.2.2) ?_ (fun ws h => h) (fun h => h.to0 [(25, 1, 1), (27, 1, 1), (44, -1, 0), (50, 0, 1)] [] (by decide +kernel) rfl (by decide +kernel) (fa_ex gx (Int.le_refl _) (Int.le_refl _) (fa_ex gf (Int.le_refl _) (Int.le_refl _) (fa_ex gn hn1 hn2 (fa_ex hv (by omega) (by omega) fa_nil)))) fa_nil) (fun _ _ h => h) (fun _ h => h)
    refine qs_lnkB (p := 45) (ρ := ρ) fa_nil hT hA zSg_b1h_1_1 (fa_cons (fun ρ1 ht1 hL hg1 _ => ⟨fun rv hrv => ?r0, fun q hq => ?c0⟩) fa_nil)
    case r0 =>
      have hrv : (Sum.inr _ : Option qV ⊕ (Nat × qL × List qV)) = Sum.inl rv := hrv
      cases hrv
    case c0 =>
      have hq : (Sum.inr _ : Option qV ⊕ (Nat × qL × List qV)) = Sum.inr q := hq
      cases hq
      have v1 := (hL.n (i := 50) (d := 0) (List.mem_cons_of_mem _ (List.mem_cons_of_mem _ (List.mem_cons_of_mem _ (List.mem_cons_of_mem _ (List.mem_cons_of_mem _ List.mem_cons_self))))) hv)
      have ht1 : ρ1.take 45 = ρ0 := by rw [ht1]; exact ht
      rcases Int.lt_or_le v 1 with hlt | hge
      · skip
        refine qs_lnkB (p := 45) (ρ := ρ1) (fa_cons (zSh38 ex (qΓ1 fc) D as tys hT hA hh) (fa_cons (zSh39 ex (qΓ1 fc) D as tys hT hA) fa_nil)) hT hA zSg_b1bN (fa_cons (fun ρ2 ht2 hL hg2 _ => ⟨fun rv hrv => ?r0, fun q hq => ?c0⟩) (fa_cons (fun ρ2 ht2 hL hg2 _ => ⟨fun rv hrv => ?r1, fun q hq => ?c1⟩) fa_nil))
        case r0 =>
          have hrv : (Sum.inr _ : Option qV ⊕ (Nat × qL × List qV)) = Sum.inl rv := hrv
          cases hrv
        case c0 =>
          have hq : (Sum.inr _ : Option qV ⊕ (Nat × qL × List qV)) = Sum.inr q := hq
          cases hq
          have v3 := (hL.n (i := 50) (d := 1) (List.mem_cons_of_mem _ (List.mem_cons_of_mem _ (List.mem_cons_of_mem _ (List.mem_cons_of_mem _ (List.mem_cons_of_mem _ List.mem_cons_self))))) v1)
          exact ih ρ2 (v + 1) (by rw [ht2]; exact ht1) (by rw [v3]; exact congrArg some (by omega)) (by omega) (by omega) (by omega)
        case r1 =>
          have hrv : (Sum.inr _ : Option qV ⊕ (Nat × qL × List qV)) = Sum.inl rv := hrv
          cases hrv
        case c1 =>
          have hq : (Sum.inr _ : Option qV ⊕ (Nat × qL × List qV)) = Sum.inr q := hq
          cases hq
          have v3 := (hL.n (i := 52) (d := 1) (List.mem_cons_of_mem _ (List.mem_cons_of_mem _ List.mem_cons_self)) v1)
          exact zSbF1 hT hA hh hl0 7777 ρ2 (v + 1) (by rw [ht2]; exact ht1) (by rw [v3]; exact congrArg some (by omega)) (by omega) (by omega)
      · have gx := q_tkb ht1 hx
        have gf := q_tkb ht1 hf
        have gn := q_tkb ht1 hn
        refine qy_TP.pre (ρ' := ρ1) (g' := zST_b1s_l_1_1.1) (w' := zST_b1s_l_1_1.2.1) (lo' := zST_b1s_l_1_1.2.2.1) (st' := zST_b1s_l_1_1.2.2.2) ?_ (fun ws h => h) (fun h => h.to0 [(25, 1, 1), (27, 1, 1), (44, -1, 0), (50, 1, 1)] [] (by decide +kernel) rfl (by decide +kernel) (fa_ex gx (Int.le_refl _) (Int.le_refl _) (fa_ex gf (Int.le_refl _) (Int.le_refl _) (fa_ex gn hn1 hn2 (fa_ex v1 (by omega) (by omega) fa_nil)))) fa_nil) (fun _ _ h => h) (fun _ h => h)
        refine qs_lnkB (p := 45) (ρ := ρ1) (fa_cons (zSh45 ex (qΓ1 fc) D as tys hT hA) fa_nil) hT hA zSg_b1l_1_1 (fa_cons (fun ρ2 ht2 hL hg2 _ => ⟨fun rv hrv => ?r0, fun q hq => ?c0⟩) fa_nil)
        case r0 =>
          have hrv : (Sum.inr _ : Option qV ⊕ (Nat × qL × List qV)) = Sum.inl rv := hrv
          cases hrv
        case c0 =>
          have hq : (Sum.inr _ : Option qV ⊕ (Nat × qL × List qV)) = Sum.inr q := hq
          cases hq
          have v3 := (hL.l (i := 52) (z := 2) (List.mem_cons_of_mem _ (List.mem_cons_of_mem _ (List.mem_cons_of_mem _ (List.mem_cons_of_mem _ (List.mem_cons_of_mem _ (List.mem_cons_of_mem _ (List.mem_cons_of_mem _ List.mem_cons_self))))))))
          exact zSbF1 hT hA hh hl0 7777 ρ2 2 (by rw [ht2]; exact ht1) v3 (by omega) (by omega)
theorem zSbN1_1_2 (hT : zk_t) (hA : zk_a) {fc : Nat → Nat → Int32} (hh : qy_V ex (qΓ1 fc) D as tys zSk37) {ρ0 : List Int} (hl0 : ρ0.length = 45) (hx : ρ0[25]? = some (1 : Int)) (hf : ρ0[27]? = some (2 : Int)) {nv : Int} (hn : ρ0[44]? = some nv) (hn1 : -1 ≤ nv) (hn2 : nv ≤ 1) : ∀ (m : Nat) (ρ : List Int) (v : Int), ρ.take 45 = ρ0 → ρ[50]? = some v → 0 ≤ v → v ≤ 3 → 3 - v < (m : Int) → qy_TP ex D as tys 12 189 fc ρ zST_b1HN.1 zST_b1HN.2.1 zST_b1HN.2.2.1 zST_b1HN.2.2.2 13 (zSBP1 fc ρ0) := by
  intro m
  induction m with
  | zero => intro ρ v _ _ _ h1 h2; exfalso; omega
  | succ m ih =>
    intro ρ v ht hv h0 h1 h2
    have gx := q_tkb ht hx
    have gf := q_tkb ht hf
    have gn := q_tkb ht hn
    refine qy_TP.pre (ρ' := ρ) (g' := zST_b1s_h_1_2.1) (w' := zST_b1s_h_1_2.2.1) (lo' := zST_b1s_h_1_2.2.2.1) (st' := zST_b1s_h_1_2.2.2.2) ?_ (fun ws h => h) (fun h => h.to0 [(25, 1, 1), (27, 2, 2), (44, -1, 1), (50, 0, 3)] [] (by decide +kernel) rfl (by decide +kernel) (fa_ex gx (Int.le_refl _) (Int.le_refl _) (fa_ex gf (Int.le_refl _) (Int.le_refl _) (fa_ex gn hn1 hn2 (fa_ex hv (by omega) (by omega) fa_nil)))) fa_nil) (fun _ _ h => h) (fun _ h => h)
    refine qs_lnkB (p := 45) (ρ := ρ) fa_nil hT hA zSg_b1h_1_2 (fa_cons (fun ρ1 ht1 hL hg1 _ => ⟨fun rv hrv => ?r0, fun q hq => ?c0⟩) fa_nil)
    case r0 =>
      have hrv : (Sum.inr _ : Option qV ⊕ (Nat × qL × List qV)) = Sum.inl rv := hrv
      cases hrv
    case c0 =>
      have hq : (Sum.inr _ : Option qV ⊕ (Nat × qL × List qV)) = Sum.inr q := hq
      cases hq
      have v1 := (hL.n (i := 50) (d := 0) (List.mem_cons_of_mem _ (List.mem_cons_of_mem _ (List.mem_cons_of_mem _ (List.mem_cons_of_mem _ (List.mem_cons_of_mem _ List.mem_cons_self))))) hv)
      have ht1 : ρ1.take 45 = ρ0 := by rw [ht1]; exact ht
      rcases Int.lt_or_le v 3 with hlt | hge
      · skip
        refine qs_lnkB (p := 45) (ρ := ρ1) (fa_cons (zSh38 ex (qΓ1 fc) D as tys hT hA hh) (fa_cons (zSh39 ex (qΓ1 fc) D as tys hT hA) fa_nil)) hT hA zSg_b1bN (fa_cons (fun ρ2 ht2 hL hg2 _ => ⟨fun rv hrv => ?r0, fun q hq => ?c0⟩) (fa_cons (fun ρ2 ht2 hL hg2 _ => ⟨fun rv hrv => ?r1, fun q hq => ?c1⟩) fa_nil))
        case r0 =>
          have hrv : (Sum.inr _ : Option qV ⊕ (Nat × qL × List qV)) = Sum.inl rv := hrv
          cases hrv
        case c0 =>
          have hq : (Sum.inr _ : Option qV ⊕ (Nat × qL × List qV)) = Sum.inr q := hq
          cases hq
          have v3 := (hL.n (i := 50) (d := 1) (List.mem_cons_of_mem _ (List.mem_cons_of_mem _ (List.mem_cons_of_mem _ (List.mem_cons_of_mem _ (List.mem_cons_of_mem _ List.mem_cons_self))))) v1)
          exact ih ρ2 (v + 1) (by rw [ht2]; exact ht1) (by rw [v3]; exact congrArg some (by omega)) (by omega) (by omega) (by omega)
        case r1 =>
          have hrv : (Sum.inr _ : Option qV ⊕ (Nat × qL × List qV)) = Sum.inl rv := hrv
          cases hrv
        case c1 =>
          have hq : (Sum.inr _ : Option qV ⊕ (Nat × qL × List qV)) = Sum.inr q := hq
          cases hq
          have v3 := (hL.n (i := 52) (d := 1) (List.mem_cons_of_mem _ (List.mem_cons_of_mem _ List.mem_cons_self)) v1)
          exact zSbF1 hT hA hh hl0 7777 ρ2 (v + 1) (by rw [ht2]; exact ht1) (by rw [v3]; exact congrArg some (by omega)) (by omega) (by omega)
      · have gx := q_tkb ht1 hx
        have gf := q_tkb ht1 hf
        have gn := q_tkb ht1 hn
        refine qy_TP.pre (ρ' := ρ1) (g' := zST_b1s_l_1_2.1) (w' := zST_b1s_l_1_2.2.1) (lo' := zST_b1s_l_1_2.2.2.1) (st' := zST_b1s_l_1_2.2.2.2) ?_ (fun ws h => h) (fun h => h.to0 [(25, 1, 1), (27, 2, 2), (44, -1, 1), (50, 3, 3)] [] (by decide +kernel) rfl (by decide +kernel) (fa_ex gx (Int.le_refl _) (Int.le_refl _) (fa_ex gf (Int.le_refl _) (Int.le_refl _) (fa_ex gn hn1 hn2 (fa_ex v1 (by omega) (by omega) fa_nil)))) fa_nil) (fun _ _ h => h) (fun _ h => h)
        refine qs_lnkB (p := 45) (ρ := ρ1) (fa_cons (zSh46 ex (qΓ1 fc) D as tys hT hA) fa_nil) hT hA zSg_b1l_1_2 (fa_cons (fun ρ2 ht2 hL hg2 _ => ⟨fun rv hrv => ?r0, fun q hq => ?c0⟩) fa_nil)
        case r0 =>
          have hrv : (Sum.inr _ : Option qV ⊕ (Nat × qL × List qV)) = Sum.inl rv := hrv
          cases hrv
        case c0 =>
          have hq : (Sum.inr _ : Option qV ⊕ (Nat × qL × List qV)) = Sum.inr q := hq
          cases hq
          have v3 := (hL.l (i := 52) (z := 4) (List.mem_cons_of_mem _ (List.mem_cons_of_mem _ (List.mem_cons_of_mem _ (List.mem_cons_of_mem _ (List.mem_cons_of_mem _ (List.mem_cons_of_mem _ (List.mem_cons_of_mem _ List.mem_cons_self))))))))
          exact zSbF1 hT hA hh hl0 7777 ρ2 4 (by rw [ht2]; exact ht1) v3 (by omega) (by omega)
theorem zSbN1_1_3 (hT : zk_t) (hA : zk_a) {fc : Nat → Nat → Int32} (hh : qy_V ex (qΓ1 fc) D as tys zSk37) {ρ0 : List Int} (hl0 : ρ0.length = 45) (hx : ρ0[25]? = some (1 : Int)) (hf : ρ0[27]? = some (3 : Int)) {nv : Int} (hn : ρ0[44]? = some nv) (hn1 : -1 ≤ nv) (hn2 : nv ≤ 2) : ∀ (m : Nat) (ρ : List Int) (v : Int), ρ.take 45 = ρ0 → ρ[50]? = some v → 0 ≤ v → v ≤ 7 → 7 - v < (m : Int) → qy_TP ex D as tys 12 189 fc ρ zST_b1HN.1 zST_b1HN.2.1 zST_b1HN.2.2.1 zST_b1HN.2.2.2 13 (zSBP1 fc ρ0) := by
  intro m
  induction m with
  | zero => intro ρ v _ _ _ h1 h2; exfalso; omega
  | succ m ih =>
    intro ρ v ht hv h0 h1 h2
    have gx := q_tkb ht hx
    have gf := q_tkb ht hf
    have gn := q_tkb ht hn
    refine qy_TP.pre (ρ' := ρ) (g' := zST_b1s_h_1_3.1) (w' := zST_b1s_h_1_3.2.1) (lo' := zST_b1s_h_1_3.2.2.1) (st' := zST_b1s_h_1_3.2.2.2) ?_ (fun ws h => h) (fun h => h.to0 [(25, 1, 1), (27, 3, 3), (44, -1, 2), (50, 0, 7)] [] (by decide +kernel) rfl (by decide +kernel) (fa_ex gx (Int.le_refl _) (Int.le_refl _) (fa_ex gf (Int.le_refl _) (Int.le_refl _) (fa_ex gn hn1 hn2 (fa_ex hv (by omega) (by omega) fa_nil)))) fa_nil) (fun _ _ h => h) (fun _ h => h)
    refine qs_lnkB (p := 45) (ρ := ρ) fa_nil hT hA zSg_b1h_1_3 (fa_cons (fun ρ1 ht1 hL hg1 _ => ⟨fun rv hrv => ?r0, fun q hq => ?c0⟩) fa_nil)
    case r0 =>
      have hrv : (Sum.inr _ : Option qV ⊕ (Nat × qL × List qV)) = Sum.inl rv := hrv
      cases hrv
    case c0 =>
      have hq : (Sum.inr _ : Option qV ⊕ (Nat × qL × List qV)) = Sum.inr q := hq
      cases hq
      have v1 := (hL.n (i := 50) (d := 0) (List.mem_cons_of_mem _ (List.mem_cons_of_mem _ (List.mem_cons_of_mem _ (List.mem_cons_of_mem _ (List.mem_cons_of_mem _ List.mem_cons_self))))) hv)
      have ht1 : ρ1.take 45 = ρ0 := by rw [ht1]; exact ht
      rcases Int.lt_or_le v 7 with hlt | hge
      · skip
        refine qs_lnkB (p := 45) (ρ := ρ1) (fa_cons (zSh38 ex (qΓ1 fc) D as tys hT hA hh) (fa_cons (zSh39 ex (qΓ1 fc) D as tys hT hA) fa_nil)) hT hA zSg_b1bN (fa_cons (fun ρ2 ht2 hL hg2 _ => ⟨fun rv hrv => ?r0, fun q hq => ?c0⟩) (fa_cons (fun ρ2 ht2 hL hg2 _ => ⟨fun rv hrv => ?r1, fun q hq => ?c1⟩) fa_nil))
        case r0 =>
          have hrv : (Sum.inr _ : Option qV ⊕ (Nat × qL × List qV)) = Sum.inl rv := hrv
          cases hrv
        case c0 =>
          have hq : (Sum.inr _ : Option qV ⊕ (Nat × qL × List qV)) = Sum.inr q := hq
          cases hq
          have v3 := (hL.n (i := 50) (d := 1) (List.mem_cons_of_mem _ (List.mem_cons_of_mem _ (List.mem_cons_of_mem _ (List.mem_cons_of_mem _ (List.mem_cons_of_mem _ List.mem_cons_self))))) v1)
          exact ih ρ2 (v + 1) (by rw [ht2]; exact ht1) (by rw [v3]; exact congrArg some (by omega)) (by omega) (by omega) (by omega)
        case r1 =>
          have hrv : (Sum.inr _ : Option qV ⊕ (Nat × qL × List qV)) = Sum.inl rv := hrv
          cases hrv
        case c1 =>
          have hq : (Sum.inr _ : Option qV ⊕ (Nat × qL × List qV)) = Sum.inr q := hq
          cases hq
          have v3 := (hL.n (i := 52) (d := 1) (List.mem_cons_of_mem _ (List.mem_cons_of_mem _ List.mem_cons_self)) v1)
          exact zSbF1 hT hA hh hl0 7777 ρ2 (v + 1) (by rw [ht2]; exact ht1) (by rw [v3]; exact congrArg some (by omega)) (by omega) (by omega)
      · have gx := q_tkb ht1 hx
        have gf := q_tkb ht1 hf
        have gn := q_tkb ht1 hn
        refine qy_TP.pre (ρ' := ρ1) (g' := zST_b1s_l_1_3.1) (w' := zST_b1s_l_1_3.2.1) (lo' := zST_b1s_l_1_3.2.2.1) (st' := zST_b1s_l_1_3.2.2.2) ?_ (fun ws h => h) (fun h => h.to0 [(25, 1, 1), (27, 3, 3), (44, -1, 2), (50, 7, 7)] [] (by decide +kernel) rfl (by decide +kernel) (fa_ex gx (Int.le_refl _) (Int.le_refl _) (fa_ex gf (Int.le_refl _) (Int.le_refl _) (fa_ex gn hn1 hn2 (fa_ex v1 (by omega) (by omega) fa_nil)))) fa_nil) (fun _ _ h => h) (fun _ h => h)
        refine qs_lnkB (p := 45) (ρ := ρ1) (fa_cons (zSh47 ex (qΓ1 fc) D as tys hT hA) fa_nil) hT hA zSg_b1l_1_3 (fa_cons (fun ρ2 ht2 hL hg2 _ => ⟨fun rv hrv => ?r0, fun q hq => ?c0⟩) fa_nil)
        case r0 =>
          have hrv : (Sum.inr _ : Option qV ⊕ (Nat × qL × List qV)) = Sum.inl rv := hrv
          cases hrv
        case c0 =>
          have hq : (Sum.inr _ : Option qV ⊕ (Nat × qL × List qV)) = Sum.inr q := hq
          cases hq
          have v3 := (hL.l (i := 52) (z := 8) (List.mem_cons_of_mem _ (List.mem_cons_of_mem _ (List.mem_cons_of_mem _ (List.mem_cons_of_mem _ (List.mem_cons_of_mem _ (List.mem_cons_of_mem _ (List.mem_cons_of_mem _ List.mem_cons_self))))))))
          exact zSbF1 hT hA hh hl0 7777 ρ2 8 (by rw [ht2]; exact ht1) v3 (by omega) (by omega)
theorem zSbN1_1_4 (hT : zk_t) (hA : zk_a) {fc : Nat → Nat → Int32} (hh : qy_V ex (qΓ1 fc) D as tys zSk37) {ρ0 : List Int} (hl0 : ρ0.length = 45) (hx : ρ0[25]? = some (1 : Int)) (hf : ρ0[27]? = some (4 : Int)) {nv : Int} (hn : ρ0[44]? = some nv) (hn1 : -1 ≤ nv) (hn2 : nv ≤ 3) : ∀ (m : Nat) (ρ : List Int) (v : Int), ρ.take 45 = ρ0 → ρ[50]? = some v → 0 ≤ v → v ≤ 15 → 15 - v < (m : Int) → qy_TP ex D as tys 12 189 fc ρ zST_b1HN.1 zST_b1HN.2.1 zST_b1HN.2.2.1 zST_b1HN.2.2.2 13 (zSBP1 fc ρ0) := by
  intro m
  induction m with
  | zero => intro ρ v _ _ _ h1 h2; exfalso; omega
  | succ m ih =>
    intro ρ v ht hv h0 h1 h2
    have gx := q_tkb ht hx
    have gf := q_tkb ht hf
    have gn := q_tkb ht hn
    refine qy_TP.pre (ρ' := ρ) (g' := zST_b1s_h_1_4.1) (w' := zST_b1s_h_1_4.2.1) (lo' := zST_b1s_h_1_4.2.2.1) (st' := zST_b1s_h_1_4.2.2.2) ?_ (fun ws h => h) (fun h => h.to0 [(25, 1, 1), (27, 4, 4), (44, -1, 3), (50, 0, 15)] [] (by decide +kernel) rfl (by decide +kernel) (fa_ex gx (Int.le_refl _) (Int.le_refl _) (fa_ex gf (Int.le_refl _) (Int.le_refl _) (fa_ex gn hn1 hn2 (fa_ex hv (by omega) (by omega) fa_nil)))) fa_nil) (fun _ _ h => h) (fun _ h => h)
    refine qs_lnkB (p := 45) (ρ := ρ) fa_nil hT hA zSg_b1h_1_4 (fa_cons (fun ρ1 ht1 hL hg1 _ => ⟨fun rv hrv => ?r0, fun q hq => ?c0⟩) fa_nil)
    case r0 =>
      have hrv : (Sum.inr _ : Option qV ⊕ (Nat × qL × List qV)) = Sum.inl rv := hrv
      cases hrv
    case c0 =>
      have hq : (Sum.inr _ : Option qV ⊕ (Nat × qL × List qV)) = Sum.inr q := hq
      cases hq
      have v1 := (hL.n (i := 50) (d := 0) (List.mem_cons_of_mem _ (List.mem_cons_of_mem _ (List.mem_cons_of_mem _ (List.mem_cons_of_mem _ (List.mem_cons_of_mem _ List.mem_cons_self))))) hv)
      have ht1 : ρ1.take 45 = ρ0 := by rw [ht1]; exact ht
      rcases Int.lt_or_le v 15 with hlt | hge
      · skip
        refine qs_lnkB (p := 45) (ρ := ρ1) (fa_cons (zSh38 ex (qΓ1 fc) D as tys hT hA hh) (fa_cons (zSh39 ex (qΓ1 fc) D as tys hT hA) fa_nil)) hT hA zSg_b1bN (fa_cons (fun ρ2 ht2 hL hg2 _ => ⟨fun rv hrv => ?r0, fun q hq => ?c0⟩) (fa_cons (fun ρ2 ht2 hL hg2 _ => ⟨fun rv hrv => ?r1, fun q hq => ?c1⟩) fa_nil))
        case r0 =>
          have hrv : (Sum.inr _ : Option qV ⊕ (Nat × qL × List qV)) = Sum.inl rv := hrv
          cases hrv
        case c0 =>
          have hq : (Sum.inr _ : Option qV ⊕ (Nat × qL × List qV)) = Sum.inr q := hq
          cases hq
          have v3 := (hL.n (i := 50) (d := 1) (List.mem_cons_of_mem _ (List.mem_cons_of_mem _ (List.mem_cons_of_mem _ (List.mem_cons_of_mem _ (List.mem_cons_of_mem _ List.mem_cons_self))))) v1)
          exact ih ρ2 (v + 1) (by rw [ht2]; exact ht1) (by rw [v3]; exact congrArg some (by omega)) (by omega) (by omega) (by omega)
        case r1 =>
          have hrv : (Sum.inr _ : Option qV ⊕ (Nat × qL × List qV)) = Sum.inl rv := hrv
          cases hrv
        case c1 =>
          have hq : (Sum.inr _ : Option qV ⊕ (Nat × qL × List qV)) = Sum.inr q := hq
          cases hq
          have v3 := (hL.n (i := 52) (d := 1) (List.mem_cons_of_mem _ (List.mem_cons_of_mem _ List.mem_cons_self)) v1)
          exact zSbF1 hT hA hh hl0 7777 ρ2 (v + 1) (by rw [ht2]; exact ht1) (by rw [v3]; exact congrArg some (by omega)) (by omega) (by omega)
      · have gx := q_tkb ht1 hx
        have gf := q_tkb ht1 hf
        have gn := q_tkb ht1 hn
        refine qy_TP.pre (ρ' := ρ1) (g' := zST_b1s_l_1_4.1) (w' := zST_b1s_l_1_4.2.1) (lo' := zST_b1s_l_1_4.2.2.1) (st' := zST_b1s_l_1_4.2.2.2) ?_ (fun ws h => h) (fun h => h.to0 [(25, 1, 1), (27, 4, 4), (44, -1, 3), (50, 15, 15)] [] (by decide +kernel) rfl (by decide +kernel) (fa_ex gx (Int.le_refl _) (Int.le_refl _) (fa_ex gf (Int.le_refl _) (Int.le_refl _) (fa_ex gn hn1 hn2 (fa_ex v1 (by omega) (by omega) fa_nil)))) fa_nil) (fun _ _ h => h) (fun _ h => h)
        refine qs_lnkB (p := 45) (ρ := ρ1) (fa_cons (zSh48 ex (qΓ1 fc) D as tys hT hA) fa_nil) hT hA zSg_b1l_1_4 (fa_cons (fun ρ2 ht2 hL hg2 _ => ⟨fun rv hrv => ?r0, fun q hq => ?c0⟩) fa_nil)
        case r0 =>
          have hrv : (Sum.inr _ : Option qV ⊕ (Nat × qL × List qV)) = Sum.inl rv := hrv
          cases hrv
        case c0 =>
          have hq : (Sum.inr _ : Option qV ⊕ (Nat × qL × List qV)) = Sum.inr q := hq
          cases hq
          have v3 := (hL.l (i := 52) (z := 16) (List.mem_cons_of_mem _ (List.mem_cons_of_mem _ (List.mem_cons_of_mem _ (List.mem_cons_of_mem _ (List.mem_cons_of_mem _ (List.mem_cons_of_mem _ (List.mem_cons_of_mem _ List.mem_cons_self))))))))
          exact zSbF1 hT hA hh hl0 7777 ρ2 16 (by rw [ht2]; exact ht1) v3 (by omega) (by omega)
theorem zSbN1_1_5 (hT : zk_t) (hA : zk_a) {fc : Nat → Nat → Int32} (hh : qy_V ex (qΓ1 fc) D as tys zSk37) {ρ0 : List Int} (hl0 : ρ0.length = 45) (hx : ρ0[25]? = some (1 : Int)) (hf : ρ0[27]? = some (5 : Int)) {nv : Int} (hn : ρ0[44]? = some nv) (hn1 : -1 ≤ nv) (hn2 : nv ≤ 4) : ∀ (m : Nat) (ρ : List Int) (v : Int), ρ.take 45 = ρ0 → ρ[50]? = some v → 0 ≤ v → v ≤ 31 → 31 - v < (m : Int) → qy_TP ex D as tys 12 189 fc ρ zST_b1HN.1 zST_b1HN.2.1 zST_b1HN.2.2.1 zST_b1HN.2.2.2 13 (zSBP1 fc ρ0) := by
  intro m
  induction m with
  | zero => intro ρ v _ _ _ h1 h2; exfalso; omega
  | succ m ih =>
    intro ρ v ht hv h0 h1 h2
    have gx := q_tkb ht hx
    have gf := q_tkb ht hf
    have gn := q_tkb ht hn
    refine qy_TP.pre (ρ' := ρ) (g' := zST_b1s_h_1_5.1) (w' := zST_b1s_h_1_5.2.1) (lo' := zST_b1s_h_1_5.2.2.1) (st' := zST_b1s_h_1_5.2.2.2) ?_ (fun ws h => h) (fun h => h.to0 [(25, 1, 1), (27, 5, 5), (44, -1, 4), (50, 0, 31)] [] (by decide +kernel) rfl (by decide +kernel) (fa_ex gx (Int.le_refl _) (Int.le_refl _) (fa_ex gf (Int.le_refl _) (Int.le_refl _) (fa_ex gn hn1 hn2 (fa_ex hv (by omega) (by omega) fa_nil)))) fa_nil) (fun _ _ h => h) (fun _ h => h)
    refine qs_lnkB (p := 45) (ρ := ρ) fa_nil hT hA zSg_b1h_1_5 (fa_cons (fun ρ1 ht1 hL hg1 _ => ⟨fun rv hrv => ?r0, fun q hq => ?c0⟩) fa_nil)
    case r0 =>
      have hrv : (Sum.inr _ : Option qV ⊕ (Nat × qL × List qV)) = Sum.inl rv := hrv
      cases hrv
    case c0 =>
      have hq : (Sum.inr _ : Option qV ⊕ (Nat × qL × List qV)) = Sum.inr q := hq
      cases hq
      have v1 := (hL.n (i := 50) (d := 0) (List.mem_cons_of_mem _ (List.mem_cons_of_mem _ (List.mem_cons_of_mem _ (List.mem_cons_of_mem _ (List.mem_cons_of_mem _ List.mem_cons_self))))) hv)
      have ht1 : ρ1.take 45 = ρ0 := by rw [ht1]; exact ht
      rcases Int.lt_or_le v 31 with hlt | hge
      · skip
        refine qs_lnkB (p := 45) (ρ := ρ1) (fa_cons (zSh38 ex (qΓ1 fc) D as tys hT hA hh) (fa_cons (zSh39 ex (qΓ1 fc) D as tys hT hA) fa_nil)) hT hA zSg_b1bN (fa_cons (fun ρ2 ht2 hL hg2 _ => ⟨fun rv hrv => ?r0, fun q hq => ?c0⟩) (fa_cons (fun ρ2 ht2 hL hg2 _ => ⟨fun rv hrv => ?r1, fun q hq => ?c1⟩) fa_nil))
        case r0 =>
          have hrv : (Sum.inr _ : Option qV ⊕ (Nat × qL × List qV)) = Sum.inl rv := hrv
          cases hrv
        case c0 =>
          have hq : (Sum.inr _ : Option qV ⊕ (Nat × qL × List qV)) = Sum.inr q := hq
          cases hq
          have v3 := (hL.n (i := 50) (d := 1) (List.mem_cons_of_mem _ (List.mem_cons_of_mem _ (List.mem_cons_of_mem _ (List.mem_cons_of_mem _ (List.mem_cons_of_mem _ List.mem_cons_self))))) v1)
          exact ih ρ2 (v + 1) (by rw [ht2]; exact ht1) (by rw [v3]; exact congrArg some (by omega)) (by omega) (by omega) (by omega)
        case r1 =>
          have hrv : (Sum.inr _ : Option qV ⊕ (Nat × qL × List qV)) = Sum.inl rv := hrv
          cases hrv
        case c1 =>
          have hq : (Sum.inr _ : Option qV ⊕ (Nat × qL × List qV)) = Sum.inr q := hq
          cases hq
          have v3 := (hL.n (i := 52) (d := 1) (List.mem_cons_of_mem _ (List.mem_cons_of_mem _ List.mem_cons_self)) v1)
          exact zSbF1 hT hA hh hl0 7777 ρ2 (v + 1) (by rw [ht2]; exact ht1) (by rw [v3]; exact congrArg some (by omega)) (by omega) (by omega)
      · have gx := q_tkb ht1 hx
        have gf := q_tkb ht1 hf
        have gn := q_tkb ht1 hn
        refine qy_TP.pre (ρ' := ρ1) (g' := zST_b1s_l_1_5.1) (w' := zST_b1s_l_1_5.2.1) (lo' := zST_b1s_l_1_5.2.2.1) (st' := zST_b1s_l_1_5.2.2.2) ?_ (fun ws h => h) (fun h => h.to0 [(25, 1, 1), (27, 5, 5), (44, -1, 4), (50, 31, 31)] [] (by decide +kernel) rfl (by decide +kernel) (fa_ex gx (Int.le_refl _) (Int.le_refl _) (fa_ex gf (Int.le_refl _) (Int.le_refl _) (fa_ex gn hn1 hn2 (fa_ex v1 (by omega) (by omega) fa_nil)))) fa_nil) (fun _ _ h => h) (fun _ h => h)
        refine qs_lnkB (p := 45) (ρ := ρ1) (fa_cons (zSh49 ex (qΓ1 fc) D as tys hT hA) fa_nil) hT hA zSg_b1l_1_5 (fa_cons (fun ρ2 ht2 hL hg2 _ => ⟨fun rv hrv => ?r0, fun q hq => ?c0⟩) fa_nil)
        case r0 =>
          have hrv : (Sum.inr _ : Option qV ⊕ (Nat × qL × List qV)) = Sum.inl rv := hrv
          cases hrv
        case c0 =>
          have hq : (Sum.inr _ : Option qV ⊕ (Nat × qL × List qV)) = Sum.inr q := hq
          cases hq
          have v3 := (hL.l (i := 52) (z := 32) (List.mem_cons_of_mem _ (List.mem_cons_of_mem _ (List.mem_cons_of_mem _ (List.mem_cons_of_mem _ (List.mem_cons_of_mem _ (List.mem_cons_of_mem _ (List.mem_cons_of_mem _ List.mem_cons_self))))))))
          exact zSbF1 hT hA hh hl0 7777 ρ2 32 (by rw [ht2]; exact ht1) v3 (by omega) (by omega)
theorem zSbN1_2_0 (hT : zk_t) (hA : zk_a) {fc : Nat → Nat → Int32} (hh : qy_V ex (qΓ1 fc) D as tys zSk37) {ρ0 : List Int} (hl0 : ρ0.length = 45) (hx : ρ0[25]? = some (2 : Int)) (hf : ρ0[27]? = some (0 : Int)) {nv : Int} (hn : ρ0[44]? = some nv) (hn1 : -1 ≤ nv) (hn2 : nv ≤ -1) : ∀ (m : Nat) (ρ : List Int) (v : Int), ρ.take 45 = ρ0 → ρ[50]? = some v → 0 ≤ v → v ≤ 0 → 0 - v < (m : Int) → qy_TP ex D as tys 12 189 fc ρ zST_b1HN.1 zST_b1HN.2.1 zST_b1HN.2.2.1 zST_b1HN.2.2.2 13 (zSBP1 fc ρ0) := by
  intro m
  induction m with
  | zero => intro ρ v _ _ _ h1 h2; exfalso; omega
  | succ m ih =>
    intro ρ v ht hv h0 h1 h2
    have gx := q_tkb ht hx
    have gf := q_tkb ht hf
    have gn := q_tkb ht hn
    refine qy_TP.pre (ρ' := ρ) (g' := zST_b1s_h_2_0.1) (w' := zST_b1s_h_2_0.2.1) (lo' := zST_b1s_h_2_0.2.2.1) (st' := zST_b1s_h_2_0.2.2.2) ?_ (fun ws h => h) (fun h => h.to0 [(25, 2, 2), (27, 0, 0), (44, -1, -1), (50, 0, 0)] [] (by decide +kernel) rfl (by decide +kernel) (fa_ex gx (Int.le_refl _) (Int.le_refl _) (fa_ex gf (Int.le_refl _) (Int.le_refl _) (fa_ex gn hn1 hn2 (fa_ex hv (by omega) (by omega) fa_nil)))) fa_nil) (fun _ _ h => h) (fun _ h => h)
    refine qs_lnkB (p := 45) (ρ := ρ) fa_nil hT hA zSg_b1h_2_0 (fa_cons (fun ρ1 ht1 hL hg1 _ => ⟨fun rv hrv => ?r0, fun q hq => ?c0⟩) fa_nil)
    case r0 =>
      have hrv : (Sum.inr _ : Option qV ⊕ (Nat × qL × List qV)) = Sum.inl rv := hrv
      cases hrv
    case c0 =>
      have hq : (Sum.inr _ : Option qV ⊕ (Nat × qL × List qV)) = Sum.inr q := hq
      cases hq
      have v1 := (hL.n (i := 50) (d := 0) (List.mem_cons_of_mem _ (List.mem_cons_of_mem _ (List.mem_cons_of_mem _ (List.mem_cons_of_mem _ (List.mem_cons_of_mem _ List.mem_cons_self))))) hv)
      have ht1 : ρ1.take 45 = ρ0 := by rw [ht1]; exact ht
      rcases Int.lt_or_le v 0 with hlt | hge
      · skip
        refine qs_lnkB (p := 45) (ρ := ρ1) (fa_cons (zSh38 ex (qΓ1 fc) D as tys hT hA hh) (fa_cons (zSh39 ex (qΓ1 fc) D as tys hT hA) fa_nil)) hT hA zSg_b1bN (fa_cons (fun ρ2 ht2 hL hg2 _ => ⟨fun rv hrv => ?r0, fun q hq => ?c0⟩) (fa_cons (fun ρ2 ht2 hL hg2 _ => ⟨fun rv hrv => ?r1, fun q hq => ?c1⟩) fa_nil))
        case r0 =>
          have hrv : (Sum.inr _ : Option qV ⊕ (Nat × qL × List qV)) = Sum.inl rv := hrv
          cases hrv
        case c0 =>
          have hq : (Sum.inr _ : Option qV ⊕ (Nat × qL × List qV)) = Sum.inr q := hq
          cases hq
          have v3 := (hL.n (i := 50) (d := 1) (List.mem_cons_of_mem _ (List.mem_cons_of_mem _ (List.mem_cons_of_mem _ (List.mem_cons_of_mem _ (List.mem_cons_of_mem _ List.mem_cons_self))))) v1)
          exact ih ρ2 (v + 1) (by rw [ht2]; exact ht1) (by rw [v3]; exact congrArg some (by omega)) (by omega) (by omega) (by omega)
        case r1 =>
          have hrv : (Sum.inr _ : Option qV ⊕ (Nat × qL × List qV)) = Sum.inl rv := hrv
          cases hrv
        case c1 =>
          have hq : (Sum.inr _ : Option qV ⊕ (Nat × qL × List qV)) = Sum.inr q := hq
          cases hq
          have v3 := (hL.n (i := 52) (d := 1) (List.mem_cons_of_mem _ (List.mem_cons_of_mem _ List.mem_cons_self)) v1)
          exact zSbF1 hT hA hh hl0 7777 ρ2 (v + 1) (by rw [ht2]; exact ht1) (by rw [v3]; exact congrArg some (by omega)) (by omega) (by omega)
      · have gx := q_tkb ht1 hx
        have gf := q_tkb ht1 hf
        have gn := q_tkb ht1 hn
        refine qy_TP.pre (ρ' := ρ1) (g' := zST_b1s_h_2_0.1) (w' := zST_b1s_h_2_0.2.1) (lo' := zST_b1s_h_2_0.2.2.1) (st' := zST_b1s_h_2_0.2.2.2) ?_ (fun ws h => h) (fun h => h.to0 [(25, 2, 2), (27, 0, 0), (44, -1, -1), (50, 0, 0)] [] (by decide +kernel) rfl (by decide +kernel) (fa_ex gx (Int.le_refl _) (Int.le_refl _) (fa_ex gf (Int.le_refl _) (Int.le_refl _) (fa_ex gn hn1 hn2 (fa_ex v1 (by omega) (by omega) fa_nil)))) fa_nil) (fun _ _ h => h) (fun _ h => h)
        refine qs_lnkB (p := 45) (ρ := ρ1) fa_nil hT hA zSg_b1l_2_0 (fa_cons (fun ρ2 ht2 hL hg2 _ => ⟨fun rv hrv => ?r0, fun q hq => ?c0⟩) fa_nil)
        case r0 =>
          have hrv : (Sum.inr _ : Option qV ⊕ (Nat × qL × List qV)) = Sum.inl rv := hrv
          cases hrv
        case c0 =>
          have hq : (Sum.inr _ : Option qV ⊕ (Nat × qL × List qV)) = Sum.inr q := hq
          cases hq
          have v3 := (hL.l (i := 52) (z := 1) (List.mem_cons_of_mem _ (List.mem_cons_of_mem _ (List.mem_cons_of_mem _ (List.mem_cons_of_mem _ (List.mem_cons_of_mem _ (List.mem_cons_of_mem _ (List.mem_cons_of_mem _ List.mem_cons_self))))))))
          exact zSbF1 hT hA hh hl0 7777 ρ2 1 (by rw [ht2]; exact ht1) v3 (by omega) (by omega)
theorem zSbN1_2_1 (hT : zk_t) (hA : zk_a) {fc : Nat → Nat → Int32} (hh : qy_V ex (qΓ1 fc) D as tys zSk37) {ρ0 : List Int} (hl0 : ρ0.length = 45) (hx : ρ0[25]? = some (2 : Int)) (hf : ρ0[27]? = some (1 : Int)) {nv : Int} (hn : ρ0[44]? = some nv) (hn1 : -1 ≤ nv) (hn2 : nv ≤ 0) : ∀ (m : Nat) (ρ : List Int) (v : Int), ρ.take 45 = ρ0 → ρ[50]? = some v → 0 ≤ v → v ≤ 2 → 2 - v < (m : Int) → qy_TP ex D as tys 12 189 fc ρ zST_b1HN.1 zST_b1HN.2.1 zST_b1HN.2.2.1 zST_b1HN.2.2.2 13 (zSBP1 fc ρ0) := by
  intro m
  induction m with
  | zero => intro ρ v _ _ _ h1 h2; exfalso; omega
  | succ m ih =>
    intro ρ v ht hv h0 h1 h2
    have gx := q_tkb ht hx
    have gf := q_tkb ht hf
    have gn := q_tkb ht hn
    refine qy_TP.pre (ρ' := ρ) (g' := zST_b1s_h_2_1.1) (w' := zST_b1s_h_2_1.2.1) (lo' := zST_b1s_h_2_1.2.2.1) (st' := zST_b1s_h_2_1.2.2.2) ?_ (fun ws h => h) (fun h => h.to0 [(25, 2, 2), (27, 1, 1), (44, -1, 0), (50, 0, 2)] [] (by decide +kernel) rfl (by decide +kernel) (fa_ex gx (Int.le_refl _) (Int.le_refl _) (fa_ex gf (Int.le_refl _) (Int.le_refl _) (fa_ex gn hn1 hn2 (fa_ex hv (by omega) (by omega) fa_nil)))) fa_nil) (fun _ _ h => h) (fun _ h => h)
    refine qs_lnkB (p := 45) (ρ := ρ) fa_nil hT hA zSg_b1h_2_1 (fa_cons (fun ρ1 ht1 hL hg1 _ => ⟨fun rv hrv => ?r0, fun q hq => ?c0⟩) fa_nil)
    case r0 =>
      have hrv : (Sum.inr _ : Option qV ⊕ (Nat × qL × List qV)) = Sum.inl rv := hrv
      cases hrv
    case c0 =>
      have hq : (Sum.inr _ : Option qV ⊕ (Nat × qL × List qV)) = Sum.inr q := hq
      cases hq
      have v1 := (hL.n (i := 50) (d := 0) (List.mem_cons_of_mem _ (List.mem_cons_of_mem _ (List.mem_cons_of_mem _ (List.mem_cons_of_mem _ (List.mem_cons_of_mem _ List.mem_cons_self))))) hv)
      have ht1 : ρ1.take 45 = ρ0 := by rw [ht1]; exact ht
      rcases Int.lt_or_le v 2 with hlt | hge
      · skip
        refine qs_lnkB (p := 45) (ρ := ρ1) (fa_cons (zSh38 ex (qΓ1 fc) D as tys hT hA hh) (fa_cons (zSh39 ex (qΓ1 fc) D as tys hT hA) fa_nil)) hT hA zSg_b1bN (fa_cons (fun ρ2 ht2 hL hg2 _ => ⟨fun rv hrv => ?r0, fun q hq => ?c0⟩) (fa_cons (fun ρ2 ht2 hL hg2 _ => ⟨fun rv hrv => ?r1, fun q hq => ?c1⟩) fa_nil))
        case r0 =>
          have hrv : (Sum.inr _ : Option qV ⊕ (Nat × qL × List qV)) = Sum.inl rv := hrv
          cases hrv
        case c0 =>
          have hq : (Sum.inr _ : Option qV ⊕ (Nat × qL × List qV)) = Sum.inr q := hq
          cases hq
          have v3 := (hL.n (i := 50) (d := 1) (List.mem_cons_of_mem _ (List.mem_cons_of_mem _ (List.mem_cons_of_mem _ (List.mem_cons_of_mem _ (List.mem_cons_of_mem _ List.mem_cons_self))))) v1)
          exact ih ρ2 (v + 1) (by rw [ht2]; exact ht1) (by rw [v3]; exact congrArg some (by omega)) (by omega) (by omega) (by omega)
        case r1 =>
          have hrv : (Sum.inr _ : Option qV ⊕ (Nat × qL × List qV)) = Sum.inl rv := hrv
          cases hrv
        case c1 =>
          have hq : (Sum.inr _ : Option qV ⊕ (Nat × qL × List qV)) = Sum.inr q := hq
          cases hq
          have v3 := (hL.n (i := 52) (d := 1) (List.mem_cons_of_mem _ (List.mem_cons_of_mem _ List.mem_cons_self)) v1)
          exact zSbF1 hT hA hh hl0 7777 ρ2 (v + 1) (by rw [ht2]; exact ht1) (by rw [v3]; exact congrArg some (by omega)) (by omega) (by omega)
      · have gx := q_tkb ht1 hx
        have gf := q_tkb ht1 hf
        have gn := q_tkb ht1 hn
        refine qy_TP.pre (ρ' := ρ1) (g' := zST_b1s_l_2_1.1) (w' := zST_b1s_l_2_1.2.1) (lo' := zST_b1s_l_2_1.2.2.1) (st' := zST_b1s_l_2_1.2.2.2) ?_ (fun ws h => h) (fun h => h.to0 [(25, 2, 2), (27, 1, 1), (44, -1, 0), (50, 2, 2)] [] (by decide +kernel) rfl (by decide +kernel) (fa_ex gx (Int.le_refl _) (Int.le_refl _) (fa_ex gf (Int.le_refl _) (Int.le_refl _) (fa_ex gn hn1 hn2 (fa_ex v1 (by omega) (by omega) fa_nil)))) fa_nil) (fun _ _ h => h) (fun _ h => h)
        refine qs_lnkB (p := 45) (ρ := ρ1) (fa_cons (zSh50 ex (qΓ1 fc) D as tys hT hA) fa_nil) hT hA zSg_b1l_2_1 (fa_cons (fun ρ2 ht2 hL hg2 _ => ⟨fun rv hrv => ?r0, fun q hq => ?c0⟩) fa_nil)
        case r0 =>
          have hrv : (Sum.inr _ : Option qV ⊕ (Nat × qL × List qV)) = Sum.inl rv := hrv
          cases hrv
        case c0 =>
          have hq : (Sum.inr _ : Option qV ⊕ (Nat × qL × List qV)) = Sum.inr q := hq
          cases hq
          have v3 := (hL.l (i := 52) (z := 3) (List.mem_cons_of_mem _ (List.mem_cons_of_mem _ (List.mem_cons_of_mem _ (List.mem_cons_of_mem _ (List.mem_cons_of_mem _ (List.mem_cons_of_mem _ (List.mem_cons_of_mem _ List.mem_cons_self))))))))
          exact zSbF1 hT hA hh hl0 7777 ρ2 3 (by rw [ht2]; exact ht1) v3 (by omega) (by omega)
theorem zSbN1_2_2 (hT : zk_t) (hA : zk_a) {fc : Nat → Nat → Int32} (hh : qy_V ex (qΓ1 fc) D as tys zSk37) {ρ0 : List Int} (hl0 : ρ0.length = 45) (hx : ρ0[25]? = some (2 : Int)) (hf : ρ0[27]? = some (2 : Int)) {nv : Int} (hn : ρ0[44]? = some nv) (hn1 : -1 ≤ nv) (hn2 : nv ≤ 1) : ∀ (m : Nat) (ρ : List Int) (v : Int), ρ.take 45 = ρ0 → ρ[50]? = some v → 0 ≤ v → v ≤ 8 → 8 - v < (m : Int) → qy_TP ex D as tys 12 189 fc ρ zST_b1HN.1 zST_b1HN.2.1 zST_b1HN.2.2.1 zST_b1HN.2.2.2 13 (zSBP1 fc ρ0) := by
  intro m
  induction m with
  | zero => intro ρ v _ _ _ h1 h2; exfalso; omega
  | succ m ih =>
    intro ρ v ht hv h0 h1 h2
    have gx := q_tkb ht hx
    have gf := q_tkb ht hf
    have gn := q_tkb ht hn
    refine qy_TP.pre (ρ' := ρ) (g' := zST_b1s_h_2_2.1) (w' := zST_b1s_h_2_2.2.1) (lo' := zST_b1s_h_2_2.2.2.1) (st' := zST_b1s_h_2_2.2.2.2) ?_ (fun ws h => h) (fun h => h.to0 [(25, 2, 2), (27, 2, 2), (44, -1, 1), (50, 0, 8)] [] (by decide +kernel) rfl (by decide +kernel) (fa_ex gx (Int.le_refl _) (Int.le_refl _) (fa_ex gf (Int.le_refl _) (Int.le_refl _) (fa_ex gn hn1 hn2 (fa_ex hv (by omega) (by omega) fa_nil)))) fa_nil) (fun _ _ h => h) (fun _ h => h)
    refine qs_lnkB (p := 45) (ρ := ρ) fa_nil hT hA zSg_b1h_2_2 (fa_cons (fun ρ1 ht1 hL hg1 _ => ⟨fun rv hrv => ?r0, fun q hq => ?c0⟩) fa_nil)
    case r0 =>
      have hrv : (Sum.inr _ : Option qV ⊕ (Nat × qL × List qV)) = Sum.inl rv := hrv
      cases hrv
    case c0 =>
      have hq : (Sum.inr _ : Option qV ⊕ (Nat × qL × List qV)) = Sum.inr q := hq
      cases hq
      have v1 := (hL.n (i := 50) (d := 0) (List.mem_cons_of_mem _ (List.mem_cons_of_mem _ (List.mem_cons_of_mem _ (List.mem_cons_of_mem _ (List.mem_cons_of_mem _ List.mem_cons_self))))) hv)
      have ht1 : ρ1.take 45 = ρ0 := by rw [ht1]; exact ht
      rcases Int.lt_or_le v 8 with hlt | hge
      · skip
        refine qs_lnkB (p := 45) (ρ := ρ1) (fa_cons (zSh38 ex (qΓ1 fc) D as tys hT hA hh) (fa_cons (zSh39 ex (qΓ1 fc) D as tys hT hA) fa_nil)) hT hA zSg_b1bN (fa_cons (fun ρ2 ht2 hL hg2 _ => ⟨fun rv hrv => ?r0, fun q hq => ?c0⟩) (fa_cons (fun ρ2 ht2 hL hg2 _ => ⟨fun rv hrv => ?r1, fun q hq => ?c1⟩) fa_nil))
        case r0 =>
          have hrv : (Sum.inr _ : Option qV ⊕ (Nat × qL × List qV)) = Sum.inl rv := hrv
          cases hrv
        case c0 =>
          have hq : (Sum.inr _ : Option qV ⊕ (Nat × qL × List qV)) = Sum.inr q := hq
          cases hq
          have v3 := (hL.n (i := 50) (d := 1) (List.mem_cons_of_mem _ (List.mem_cons_of_mem _ (List.mem_cons_of_mem _ (List.mem_cons_of_mem _ (List.mem_cons_of_mem _ List.mem_cons_self))))) v1)
          exact ih ρ2 (v + 1) (by rw [ht2]; exact ht1) (by rw [v3]; exact congrArg some (by omega)) (by omega) (by omega) (by omega)
        case r1 =>
          have hrv : (Sum.inr _ : Option qV ⊕ (Nat × qL × List qV)) = Sum.inl rv := hrv
          cases hrv
        case c1 =>
          have hq : (Sum.inr _ : Option qV ⊕ (Nat × qL × List qV)) = Sum.inr q := hq
          cases hq
          have v3 := (hL.n (i := 52) (d := 1) (List.mem_cons_of_mem _ (List.mem_cons_of_mem _ List.mem_cons_self)) v1)
          exact zSbF1 hT hA hh hl0 7777 ρ2 (v + 1) (by rw [ht2]; exact ht1) (by rw [v3]; exact congrArg some (by omega)) (by omega) (by omega)
      · have gx := q_tkb ht1 hx
        have gf := q_tkb ht1 hf
        have gn := q_tkb ht1 hn
        refine qy_TP.pre (ρ' := ρ1) (g' := zST_b1s_l_2_2.1) (w' := zST_b1s_l_2_2.2.1) (lo' := zST_b1s_l_2_2.2.2.1) (st' := zST_b1s_l_2_2.2.2.2) ?_ (fun ws h => h) (fun h => h.to0 [(25, 2, 2), (27, 2, 2), (44, -1, 1), (50, 8, 8)] [] (by decide +kernel) rfl (by decide +kernel) (fa_ex gx (Int.le_refl _) (Int.le_refl _) (fa_ex gf (Int.le_refl _) (Int.le_refl _) (fa_ex gn hn1 hn2 (fa_ex v1 (by omega) (by omega) fa_nil)))) fa_nil) (fun _ _ h => h) (fun _ h => h)
        refine qs_lnkB (p := 45) (ρ := ρ1) (fa_cons (zSh51 ex (qΓ1 fc) D as tys hT hA) fa_nil) hT hA zSg_b1l_2_2 (fa_cons (fun ρ2 ht2 hL hg2 _ => ⟨fun rv hrv => ?r0, fun q hq => ?c0⟩) fa_nil)
        case r0 =>
          have hrv : (Sum.inr _ : Option qV ⊕ (Nat × qL × List qV)) = Sum.inl rv := hrv
          cases hrv
        case c0 =>
          have hq : (Sum.inr _ : Option qV ⊕ (Nat × qL × List qV)) = Sum.inr q := hq
          cases hq
          have v3 := (hL.l (i := 52) (z := 9) (List.mem_cons_of_mem _ (List.mem_cons_of_mem _ (List.mem_cons_of_mem _ (List.mem_cons_of_mem _ (List.mem_cons_of_mem _ (List.mem_cons_of_mem _ (List.mem_cons_of_mem _ List.mem_cons_self))))))))
          exact zSbF1 hT hA hh hl0 7777 ρ2 9 (by rw [ht2]; exact ht1) v3 (by omega) (by omega)
theorem zSbN1_2_3 (hT : zk_t) (hA : zk_a) {fc : Nat → Nat → Int32} (hh : qy_V ex (qΓ1 fc) D as tys zSk37) {ρ0 : List Int} (hl0 : ρ0.length = 45) (hx : ρ0[25]? = some (2 : Int)) (hf : ρ0[27]? = some (3 : Int)) {nv : Int} (hn : ρ0[44]? = some nv) (hn1 : -1 ≤ nv) (hn2 : nv ≤ 2) : ∀ (m : Nat) (ρ : List Int) (v : Int), ρ.take 45 = ρ0 → ρ[50]? = some v → 0 ≤ v → v ≤ 26 → 26 - v < (m : Int) → qy_TP ex D as tys 12 189 fc ρ zST_b1HN.1 zST_b1HN.2.1 zST_b1HN.2.2.1 zST_b1HN.2.2.2 13 (zSBP1 fc ρ0) := by
  intro m
  induction m with
  | zero => intro ρ v _ _ _ h1 h2; exfalso; omega
  | succ m ih =>
    intro ρ v ht hv h0 h1 h2
    have gx := q_tkb ht hx
    have gf := q_tkb ht hf
    have gn := q_tkb ht hn
    refine qy_TP.pre (ρ' := ρ) (g' := zST_b1s_h_2_3.1) (w' := zST_b1s_h_2_3.2.1) (lo' := zST_b1s_h_2_3.2.2.1) (st' := zST_b1s_h_2_3.2.2.2) ?_ (fun ws h => h) (fun h => h.to0 [(25, 2, 2), (27, 3, 3), (44, -1, 2), (50, 0, 26)] [] (by decide +kernel) rfl (by decide +kernel) (fa_ex gx (Int.le_refl _) (Int.le_refl _) (fa_ex gf (Int.le_refl _) (Int.le_refl _) (fa_ex gn hn1 hn2 (fa_ex hv (by omega) (by omega) fa_nil)))) fa_nil) (fun _ _ h => h) (fun _ h => h)
    refine qs_lnkB (p := 45) (ρ := ρ) fa_nil hT hA zSg_b1h_2_3 (fa_cons (fun ρ1 ht1 hL hg1 _ => ⟨fun rv hrv => ?r0, fun q hq => ?c0⟩) fa_nil)
    case r0 =>
      have hrv : (Sum.inr _ : Option qV ⊕ (Nat × qL × List qV)) = Sum.inl rv := hrv
      cases hrv
    case c0 =>
      have hq : (Sum.inr _ : Option qV ⊕ (Nat × qL × List qV)) = Sum.inr q := hq
      cases hq
      have v1 := (hL.n (i := 50) (d := 0) (List.mem_cons_of_mem _ (List.mem_cons_of_mem _ (List.mem_cons_of_mem _ (List.mem_cons_of_mem _ (List.mem_cons_of_mem _ List.mem_cons_self))))) hv)
      have ht1 : ρ1.take 45 = ρ0 := by rw [ht1]; exact ht
      rcases Int.lt_or_le v 26 with hlt | hge
      · skip
        refine qs_lnkB (p := 45) (ρ := ρ1) (fa_cons (zSh38 ex (qΓ1 fc) D as tys hT hA hh) (fa_cons (zSh39 ex (qΓ1 fc) D as tys hT hA) fa_nil)) hT hA zSg_b1bN (fa_cons (fun ρ2 ht2 hL hg2 _ => ⟨fun rv hrv => ?r0, fun q hq => ?c0⟩) (fa_cons (fun ρ2 ht2 hL hg2 _ => ⟨fun rv hrv => ?r1, fun q hq => ?c1⟩) fa_nil))
        case r0 =>
          have hrv : (Sum.inr _ : Option qV ⊕ (Nat × qL × List qV)) = Sum.inl rv := hrv
          cases hrv
        case c0 =>
          have hq : (Sum.inr _ : Option qV ⊕ (Nat × qL × List qV)) = Sum.inr q := hq
          cases hq
          have v3 := (hL.n (i := 50) (d := 1) (List.mem_cons_of_mem _ (List.mem_cons_of_mem _ (List.mem_cons_of_mem _ (List.mem_cons_of_mem _ (List.mem_cons_of_mem _ List.mem_cons_self))))) v1)
          exact ih ρ2 (v + 1) (by rw [ht2]; exact ht1) (by rw [v3]; exact congrArg some (by omega)) (by omega) (by omega) (by omega)
        case r1 =>
          have hrv : (Sum.inr _ : Option qV ⊕ (Nat × qL × List qV)) = Sum.inl rv := hrv
          cases hrv
        case c1 =>
          have hq : (Sum.inr _ : Option qV ⊕ (Nat × qL × List qV)) = Sum.inr q := hq
          cases hq
          have v3 := (hL.n (i := 52) (d := 1) (List.mem_cons_of_mem _ (List.mem_cons_of_mem _ List.mem_cons_self)) v1)
          exact zSbF1 hT hA hh hl0 7777 ρ2 (v + 1) (by rw [ht2]; exact ht1) (by rw [v3]; exact congrArg some (by omega)) (by omega) (by omega)
      · have gx := q_tkb ht1 hx
        have gf := q_tkb ht1 hf
        have gn := q_tkb ht1 hn
        refine qy_TP.pre (ρ' := ρ1) (g' := zST_b1s_l_2_3.1) (w' := zST_b1s_l_2_3.2.1) (lo' := zST_b1s_l_2_3.2.2.1) (st' := zST_b1s_l_2_3.2.2.2) ?_ (fun ws h => h) (fun h => h.to0 [(25, 2, 2), (27, 3, 3), (44, -1, 2), (50, 26, 26)] [] (by decide +kernel) rfl (by decide +kernel) (fa_ex gx (Int.le_refl _) (Int.le_refl _) (fa_ex gf (Int.le_refl _) (Int.le_refl _) (fa_ex gn hn1 hn2 (fa_ex v1 (by omega) (by omega) fa_nil)))) fa_nil) (fun _ _ h => h) (fun _ h => h)
        refine qs_lnkB (p := 45) (ρ := ρ1) (fa_cons (zSh52 ex (qΓ1 fc) D as tys hT hA) fa_nil) hT hA zSg_b1l_2_3 (fa_cons (fun ρ2 ht2 hL hg2 _ => ⟨fun rv hrv => ?r0, fun q hq => ?c0⟩) fa_nil)
        case r0 =>
          have hrv : (Sum.inr _ : Option qV ⊕ (Nat × qL × List qV)) = Sum.inl rv := hrv
          cases hrv
        case c0 =>
          have hq : (Sum.inr _ : Option qV ⊕ (Nat × qL × List qV)) = Sum.inr q := hq
          cases hq
          have v3 := (hL.l (i := 52) (z := 27) (List.mem_cons_of_mem _ (List.mem_cons_of_mem _ (List.mem_cons_of_mem _ (List.mem_cons_of_mem _ (List.mem_cons_of_mem _ (List.mem_cons_of_mem _ (List.mem_cons_of_mem _ List.mem_cons_self))))))))
          exact zSbF1 hT hA hh hl0 7777 ρ2 27 (by rw [ht2]; exact ht1) v3 (by omega) (by omega)
theorem zSbN1_2_4 (hT : zk_t) (hA : zk_a) {fc : Nat → Nat → Int32} (hh : qy_V ex (qΓ1 fc) D as tys zSk37) {ρ0 : List Int} (hl0 : ρ0.length = 45) (hx : ρ0[25]? = some (2 : Int)) (hf : ρ0[27]? = some (4 : Int)) {nv : Int} (hn : ρ0[44]? = some nv) (hn1 : -1 ≤ nv) (hn2 : nv ≤ 3) : ∀ (m : Nat) (ρ : List Int) (v : Int), ρ.take 45 = ρ0 → ρ[50]? = some v → 0 ≤ v → v ≤ 80 → 80 - v < (m : Int) → qy_TP ex D as tys 12 189 fc ρ zST_b1HN.1 zST_b1HN.2.1 zST_b1HN.2.2.1 zST_b1HN.2.2.2 13 (zSBP1 fc ρ0) := by
  intro m
  induction m with
  | zero => intro ρ v _ _ _ h1 h2; exfalso; omega
  | succ m ih =>
    intro ρ v ht hv h0 h1 h2
    have gx := q_tkb ht hx
    have gf := q_tkb ht hf
    have gn := q_tkb ht hn
    refine qy_TP.pre (ρ' := ρ) (g' := zST_b1s_h_2_4.1) (w' := zST_b1s_h_2_4.2.1) (lo' := zST_b1s_h_2_4.2.2.1) (st' := zST_b1s_h_2_4.2.2.2) ?_ (fun ws h => h) (fun h => h.to0 [(25, 2, 2), (27, 4, 4), (44, -1, 3), (50, 0, 80)] [] (by decide +kernel) rfl (by decide +kernel) (fa_ex gx (Int.le_refl _) (Int.le_refl _) (fa_ex gf (Int.le_refl _) (Int.le_refl _) (fa_ex gn hn1 hn2 (fa_ex hv (by omega) (by omega) fa_nil)))) fa_nil) (fun _ _ h => h) (fun _ h => h)
    refine qs_lnkB (p := 45) (ρ := ρ) fa_nil hT hA zSg_b1h_2_4 (fa_cons (fun ρ1 ht1 hL hg1 _ => ⟨fun rv hrv => ?r0, fun q hq => ?c0⟩) fa_nil)
    case r0 =>
      have hrv : (Sum.inr _ : Option qV ⊕ (Nat × qL × List qV)) = Sum.inl rv := hrv
      cases hrv
    case c0 =>
      have hq : (Sum.inr _ : Option qV ⊕ (Nat × qL × List qV)) = Sum.inr q := hq
      cases hq
      have v1 := (hL.n (i := 50) (d := 0) (List.mem_cons_of_mem _ (List.mem_cons_of_mem _ (List.mem_cons_of_mem _ (List.mem_cons_of_mem _ (List.mem_cons_of_mem _ List.mem_cons_self))))) hv)
      have ht1 : ρ1.take 45 = ρ0 := by rw [ht1]; exact ht
      rcases Int.lt_or_le v 80 with hlt | hge
      · skip
        refine qs_lnkB (p := 45) (ρ := ρ1) (fa_cons (zSh38 ex (qΓ1 fc) D as tys hT hA hh) (fa_cons (zSh39 ex (qΓ1 fc) D as tys hT hA) fa_nil)) hT hA zSg_b1bN (fa_cons (fun ρ2 ht2 hL hg2 _ => ⟨fun rv hrv => ?r0, fun q hq => ?c0⟩) (fa_cons (fun ρ2 ht2 hL hg2 _ => ⟨fun rv hrv => ?r1, fun q hq => ?c1⟩) fa_nil))
        case r0 =>
          have hrv : (Sum.inr _ : Option qV ⊕ (Nat × qL × List qV)) = Sum.inl rv := hrv
          cases hrv
        case c0 =>
          have hq : (Sum.inr _ : Option qV ⊕ (Nat × qL × List qV)) = Sum.inr q := hq
          cases hq
          have v3 := (hL.n (i := 50) (d := 1) (List.mem_cons_of_mem _ (List.mem_cons_of_mem _ (List.mem_cons_of_mem _ (List.mem_cons_of_mem _ (List.mem_cons_of_mem _ List.mem_cons_self))))) v1)
          exact ih ρ2 (v + 1) (by rw [ht2]; exact ht1) (by rw [v3]; exact congrArg some (by omega)) (by omega) (by omega) (by omega)
        case r1 =>
          have hrv : (Sum.inr _ : Option qV ⊕ (Nat × qL × List qV)) = Sum.inl rv := hrv
          cases hrv
        case c1 =>
          have hq : (Sum.inr _ : Option qV ⊕ (Nat × qL × List qV)) = Sum.inr q := hq
          cases hq
          have v3 := (hL.n (i := 52) (d := 1) (List.mem_cons_of_mem _ (List.mem_cons_of_mem _ List.mem_cons_self)) v1)
          exact zSbF1 hT hA hh hl0 7777 ρ2 (v + 1) (by rw [ht2]; exact ht1) (by rw [v3]; exact congrArg some (by omega)) (by omega) (by omega)
      · have gx := q_tkb ht1 hx
        have gf := q_tkb ht1 hf
        have gn := q_tkb ht1 hn
        refine qy_TP.pre (ρ' := ρ1) (g' := zST_b1s_l_2_4.1) (w' := zST_b1s_l_2_4.2.1) (lo' := zST_b1s_l_2_4.2.2.1) (st' := zST_b1s_l_2_4.2.2.2) ?_ (fun ws h => h) (fun h => h.to0 [(25, 2, 2), (27, 4, 4), (44, -1, 3), (50, 80, 80)] [] (by decide +kernel) rfl (by decide +kernel) (fa_ex gx (Int.le_refl _) (Int.le_refl _) (fa_ex gf (Int.le_refl _) (Int.le_refl _) (fa_ex gn hn1 hn2 (fa_ex v1 (by omega) (by omega) fa_nil)))) fa_nil) (fun _ _ h => h) (fun _ h => h)
        refine qs_lnkB (p := 45) (ρ := ρ1) (fa_cons (zSh53 ex (qΓ1 fc) D as tys hT hA) fa_nil) hT hA zSg_b1l_2_4 (fa_cons (fun ρ2 ht2 hL hg2 _ => ⟨fun rv hrv => ?r0, fun q hq => ?c0⟩) fa_nil)
        case r0 =>
          have hrv : (Sum.inr _ : Option qV ⊕ (Nat × qL × List qV)) = Sum.inl rv := hrv
          cases hrv
        case c0 =>
          have hq : (Sum.inr _ : Option qV ⊕ (Nat × qL × List qV)) = Sum.inr q := hq
          cases hq
          have v3 := (hL.l (i := 52) (z := 81) (List.mem_cons_of_mem _ (List.mem_cons_of_mem _ (List.mem_cons_of_mem _ (List.mem_cons_of_mem _ (List.mem_cons_of_mem _ (List.mem_cons_of_mem _ (List.mem_cons_of_mem _ List.mem_cons_self))))))))
          exact zSbF1 hT hA hh hl0 7777 ρ2 81 (by rw [ht2]; exact ht1) v3 (by omega) (by omega)
theorem zSbN1_2_5 (hT : zk_t) (hA : zk_a) {fc : Nat → Nat → Int32} (hh : qy_V ex (qΓ1 fc) D as tys zSk37) {ρ0 : List Int} (hl0 : ρ0.length = 45) (hx : ρ0[25]? = some (2 : Int)) (hf : ρ0[27]? = some (5 : Int)) {nv : Int} (hn : ρ0[44]? = some nv) (hn1 : -1 ≤ nv) (hn2 : nv ≤ 4) : ∀ (m : Nat) (ρ : List Int) (v : Int), ρ.take 45 = ρ0 → ρ[50]? = some v → 0 ≤ v → v ≤ 242 → 242 - v < (m : Int) → qy_TP ex D as tys 12 189 fc ρ zST_b1HN.1 zST_b1HN.2.1 zST_b1HN.2.2.1 zST_b1HN.2.2.2 13 (zSBP1 fc ρ0) := by
  intro m
  induction m with
  | zero => intro ρ v _ _ _ h1 h2; exfalso; omega
  | succ m ih =>
    intro ρ v ht hv h0 h1 h2
    have gx := q_tkb ht hx
    have gf := q_tkb ht hf
    have gn := q_tkb ht hn
    refine qy_TP.pre (ρ' := ρ) (g' := zST_b1s_h_2_5.1) (w' := zST_b1s_h_2_5.2.1) (lo' := zST_b1s_h_2_5.2.2.1) (st' := zST_b1s_h_2_5.2.2.2) ?_ (fun ws h => h) (fun h => h.to0 [(25, 2, 2), (27, 5, 5), (44, -1, 4), (50, 0, 242)] [] (by decide +kernel) rfl (by decide +kernel) (fa_ex gx (Int.le_refl _) (Int.le_refl _) (fa_ex gf (Int.le_refl _) (Int.le_refl _) (fa_ex gn hn1 hn2 (fa_ex hv (by omega) (by omega) fa_nil)))) fa_nil) (fun _ _ h => h) (fun _ h => h)
    refine qs_lnkB (p := 45) (ρ := ρ) fa_nil hT hA zSg_b1h_2_5 (fa_cons (fun ρ1 ht1 hL hg1 _ => ⟨fun rv hrv => ?r0, fun q hq => ?c0⟩) fa_nil)
    case r0 =>
      have hrv : (Sum.inr _ : Option qV ⊕ (Nat × qL × List qV)) = Sum.inl rv := hrv
      cases hrv
    case c0 =>
      have hq : (Sum.inr _ : Option qV ⊕ (Nat × qL × List qV)) = Sum.inr q := hq
      cases hq
      have v1 := (hL.n (i := 50) (d := 0) (List.mem_cons_of_mem _ (List.mem_cons_of_mem _ (List.mem_cons_of_mem _ (List.mem_cons_of_mem _ (List.mem_cons_of_mem _ List.mem_cons_self))))) hv)
      have ht1 : ρ1.take 45 = ρ0 := by rw [ht1]; exact ht
      rcases Int.lt_or_le v 242 with hlt | hge
      · skip
        refine qs_lnkB (p := 45) (ρ := ρ1) (fa_cons (zSh38 ex (qΓ1 fc) D as tys hT hA hh) (fa_cons (zSh39 ex (qΓ1 fc) D as tys hT hA) fa_nil)) hT hA zSg_b1bN (fa_cons (fun ρ2 ht2 hL hg2 _ => ⟨fun rv hrv => ?r0, fun q hq => ?c0⟩) (fa_cons (fun ρ2 ht2 hL hg2 _ => ⟨fun rv hrv => ?r1, fun q hq => ?c1⟩) fa_nil))
        case r0 =>
          have hrv : (Sum.inr _ : Option qV ⊕ (Nat × qL × List qV)) = Sum.inl rv := hrv
          cases hrv
        case c0 =>
          have hq : (Sum.inr _ : Option qV ⊕ (Nat × qL × List qV)) = Sum.inr q := hq
          cases hq
          have v3 := (hL.n (i := 50) (d := 1) (List.mem_cons_of_mem _ (List.mem_cons_of_mem _ (List.mem_cons_of_mem _ (List.mem_cons_of_mem _ (List.mem_cons_of_mem _ List.mem_cons_self))))) v1)
          exact ih ρ2 (v + 1) (by rw [ht2]; exact ht1) (by rw [v3]; exact congrArg some (by omega)) (by omega) (by omega) (by omega)
        case r1 =>
          have hrv : (Sum.inr _ : Option qV ⊕ (Nat × qL × List qV)) = Sum.inl rv := hrv
          cases hrv
        case c1 =>
          have hq : (Sum.inr _ : Option qV ⊕ (Nat × qL × List qV)) = Sum.inr q := hq
          cases hq
          have v3 := (hL.n (i := 52) (d := 1) (List.mem_cons_of_mem _ (List.mem_cons_of_mem _ List.mem_cons_self)) v1)
          exact zSbF1 hT hA hh hl0 7777 ρ2 (v + 1) (by rw [ht2]; exact ht1) (by rw [v3]; exact congrArg some (by omega)) (by omega) (by omega)
      · have gx := q_tkb ht1 hx
        have gf := q_tkb ht1 hf
        have gn := q_tkb ht1 hn
        refine qy_TP.pre (ρ' := ρ1) (g' := zST_b1s_l_2_5.1) (w' := zST_b1s_l_2_5.2.1) (lo' := zST_b1s_l_2_5.2.2.1) (st' := zST_b1s_l_2_5.2.2.2) ?_ (fun ws h => h) (fun h => h.to0 [(25, 2, 2), (27, 5, 5), (44, -1, 4), (50, 242, 242)] [] (by decide +kernel) rfl (by decide +kernel) (fa_ex gx (Int.le_refl _) (Int.le_refl _) (fa_ex gf (Int.le_refl _) (Int.le_refl _) (fa_ex gn hn1 hn2 (fa_ex v1 (by omega) (by omega) fa_nil)))) fa_nil) (fun _ _ h => h) (fun _ h => h)
        refine qs_lnkB (p := 45) (ρ := ρ1) (fa_cons (zSh54 ex (qΓ1 fc) D as tys hT hA) fa_nil) hT hA zSg_b1l_2_5 (fa_cons (fun ρ2 ht2 hL hg2 _ => ⟨fun rv hrv => ?r0, fun q hq => ?c0⟩) fa_nil)
        case r0 =>
          have hrv : (Sum.inr _ : Option qV ⊕ (Nat × qL × List qV)) = Sum.inl rv := hrv
          cases hrv
        case c0 =>
          have hq : (Sum.inr _ : Option qV ⊕ (Nat × qL × List qV)) = Sum.inr q := hq
          cases hq
          have v3 := (hL.l (i := 52) (z := 243) (List.mem_cons_of_mem _ (List.mem_cons_of_mem _ (List.mem_cons_of_mem _ (List.mem_cons_of_mem _ (List.mem_cons_of_mem _ (List.mem_cons_of_mem _ (List.mem_cons_of_mem _ List.mem_cons_self))))))))
          exact zSbF1 hT hA hh hl0 7777 ρ2 243 (by rw [ht2]; exact ht1) v3 (by omega) (by omega)
theorem zSbN1_3_0 (hT : zk_t) (hA : zk_a) {fc : Nat → Nat → Int32} (hh : qy_V ex (qΓ1 fc) D as tys zSk37) {ρ0 : List Int} (hl0 : ρ0.length = 45) (hx : ρ0[25]? = some (3 : Int)) (hf : ρ0[27]? = some (0 : Int)) {nv : Int} (hn : ρ0[44]? = some nv) (hn1 : -1 ≤ nv) (hn2 : nv ≤ -1) : ∀ (m : Nat) (ρ : List Int) (v : Int), ρ.take 45 = ρ0 → ρ[50]? = some v → 0 ≤ v → v ≤ 0 → 0 - v < (m : Int) → qy_TP ex D as tys 12 189 fc ρ zST_b1HN.1 zST_b1HN.2.1 zST_b1HN.2.2.1 zST_b1HN.2.2.2 13 (zSBP1 fc ρ0) := by
  intro m
  induction m with
  | zero => intro ρ v _ _ _ h1 h2; exfalso; omega
  | succ m ih =>
    intro ρ v ht hv h0 h1 h2
    have gx := q_tkb ht hx
    have gf := q_tkb ht hf
    have gn := q_tkb ht hn
    refine qy_TP.pre (ρ' := ρ) (g' := zST_b1s_h_3_0.1) (w' := zST_b1s_h_3_0.2.1) (lo' := zST_b1s_h_3_0.2.2.1) (st' := zST_b1s_h_3_0.2.2.2) ?_ (fun ws h => h) (fun h => h.to0 [(25, 3, 3), (27, 0, 0), (44, -1, -1), (50, 0, 0)] [] (by decide +kernel) rfl (by decide +kernel) (fa_ex gx (Int.le_refl _) (Int.le_refl _) (fa_ex gf (Int.le_refl _) (Int.le_refl _) (fa_ex gn hn1 hn2 (fa_ex hv (by omega) (by omega) fa_nil)))) fa_nil) (fun _ _ h => h) (fun _ h => h)
    refine qs_lnkB (p := 45) (ρ := ρ) fa_nil hT hA zSg_b1h_3_0 (fa_cons (fun ρ1 ht1 hL hg1 _ => ⟨fun rv hrv => ?r0, fun q hq => ?c0⟩) fa_nil)
    case r0 =>
      have hrv : (Sum.inr _ : Option qV ⊕ (Nat × qL × List qV)) = Sum.inl rv := hrv
      cases hrv
    case c0 =>
      have hq : (Sum.inr _ : Option qV ⊕ (Nat × qL × List qV)) = Sum.inr q := hq
      cases hq
      have v1 := (hL.n (i := 50) (d := 0) (List.mem_cons_of_mem _ (List.mem_cons_of_mem _ (List.mem_cons_of_mem _ (List.mem_cons_of_mem _ (List.mem_cons_of_mem _ List.mem_cons_self))))) hv)
      have ht1 : ρ1.take 45 = ρ0 := by rw [ht1]; exact ht
      rcases Int.lt_or_le v 0 with hlt | hge
      · skip
        refine qs_lnkB (p := 45) (ρ := ρ1) (fa_cons (zSh38 ex (qΓ1 fc) D as tys hT hA hh) (fa_cons (zSh39 ex (qΓ1 fc) D as tys hT hA) fa_nil)) hT hA zSg_b1bN (fa_cons (fun ρ2 ht2 hL hg2 _ => ⟨fun rv hrv => ?r0, fun q hq => ?c0⟩) (fa_cons (fun ρ2 ht2 hL hg2 _ => ⟨fun rv hrv => ?r1, fun q hq => ?c1⟩) fa_nil))
        case r0 =>
          have hrv : (Sum.inr _ : Option qV ⊕ (Nat × qL × List qV)) = Sum.inl rv := hrv
          cases hrv
        case c0 =>
          have hq : (Sum.inr _ : Option qV ⊕ (Nat × qL × List qV)) = Sum.inr q := hq
          cases hq
          have v3 := (hL.n (i := 50) (d := 1) (List.mem_cons_of_mem _ (List.mem_cons_of_mem _ (List.mem_cons_of_mem _ (List.mem_cons_of_mem _ (List.mem_cons_of_mem _ List.mem_cons_self))))) v1)
          exact ih ρ2 (v + 1) (by rw [ht2]; exact ht1) (by rw [v3]; exact congrArg some (by omega)) (by omega) (by omega) (by omega)
        case r1 =>
          have hrv : (Sum.inr _ : Option qV ⊕ (Nat × qL × List qV)) = Sum.inl rv := hrv
          cases hrv
        case c1 =>
          have hq : (Sum.inr _ : Option qV ⊕ (Nat × qL × List qV)) = Sum.inr q := hq
          cases hq
          have v3 := (hL.n (i := 52) (d := 1) (List.mem_cons_of_mem _ (List.mem_cons_of_mem _ List.mem_cons_self)) v1)
          exact zSbF1 hT hA hh hl0 7777 ρ2 (v + 1) (by rw [ht2]; exact ht1) (by rw [v3]; exact congrArg some (by omega)) (by omega) (by omega)
      · have gx := q_tkb ht1 hx
        have gf := q_tkb ht1 hf
        have gn := q_tkb ht1 hn
        refine qy_TP.pre (ρ' := ρ1) (g' := zST_b1s_h_3_0.1) (w' := zST_b1s_h_3_0.2.1) (lo' := zST_b1s_h_3_0.2.2.1) (st' := zST_b1s_h_3_0.2.2.2) ?_ (fun ws h => h) (fun h => h.to0 [(25, 3, 3), (27, 0, 0), (44, -1, -1), (50, 0, 0)] [] (by decide +kernel) rfl (by decide +kernel) (fa_ex gx (Int.le_refl _) (Int.le_refl _) (fa_ex gf (Int.le_refl _) (Int.le_refl _) (fa_ex gn hn1 hn2 (fa_ex v1 (by omega) (by omega) fa_nil)))) fa_nil) (fun _ _ h => h) (fun _ h => h)
        refine qs_lnkB (p := 45) (ρ := ρ1) fa_nil hT hA zSg_b1l_3_0 (fa_cons (fun ρ2 ht2 hL hg2 _ => ⟨fun rv hrv => ?r0, fun q hq => ?c0⟩) fa_nil)
        case r0 =>
          have hrv : (Sum.inr _ : Option qV ⊕ (Nat × qL × List qV)) = Sum.inl rv := hrv
          cases hrv
        case c0 =>
          have hq : (Sum.inr _ : Option qV ⊕ (Nat × qL × List qV)) = Sum.inr q := hq
          cases hq
          have v3 := (hL.l (i := 52) (z := 1) (List.mem_cons_of_mem _ (List.mem_cons_of_mem _ (List.mem_cons_of_mem _ (List.mem_cons_of_mem _ (List.mem_cons_of_mem _ (List.mem_cons_of_mem _ (List.mem_cons_of_mem _ List.mem_cons_self))))))))
          exact zSbF1 hT hA hh hl0 7777 ρ2 1 (by rw [ht2]; exact ht1) v3 (by omega) (by omega)
theorem zSbN1_3_1 (hT : zk_t) (hA : zk_a) {fc : Nat → Nat → Int32} (hh : qy_V ex (qΓ1 fc) D as tys zSk37) {ρ0 : List Int} (hl0 : ρ0.length = 45) (hx : ρ0[25]? = some (3 : Int)) (hf : ρ0[27]? = some (1 : Int)) {nv : Int} (hn : ρ0[44]? = some nv) (hn1 : -1 ≤ nv) (hn2 : nv ≤ 0) : ∀ (m : Nat) (ρ : List Int) (v : Int), ρ.take 45 = ρ0 → ρ[50]? = some v → 0 ≤ v → v ≤ 3 → 3 - v < (m : Int) → qy_TP ex D as tys 12 189 fc ρ zST_b1HN.1 zST_b1HN.2.1 zST_b1HN.2.2.1 zST_b1HN.2.2.2 13 (zSBP1 fc ρ0) := by
  intro m
  induction m with
  | zero => intro ρ v _ _ _ h1 h2; exfalso; omega
  | succ m ih =>
    intro ρ v ht hv h0 h1 h2
    have gx := q_tkb ht hx
    have gf := q_tkb ht hf
    have gn := q_tkb ht hn
    refine qy_TP.pre (ρ' := ρ) (g' := zST_b1s_h_3_1.1) (w' := zST_b1s_h_3_1.2.1) (lo' := zST_b1s_h_3_1.2.2.1) (st' := zST_b1s_h_3_1.2.2.2) ?_ (fun ws h => h) (fun h => h.to0 [(25, 3, 3), (27, 1, 1), (44, -1, 0), (50, 0, 3)] [] (by decide +kernel) rfl (by decide +kernel) (fa_ex gx (Int.le_refl _) (Int.le_refl _) (fa_ex gf (Int.le_refl _) (Int.le_refl _) (fa_ex gn hn1 hn2 (fa_ex hv (by omega) (by omega) fa_nil)))) fa_nil) (fun _ _ h => h) (fun _ h => h)
    refine qs_lnkB (p := 45) (ρ := ρ) fa_nil hT hA zSg_b1h_3_1 (fa_cons (fun ρ1 ht1 hL hg1 _ => ⟨fun rv hrv => ?r0, fun q hq => ?c0⟩) fa_nil)
    case r0 =>
      have hrv : (Sum.inr _ : Option qV ⊕ (Nat × qL × List qV)) = Sum.inl rv := hrv
      cases hrv
    case c0 =>
      have hq : (Sum.inr _ : Option qV ⊕ (Nat × qL × List qV)) = Sum.inr q := hq
      cases hq
      have v1 := (hL.n (i := 50) (d := 0) (List.mem_cons_of_mem _ (List.mem_cons_of_mem _ (List.mem_cons_of_mem _ (List.mem_cons_of_mem _ (List.mem_cons_of_mem _ List.mem_cons_self))))) hv)
      have ht1 : ρ1.take 45 = ρ0 := by rw [ht1]; exact ht
      rcases Int.lt_or_le v 3 with hlt | hge
      · skip
        refine qs_lnkB (p := 45) (ρ := ρ1) (fa_cons (zSh38 ex (qΓ1 fc) D as tys hT hA hh) (fa_cons (zSh39 ex (qΓ1 fc) D as tys hT hA) fa_nil)) hT hA zSg_b1bN (fa_cons (fun ρ2 ht2 hL hg2 _ => ⟨fun rv hrv => ?r0, fun q hq => ?c0⟩) (fa_cons (fun ρ2 ht2 hL hg2 _ => ⟨fun rv hrv => ?r1, fun q hq => ?c1⟩) fa_nil))
        case r0 =>
          have hrv : (Sum.inr _ : Option qV ⊕ (Nat × qL × List qV)) = Sum.inl rv := hrv
          cases hrv
        case c0 =>
          have hq : (Sum.inr _ : Option qV ⊕ (Nat × qL × List qV)) = Sum.inr q := hq
          cases hq
          have v3 := (hL.n (i := 50) (d := 1) (List.mem_cons_of_mem _ (List.mem_cons_of_mem _ (List.mem_cons_of_mem _ (List.mem_cons_of_mem _ (List.mem_cons_of_mem _ List.mem_cons_self))))) v1)
          exact ih ρ2 (v + 1) (by rw [ht2]; exact ht1) (by rw [v3]; exact congrArg some (by omega)) (by omega) (by omega) (by omega)
        case r1 =>
          have hrv : (Sum.inr _ : Option qV ⊕ (Nat × qL × List qV)) = Sum.inl rv := hrv
          cases hrv
        case c1 =>
          have hq : (Sum.inr _ : Option qV ⊕ (Nat × qL × List qV)) = Sum.inr q := hq
          cases hq
          have v3 := (hL.n (i := 52) (d := 1) (List.mem_cons_of_mem _ (List.mem_cons_of_mem _ List.mem_cons_self)) v1)
          exact zSbF1 hT hA hh hl0 7777 ρ2 (v + 1) (by rw [ht2]; exact ht1) (by rw [v3]; exact congrArg some (by omega)) (by omega) (by omega)
      · have gx := q_tkb ht1 hx
        have gf := q_tkb ht1 hf
        have gn := q_tkb ht1 hn
        refine qy_TP.pre (ρ' := ρ1) (g' := zST_b1s_l_3_1.1) (w' := zST_b1s_l_3_1.2.1) (lo' := zST_b1s_l_3_1.2.2.1) (st' := zST_b1s_l_3_1.2.2.2) ?_ (fun ws h => h) (fun h => h.to0 [(25, 3, 3), (27, 1, 1), (44, -1, 0), (50, 3, 3)] [] (by decide +kernel) rfl (by decide +kernel) (fa_ex gx (Int.le_refl _) (Int.le_refl _) (fa_ex gf (Int.le_refl _) (Int.le_refl _) (fa_ex gn hn1 hn2 (fa_ex v1 (by omega) (by omega) fa_nil)))) fa_nil) (fun _ _ h => h) (fun _ h => h)
        refine qs_lnkB (p := 45) (ρ := ρ1) (fa_cons (zSh55 ex (qΓ1 fc) D as tys hT hA) fa_nil) hT hA zSg_b1l_3_1 (fa_cons (fun ρ2 ht2 hL hg2 _ => ⟨fun rv hrv => ?r0, fun q hq => ?c0⟩) fa_nil)
        case r0 =>
          have hrv : (Sum.inr _ : Option qV ⊕ (Nat × qL × List qV)) = Sum.inl rv := hrv
          cases hrv
        case c0 =>
          have hq : (Sum.inr _ : Option qV ⊕ (Nat × qL × List qV)) = Sum.inr q := hq
          cases hq
          have v3 := (hL.l (i := 52) (z := 4) (List.mem_cons_of_mem _ (List.mem_cons_of_mem _ (List.mem_cons_of_mem _ (List.mem_cons_of_mem _ (List.mem_cons_of_mem _ (List.mem_cons_of_mem _ (List.mem_cons_of_mem _ List.mem_cons_self))))))))
          exact zSbF1 hT hA hh hl0 7777 ρ2 4 (by rw [ht2]; exact ht1) v3 (by omega) (by omega)
theorem zSbN1_3_2 (hT : zk_t) (hA : zk_a) {fc : Nat → Nat → Int32} (hh : qy_V ex (qΓ1 fc) D as tys zSk37) {ρ0 : List Int} (hl0 : ρ0.length = 45) (hx : ρ0[25]? = some (3 : Int)) (hf : ρ0[27]? = some (2 : Int)) {nv : Int} (hn : ρ0[44]? = some nv) (hn1 : -1 ≤ nv) (hn2 : nv ≤ 1) : ∀ (m : Nat) (ρ : List Int) (v : Int), ρ.take 45 = ρ0 → ρ[50]? = some v → 0 ≤ v → v ≤ 15 → 15 - v < (m : Int) → qy_TP ex D as tys 12 189 fc ρ zST_b1HN.1 zST_b1HN.2.1 zST_b1HN.2.2.1 zST_b1HN.2.2.2 13 (zSBP1 fc ρ0) := by
  intro m
  induction m with
  | zero => intro ρ v _ _ _ h1 h2; exfalso; omega
  | succ m ih =>
    intro ρ v ht hv h0 h1 h2
    have gx := q_tkb ht hx
    have gf := q_tkb ht hf
    have gn := q_tkb ht hn
    refine qy_TP.pre (ρ' := ρ) (g' := zST_b1s_h_3_2.1) (w' := zST_b1s_h_3_2.2.1) (lo' := zST_b1s_h_3_2.2.2.1) (st' := zST_b1s_h_3_2.2.2.2) ?_ (fun ws h => h) (fun h => h.to0 [(25, 3, 3), (27, 2, 2), (44, -1, 1), (50, 0, 15)] [] (by decide +kernel) rfl (by decide +kernel) (fa_ex gx (Int.le_refl _) (Int.le_refl _) (fa_ex gf (Int.le_refl _) (Int.le_refl _) (fa_ex gn hn1 hn2 (fa_ex hv (by omega) (by omega) fa_nil)))) fa_nil) (fun _ _ h => h) (fun _ h => h)
    refine qs_lnkB (p := 45) (ρ := ρ) fa_nil hT hA zSg_b1h_3_2 (fa_cons (fun ρ1 ht1 hL hg1 _ => ⟨fun rv hrv => ?r0, fun q hq => ?c0⟩) fa_nil)
    case r0 =>
      have hrv : (Sum.inr _ : Option qV ⊕ (Nat × qL × List qV)) = Sum.inl rv := hrv
      cases hrv
    case c0 =>
      have hq : (Sum.inr _ : Option qV ⊕ (Nat × qL × List qV)) = Sum.inr q := hq
      cases hq
      have v1 := (hL.n (i := 50) (d := 0) (List.mem_cons_of_mem _ (List.mem_cons_of_mem _ (List.mem_cons_of_mem _ (List.mem_cons_of_mem _ (List.mem_cons_of_mem _ List.mem_cons_self))))) hv)
      have ht1 : ρ1.take 45 = ρ0 := by rw [ht1]; exact ht
      rcases Int.lt_or_le v 15 with hlt | hge
      · skip
        refine qs_lnkB (p := 45) (ρ := ρ1) (fa_cons (zSh38 ex (qΓ1 fc) D as tys hT hA hh) (fa_cons (zSh39 ex (qΓ1 fc) D as tys hT hA) fa_nil)) hT hA zSg_b1bN (fa_cons (fun ρ2 ht2 hL hg2 _ => ⟨fun rv hrv => ?r0, fun q hq => ?c0⟩) (fa_cons (fun ρ2 ht2 hL hg2 _ => ⟨fun rv hrv => ?r1, fun q hq => ?c1⟩) fa_nil))
        case r0 =>
          have hrv : (Sum.inr _ : Option qV ⊕ (Nat × qL × List qV)) = Sum.inl rv := hrv
          cases hrv
        case c0 =>
          have hq : (Sum.inr _ : Option qV ⊕ (Nat × qL × List qV)) = Sum.inr q := hq
          cases hq
          have v3 := (hL.n (i := 50) (d := 1) (List.mem_cons_of_mem _ (List.mem_cons_of_mem _ (List.mem_cons_of_mem _ (List.mem_cons_of_mem _ (List.mem_cons_of_mem _ List.mem_cons_self))))) v1)
          exact ih ρ2 (v + 1) (by rw [ht2]; exact ht1) (by rw [v3]; exact congrArg some (by omega)) (by omega) (by omega) (by omega)
        case r1 =>
          have hrv : (Sum.inr _ : Option qV ⊕ (Nat × qL × List qV)) = Sum.inl rv := hrv
          cases hrv
        case c1 =>
          have hq : (Sum.inr _ : Option qV ⊕ (Nat × qL × List qV)) = Sum.inr q := hq
          cases hq
          have v3 := (hL.n (i := 52) (d := 1) (List.mem_cons_of_mem _ (List.mem_cons_of_mem _ List.mem_cons_self)) v1)
          exact zSbF1 hT hA hh hl0 7777 ρ2 (v + 1) (by rw [ht2]; exact ht1) (by rw [v3]; exact congrArg some (by omega)) (by omega) (by omega)
      · have gx := q_tkb ht1 hx
        have gf := q_tkb ht1 hf
        have gn := q_tkb ht1 hn
        refine qy_TP.pre (ρ' := ρ1) (g' := zST_b1s_l_3_2.1) (w' := zST_b1s_l_3_2.2.1) (lo' := zST_b1s_l_3_2.2.2.1) (st' := zST_b1s_l_3_2.2.2.2) ?_ (fun ws h => h) (fun h => h.to0 [(25, 3, 3), (27, 2, 2), (44, -1, 1), (50, 15, 15)] [] (by decide +kernel) rfl (by decide +kernel) (fa_ex gx (Int.le_refl _) (Int.le_refl _) (fa_ex gf (Int.le_refl _) (Int.le_refl _) (fa_ex gn hn1 hn2 (fa_ex v1 (by omega) (by omega) fa_nil)))) fa_nil) (fun _ _ h => h) (fun _ h => h)
        refine qs_lnkB (p := 45) (ρ := ρ1) (fa_cons (zSh56 ex (qΓ1 fc) D as tys hT hA) fa_nil) hT hA zSg_b1l_3_2 (fa_cons (fun ρ2 ht2 hL hg2 _ => ⟨fun rv hrv => ?r0, fun q hq => ?c0⟩) fa_nil)
        case r0 =>
          have hrv : (Sum.inr _ : Option qV ⊕ (Nat × qL × List qV)) = Sum.inl rv := hrv
          cases hrv
        case c0 =>
          have hq : (Sum.inr _ : Option qV ⊕ (Nat × qL × List qV)) = Sum.inr q := hq
          cases hq
          have v3 := (hL.l (i := 52) (z := 16) (List.mem_cons_of_mem _ (List.mem_cons_of_mem _ (List.mem_cons_of_mem _ (List.mem_cons_of_mem _ (List.mem_cons_of_mem _ (List.mem_cons_of_mem _ (List.mem_cons_of_mem _ List.mem_cons_self))))))))
          exact zSbF1 hT hA hh hl0 7777 ρ2 16 (by rw [ht2]; exact ht1) v3 (by omega) (by omega)
theorem zSbN1_3_3 (hT : zk_t) (hA : zk_a) {fc : Nat → Nat → Int32} (hh : qy_V ex (qΓ1 fc) D as tys zSk37) {ρ0 : List Int} (hl0 : ρ0.length = 45) (hx : ρ0[25]? = some (3 : Int)) (hf : ρ0[27]? = some (3 : Int)) {nv : Int} (hn : ρ0[44]? = some nv) (hn1 : -1 ≤ nv) (hn2 : nv ≤ 2) : ∀ (m : Nat) (ρ : List Int) (v : Int), ρ.take 45 = ρ0 → ρ[50]? = some v → 0 ≤ v → v ≤ 63 → 63 - v < (m : Int) → qy_TP ex D as tys 12 189 fc ρ zST_b1HN.1 zST_b1HN.2.1 zST_b1HN.2.2.1 zST_b1HN.2.2.2 13 (zSBP1 fc ρ0) := by
  intro m
  induction m with
  | zero => intro ρ v _ _ _ h1 h2; exfalso; omega
  | succ m ih =>
    intro ρ v ht hv h0 h1 h2
    have gx := q_tkb ht hx
    have gf := q_tkb ht hf
    have gn := q_tkb ht hn
    refine qy_TP.pre (ρ' := ρ) (g' := zST_b1s_h_3_3.1) (w' := zST_b1s_h_3_3.2.1) (lo' := zST_b1s_h_3_3.2.2.1) (st' := zST_b1s_h_3_3.2.2.2) ?_ (fun ws h => h) (fun h => h.to0 [(25, 3, 3), (27, 3, 3), (44, -1, 2), (50, 0, 63)] [] (by decide +kernel) rfl (by decide +kernel) (fa_ex gx (Int.le_refl _) (Int.le_refl _) (fa_ex gf (Int.le_refl _) (Int.le_refl _) (fa_ex gn hn1 hn2 (fa_ex hv (by omega) (by omega) fa_nil)))) fa_nil) (fun _ _ h => h) (fun _ h => h)
    refine qs_lnkB (p := 45) (ρ := ρ) fa_nil hT hA zSg_b1h_3_3 (fa_cons (fun ρ1 ht1 hL hg1 _ => ⟨fun rv hrv => ?r0, fun q hq => ?c0⟩) fa_nil)
    case r0 =>
      have hrv : (Sum.inr _ : Option qV ⊕ (Nat × qL × List qV)) = Sum.inl rv := hrv
      cases hrv
    case c0 =>
      have hq : (Sum.inr _ : Option qV ⊕ (Nat × qL × List qV)) = Sum.inr q := hq
      cases hq
      have v1 := (hL.n (i := 50) (d := 0) (List.mem_cons_of_mem _ (List.mem_cons_of_mem _ (List.mem_cons_of_mem _ (List.mem_cons_of_mem _ (List.mem_cons_of_mem _ List.mem_cons_self))))) hv)
      have ht1 : ρ1.take 45 = ρ0 := by rw [ht1]; exact ht
      rcases Int.lt_or_le v 63 with hlt | hge
      · skip
        refine qs_lnkB (p := 45) (ρ := ρ1) (fa_cons (zSh38 ex (qΓ1 fc) D as tys hT hA hh) (fa_cons (zSh39 ex (qΓ1 fc) D as tys hT hA) fa_nil)) hT hA zSg_b1bN (fa_cons (fun ρ2 ht2 hL hg2 _ => ⟨fun rv hrv => ?r0, fun q hq => ?c0⟩) (fa_cons (fun ρ2 ht2 hL hg2 _ => ⟨fun rv hrv => ?r1, fun q hq => ?c1⟩) fa_nil))
        case r0 =>
          have hrv : (Sum.inr _ : Option qV ⊕ (Nat × qL × List qV)) = Sum.inl rv := hrv
          cases hrv
        case c0 =>
          have hq : (Sum.inr _ : Option qV ⊕ (Nat × qL × List qV)) = Sum.inr q := hq
          cases hq
          have v3 := (hL.n (i := 50) (d := 1) (List.mem_cons_of_mem _ (List.mem_cons_of_mem _ (List.mem_cons_of_mem _ (List.mem_cons_of_mem _ (List.mem_cons_of_mem _ List.mem_cons_self))))) v1)
          exact ih ρ2 (v + 1) (by rw [ht2]; exact ht1) (by rw [v3]; exact congrArg some (by omega)) (by omega) (by omega) (by omega)
        case r1 =>
          have hrv : (Sum.inr _ : Option qV ⊕ (Nat × qL × List qV)) = Sum.inl rv := hrv
          cases hrv
        case c1 =>
          have hq : (Sum.inr _ : Option qV ⊕ (Nat × qL × List qV)) = Sum.inr q := hq
          cases hq
          have v3 := (hL.n (i := 52) (d := 1) (List.mem_cons_of_mem _ (List.mem_cons_of_mem _ List.mem_cons_self)) v1)
          exact zSbF1 hT hA hh hl0 7777 ρ2 (v + 1) (by rw [ht2]; exact ht1) (by rw [v3]; exact congrArg some (by omega)) (by omega) (by omega)
      · have gx := q_tkb ht1 hx
        have gf := q_tkb ht1 hf
        have gn := q_tkb ht1 hn
        refine qy_TP.pre (ρ' := ρ1) (g' := zST_b1s_l_3_3.1) (w' := zST_b1s_l_3_3.2.1) (lo' := zST_b1s_l_3_3.2.2.1) (st' := zST_b1s_l_3_3.2.2.2) ?_ (fun ws h => h) (fun h => h.to0 [(25, 3, 3), (27, 3, 3), (44, -1, 2), (50, 63, 63)] [] (by decide +kernel) rfl (by decide +kernel) (fa_ex gx (Int.le_refl _) (Int.le_refl _) (fa_ex gf (Int.le_refl _) (Int.le_refl _) (fa_ex gn hn1 hn2 (fa_ex v1 (by omega) (by omega) fa_nil)))) fa_nil) (fun _ _ h => h) (fun _ h => h)
        refine qs_lnkB (p := 45) (ρ := ρ1) (fa_cons (zSh57 ex (qΓ1 fc) D as tys hT hA) fa_nil) hT hA zSg_b1l_3_3 (fa_cons (fun ρ2 ht2 hL hg2 _ => ⟨fun rv hrv => ?r0, fun q hq => ?c0⟩) fa_nil)
        case r0 =>
          have hrv : (Sum.inr _ : Option qV ⊕ (Nat × qL × List qV)) = Sum.inl rv := hrv
          cases hrv
        case c0 =>
          have hq : (Sum.inr _ : Option qV ⊕ (Nat × qL × List qV)) = Sum.inr q := hq
          cases hq
          have v3 := (hL.l (i := 52) (z := 64) (List.mem_cons_of_mem _ (List.mem_cons_of_mem _ (List.mem_cons_of_mem _ (List.mem_cons_of_mem _ (List.mem_cons_of_mem _ (List.mem_cons_of_mem _ (List.mem_cons_of_mem _ List.mem_cons_self))))))))
          exact zSbF1 hT hA hh hl0 7777 ρ2 64 (by rw [ht2]; exact ht1) v3 (by omega) (by omega)
theorem zSbN1_3_4 (hT : zk_t) (hA : zk_a) {fc : Nat → Nat → Int32} (hh : qy_V ex (qΓ1 fc) D as tys zSk37) {ρ0 : List Int} (hl0 : ρ0.length = 45) (hx : ρ0[25]? = some (3 : Int)) (hf : ρ0[27]? = some (4 : Int)) {nv : Int} (hn : ρ0[44]? = some nv) (hn1 : -1 ≤ nv) (hn2 : nv ≤ 3) : ∀ (m : Nat) (ρ : List Int) (v : Int), ρ.take 45 = ρ0 → ρ[50]? = some v → 0 ≤ v → v ≤ 255 → 255 - v < (m : Int) → qy_TP ex D as tys 12 189 fc ρ zST_b1HN.1 zST_b1HN.2.1 zST_b1HN.2.2.1 zST_b1HN.2.2.2 13 (zSBP1 fc ρ0) := by
  intro m
  induction m with
  | zero => intro ρ v _ _ _ h1 h2; exfalso; omega
  | succ m ih =>
    intro ρ v ht hv h0 h1 h2
    have gx := q_tkb ht hx
    have gf := q_tkb ht hf
    have gn := q_tkb ht hn
    refine qy_TP.pre (ρ' := ρ) (g' := zST_b1s_h_3_4.1) (w' := zST_b1s_h_3_4.2.1) (lo' := zST_b1s_h_3_4.2.2.1) (st' := zST_b1s_h_3_4.2.2.2) ?_ (fun ws h => h) (fun h => h.to0 [(25, 3, 3), (27, 4, 4), (44, -1, 3), (50, 0, 255)] [] (by decide +kernel) rfl (by decide +kernel) (fa_ex gx (Int.le_refl _) (Int.le_refl _) (fa_ex gf (Int.le_refl _) (Int.le_refl _) (fa_ex gn hn1 hn2 (fa_ex hv (by omega) (by omega) fa_nil)))) fa_nil) (fun _ _ h => h) (fun _ h => h)
    refine qs_lnkB (p := 45) (ρ := ρ) fa_nil hT hA zSg_b1h_3_4 (fa_cons (fun ρ1 ht1 hL hg1 _ => ⟨fun rv hrv => ?r0, fun q hq => ?c0⟩) fa_nil)
    case r0 =>
      have hrv : (Sum.inr _ : Option qV ⊕ (Nat × qL × List qV)) = Sum.inl rv := hrv
      cases hrv
    case c0 =>
      have hq : (Sum.inr _ : Option qV ⊕ (Nat × qL × List qV)) = Sum.inr q := hq
      cases hq
      have v1 := (hL.n (i := 50) (d := 0) (List.mem_cons_of_mem _ (List.mem_cons_of_mem _ (List.mem_cons_of_mem _ (List.mem_cons_of_mem _ (List.mem_cons_of_mem _ List.mem_cons_self))))) hv)
      have ht1 : ρ1.take 45 = ρ0 := by rw [ht1]; exact ht
      rcases Int.lt_or_le v 255 with hlt | hge
      · skip
        refine qs_lnkB (p := 45) (ρ := ρ1) (fa_cons (zSh38 ex (qΓ1 fc) D as tys hT hA hh) (fa_cons (zSh39 ex (qΓ1 fc) D as tys hT hA) fa_nil)) hT hA zSg_b1bN (fa_cons (fun ρ2 ht2 hL hg2 _ => ⟨fun rv hrv => ?r0, fun q hq => ?c0⟩) (fa_cons (fun ρ2 ht2 hL hg2 _ => ⟨fun rv hrv => ?r1, fun q hq => ?c1⟩) fa_nil))
        case r0 =>
          have hrv : (Sum.inr _ : Option qV ⊕ (Nat × qL × List qV)) = Sum.inl rv := hrv
          cases hrv
        case c0 =>
          have hq : (Sum.inr _ : Option qV ⊕ (Nat × qL × List qV)) = Sum.inr q := hq
          cases hq
          have v3 := (hL.n (i := 50) (d := 1) (List.mem_cons_of_mem _ (List.mem_cons_of_mem _ (List.mem_cons_of_mem _ (List.mem_cons_of_mem _ (List.mem_cons_of_mem _ List.mem_cons_self))))) v1)
          exact ih ρ2 (v + 1) (by rw [ht2]; exact ht1) (by rw [v3]; exact congrArg some (by omega)) (by omega) (by omega) (by omega)
        case r1 =>
          have hrv : (Sum.inr _ : Option qV ⊕ (Nat × qL × List qV)) = Sum.inl rv := hrv
          cases hrv
        case c1 =>
          have hq : (Sum.inr _ : Option qV ⊕ (Nat × qL × List qV)) = Sum.inr q := hq
          cases hq
          have v3 := (hL.n (i := 52) (d := 1) (List.mem_cons_of_mem _ (List.mem_cons_of_mem _ List.mem_cons_self)) v1)
          exact zSbF1 hT hA hh hl0 7777 ρ2 (v + 1) (by rw [ht2]; exact ht1) (by rw [v3]; exact congrArg some (by omega)) (by omega) (by omega)
      · have gx := q_tkb ht1 hx
        have gf := q_tkb ht1 hf
        have gn := q_tkb ht1 hn
        refine qy_TP.pre (ρ' := ρ1) (g' := zST_b1s_l_3_4.1) (w' := zST_b1s_l_3_4.2.1) (lo' := zST_b1s_l_3_4.2.2.1) (st' := zST_b1s_l_3_4.2.2.2) ?_ (fun ws h => h) (fun h => h.to0 [(25, 3, 3), (27, 4, 4), (44, -1, 3), (50, 255, 255)] [] (by decide +kernel) rfl (by decide +kernel) (fa_ex gx (Int.le_refl _) (Int.le_refl _) (fa_ex gf (Int.le_refl _) (Int.le_refl _) (fa_ex gn hn1 hn2 (fa_ex v1 (by omega) (by omega) fa_nil)))) fa_nil) (fun _ _ h => h) (fun _ h => h)
        refine qs_lnkB (p := 45) (ρ := ρ1) (fa_cons (zSh58 ex (qΓ1 fc) D as tys hT hA) fa_nil) hT hA zSg_b1l_3_4 (fa_cons (fun ρ2 ht2 hL hg2 _ => ⟨fun rv hrv => ?r0, fun q hq => ?c0⟩) fa_nil)
        case r0 =>
          have hrv : (Sum.inr _ : Option qV ⊕ (Nat × qL × List qV)) = Sum.inl rv := hrv
          cases hrv
        case c0 =>
          have hq : (Sum.inr _ : Option qV ⊕ (Nat × qL × List qV)) = Sum.inr q := hq
          cases hq
          have v3 := (hL.l (i := 52) (z := 256) (List.mem_cons_of_mem _ (List.mem_cons_of_mem _ (List.mem_cons_of_mem _ (List.mem_cons_of_mem _ (List.mem_cons_of_mem _ (List.mem_cons_of_mem _ (List.mem_cons_of_mem _ List.mem_cons_self))))))))
          exact zSbF1 hT hA hh hl0 7777 ρ2 256 (by rw [ht2]; exact ht1) v3 (by omega) (by omega)
theorem zSbN1_3_5 (hT : zk_t) (hA : zk_a) {fc : Nat → Nat → Int32} (hh : qy_V ex (qΓ1 fc) D as tys zSk37) {ρ0 : List Int} (hl0 : ρ0.length = 45) (hx : ρ0[25]? = some (3 : Int)) (hf : ρ0[27]? = some (5 : Int)) {nv : Int} (hn : ρ0[44]? = some nv) (hn1 : -1 ≤ nv) (hn2 : nv ≤ 4) : ∀ (m : Nat) (ρ : List Int) (v : Int), ρ.take 45 = ρ0 → ρ[50]? = some v → 0 ≤ v → v ≤ 1023 → 1023 - v < (m : Int) → qy_TP ex D as tys 12 189 fc ρ zST_b1HN.1 zST_b1HN.2.1 zST_b1HN.2.2.1 zST_b1HN.2.2.2 13 (zSBP1 fc ρ0) := by
  intro m
  induction m with
  | zero => intro ρ v _ _ _ h1 h2; exfalso; omega
  | succ m ih =>
    intro ρ v ht hv h0 h1 h2
    have gx := q_tkb ht hx
    have gf := q_tkb ht hf
    have gn := q_tkb ht hn
    refine qy_TP.pre (ρ' := ρ) (g' := zST_b1s_h_3_5.1) (w' := zST_b1s_h_3_5.2.1) (lo' := zST_b1s_h_3_5.2.2.1) (st' := zST_b1s_h_3_5.2.2.2) ?_ (fun ws h => h) (fun h => h.to0 [(25, 3, 3), (27, 5, 5), (44, -1, 4), (50, 0, 1023)] [] (by decide +kernel) rfl (by decide +kernel) (fa_ex gx (Int.le_refl _) (Int.le_refl _) (fa_ex gf (Int.le_refl _) (Int.le_refl _) (fa_ex gn hn1 hn2 (fa_ex hv (by omega) (by omega) fa_nil)))) fa_nil) (fun _ _ h => h) (fun _ h => h)
    refine qs_lnkB (p := 45) (ρ := ρ) fa_nil hT hA zSg_b1h_3_5 (fa_cons (fun ρ1 ht1 hL hg1 _ => ⟨fun rv hrv => ?r0, fun q hq => ?c0⟩) fa_nil)
    case r0 =>
      have hrv : (Sum.inr _ : Option qV ⊕ (Nat × qL × List qV)) = Sum.inl rv := hrv
      cases hrv
    case c0 =>
      have hq : (Sum.inr _ : Option qV ⊕ (Nat × qL × List qV)) = Sum.inr q := hq
      cases hq
      have v1 := (hL.n (i := 50) (d := 0) (List.mem_cons_of_mem _ (List.mem_cons_of_mem _ (List.mem_cons_of_mem _ (List.mem_cons_of_mem _ (List.mem_cons_of_mem _ List.mem_cons_self))))) hv)
      have ht1 : ρ1.take 45 = ρ0 := by rw [ht1]; exact ht
      rcases Int.lt_or_le v 1023 with hlt | hge
      · skip
        refine qs_lnkB (p := 45) (ρ := ρ1) (fa_cons (zSh38 ex (qΓ1 fc) D as tys hT hA hh) (fa_cons (zSh39 ex (qΓ1 fc) D as tys hT hA) fa_nil)) hT hA zSg_b1bN (fa_cons (fun ρ2 ht2 hL hg2 _ => ⟨fun rv hrv => ?r0, fun q hq => ?c0⟩) (fa_cons (fun ρ2 ht2 hL hg2 _ => ⟨fun rv hrv => ?r1, fun q hq => ?c1⟩) fa_nil))
        case r0 =>
          have hrv : (Sum.inr _ : Option qV ⊕ (Nat × qL × List qV)) = Sum.inl rv := hrv
          cases hrv
        case c0 =>
          have hq : (Sum.inr _ : Option qV ⊕ (Nat × qL × List qV)) = Sum.inr q := hq
          cases hq
          have v3 := (hL.n (i := 50) (d := 1) (List.mem_cons_of_mem _ (List.mem_cons_of_mem _ (List.mem_cons_of_mem _ (List.mem_cons_of_mem _ (List.mem_cons_of_mem _ List.mem_cons_self))))) v1)
          exact ih ρ2 (v + 1) (by rw [ht2]; exact ht1) (by rw [v3]; exact congrArg some (by omega)) (by omega) (by omega) (by omega)
        case r1 =>
          have hrv : (Sum.inr _ : Option qV ⊕ (Nat × qL × List qV)) = Sum.inl rv := hrv
          cases hrv
        case c1 =>
          have hq : (Sum.inr _ : Option qV ⊕ (Nat × qL × List qV)) = Sum.inr q := hq
          cases hq
          have v3 := (hL.n (i := 52) (d := 1) (List.mem_cons_of_mem _ (List.mem_cons_of_mem _ List.mem_cons_self)) v1)
          exact zSbF1 hT hA hh hl0 7777 ρ2 (v + 1) (by rw [ht2]; exact ht1) (by rw [v3]; exact congrArg some (by omega)) (by omega) (by omega)
      · have gx := q_tkb ht1 hx
        have gf := q_tkb ht1 hf
        have gn := q_tkb ht1 hn
        refine qy_TP.pre (ρ' := ρ1) (g' := zST_b1s_l_3_5.1) (w' := zST_b1s_l_3_5.2.1) (lo' := zST_b1s_l_3_5.2.2.1) (st' := zST_b1s_l_3_5.2.2.2) ?_ (fun ws h => h) (fun h => h.to0 [(25, 3, 3), (27, 5, 5), (44, -1, 4), (50, 1023, 1023)] [] (by decide +kernel) rfl (by decide +kernel) (fa_ex gx (Int.le_refl _) (Int.le_refl _) (fa_ex gf (Int.le_refl _) (Int.le_refl _) (fa_ex gn hn1 hn2 (fa_ex v1 (by omega) (by omega) fa_nil)))) fa_nil) (fun _ _ h => h) (fun _ h => h)
        refine qs_lnkB (p := 45) (ρ := ρ1) (fa_cons (zSh59 ex (qΓ1 fc) D as tys hT hA) fa_nil) hT hA zSg_b1l_3_5 (fa_cons (fun ρ2 ht2 hL hg2 _ => ⟨fun rv hrv => ?r0, fun q hq => ?c0⟩) fa_nil)
        case r0 =>
          have hrv : (Sum.inr _ : Option qV ⊕ (Nat × qL × List qV)) = Sum.inl rv := hrv
          cases hrv
        case c0 =>
          have hq : (Sum.inr _ : Option qV ⊕ (Nat × qL × List qV)) = Sum.inr q := hq
          cases hq
          have v3 := (hL.l (i := 52) (z := 1024) (List.mem_cons_of_mem _ (List.mem_cons_of_mem _ (List.mem_cons_of_mem _ (List.mem_cons_of_mem _ (List.mem_cons_of_mem _ (List.mem_cons_of_mem _ (List.mem_cons_of_mem _ List.mem_cons_self))))))))
          exact zSbF1 hT hA hh hl0 7777 ρ2 1024 (by rw [ht2]; exact ht1) v3 (by omega) (by omega)
theorem zSbN1_4_0 (hT : zk_t) (hA : zk_a) {fc : Nat → Nat → Int32} (hh : qy_V ex (qΓ1 fc) D as tys zSk37) {ρ0 : List Int} (hl0 : ρ0.length = 45) (hx : ρ0[25]? = some (4 : Int)) (hf : ρ0[27]? = some (0 : Int)) {nv : Int} (hn : ρ0[44]? = some nv) (hn1 : -1 ≤ nv) (hn2 : nv ≤ -1) : ∀ (m : Nat) (ρ : List Int) (v : Int), ρ.take 45 = ρ0 → ρ[50]? = some v → 0 ≤ v → v ≤ 0 → 0 - v < (m : Int) → qy_TP ex D as tys 12 189 fc ρ zST_b1HN.1 zST_b1HN.2.1 zST_b1HN.2.2.1 zST_b1HN.2.2.2 13 (zSBP1 fc ρ0) := by
  intro m
  induction m with
  | zero => intro ρ v _ _ _ h1 h2; exfalso; omega
  | succ m ih =>
    intro ρ v ht hv h0 h1 h2
    have gx := q_tkb ht hx
    have gf := q_tkb ht hf
    have gn := q_tkb ht hn
    refine qy_TP.pre (ρ' := ρ) (g' := zST_b1s_h_4_0.1) (w' := zST_b1s_h_4_0.2.1) (lo' := zST_b1s_h_4_0.2.2.1) (st' := zST_b1s_h_4_0.2.2.2) ?_ (fun ws h => h) (fun h => h.to0 [(25, 4, 4), (27, 0, 0), (44, -1, -1), (50, 0, 0)] [] (by decide +kernel) rfl (by decide +kernel) (fa_ex gx (Int.le_refl _) (Int.le_refl _) (fa_ex gf (Int.le_refl _) (Int.le_refl _) (fa_ex gn hn1 hn2 (fa_ex hv (by omega) (by omega) fa_nil)))) fa_nil) (fun _ _ h => h) (fun _ h => h)
    refine qs_lnkB (p := 45) (ρ := ρ) fa_nil hT hA zSg_b1h_4_0 (fa_cons (fun ρ1 ht1 hL hg1 _ => ⟨fun rv hrv => ?r0, fun q hq => ?c0⟩) fa_nil)
    case r0 =>
      have hrv : (Sum.inr _ : Option qV ⊕ (Nat × qL × List qV)) = Sum.inl rv := hrv
      cases hrv
    case c0 =>
      have hq : (Sum.inr _ : Option qV ⊕ (Nat × qL × List qV)) = Sum.inr q := hq
      cases hq
      have v1 := (hL.n (i := 50) (d := 0) (List.mem_cons_of_mem _ (List.mem_cons_of_mem _ (List.mem_cons_of_mem _ (List.mem_cons_of_mem _ (List.mem_cons_of_mem _ List.mem_cons_self))))) hv)
      have ht1 : ρ1.take 45 = ρ0 := by rw [ht1]; exact ht
      rcases Int.lt_or_le v 0 with hlt | hge
      · skip
        refine qs_lnkB (p := 45) (ρ := ρ1) (fa_cons (zSh38 ex (qΓ1 fc) D as tys hT hA hh) (fa_cons (zSh39 ex (qΓ1 fc) D as tys hT hA) fa_nil)) hT hA zSg_b1bN (fa_cons (fun ρ2 ht2 hL hg2 _ => ⟨fun rv hrv => ?r0, fun q hq => ?c0⟩) (fa_cons (fun ρ2 ht2 hL hg2 _ => ⟨fun rv hrv => ?r1, fun q hq => ?c1⟩) fa_nil))
        case r0 =>
          have hrv : (Sum.inr _ : Option qV ⊕ (Nat × qL × List qV)) = Sum.inl rv := hrv
          cases hrv
        case c0 =>
          have hq : (Sum.inr _ : Option qV ⊕ (Nat × qL × List qV)) = Sum.inr q := hq
          cases hq
          have v3 := (hL.n (i := 50) (d := 1) (List.mem_cons_of_mem _ (List.mem_cons_of_mem _ (List.mem_cons_of_mem _ (List.mem_cons_of_mem _ (List.mem_cons_of_mem _ List.mem_cons_self))))) v1)
          exact ih ρ2 (v + 1) (by rw [ht2]; exact ht1) (by rw [v3]; exact congrArg some (by omega)) (by omega) (by omega) (by omega)
        case r1 =>
          have hrv : (Sum.inr _ : Option qV ⊕ (Nat × qL × List qV)) = Sum.inl rv := hrv
          cases hrv
        case c1 =>
          have hq : (Sum.inr _ : Option qV ⊕ (Nat × qL × List qV)) = Sum.inr q := hq
          cases hq
          have v3 := (hL.n (i := 52) (d := 1) (List.mem_cons_of_mem _ (List.mem_cons_of_mem _ List.mem_cons_self)) v1)
          exact zSbF1 hT hA hh hl0 7777 ρ2 (v + 1) (by rw [ht2]; exact ht1) (by rw [v3]; exact congrArg some (by omega)) (by omega) (by omega)
      · have gx := q_tkb ht1 hx
        have gf := q_tkb ht1 hf
        have gn := q_tkb ht1 hn
        refine qy_TP.pre (ρ' := ρ1) (g' := zST_b1s_h_4_0.1) (w' := zST_b1s_h_4_0.2.1) (lo' := zST_b1s_h_4_0.2.2.1) (st' := zST_b1s_h_4_0.2.2.2) ?_ (fun ws h => h) (fun h => h.to0 [(25, 4, 4), (27, 0, 0), (44, -1, -1), (50, 0, 0)] [] (by decide +kernel) rfl (by decide +kernel) (fa_ex gx (Int.le_refl _) (Int.le_refl _) (fa_ex gf (Int.le_refl _) (Int.le_refl _) (fa_ex gn hn1 hn2 (fa_ex v1 (by omega) (by omega) fa_nil)))) fa_nil) (fun _ _ h => h) (fun _ h => h)
        refine qs_lnkB (p := 45) (ρ := ρ1) fa_nil hT hA zSg_b1l_4_0 (fa_cons (fun ρ2 ht2 hL hg2 _ => ⟨fun rv hrv => ?r0, fun q hq => ?c0⟩) fa_nil)
        case r0 =>
          have hrv : (Sum.inr _ : Option qV ⊕ (Nat × qL × List qV)) = Sum.inl rv := hrv
          cases hrv
        case c0 =>
          have hq : (Sum.inr _ : Option qV ⊕ (Nat × qL × List qV)) = Sum.inr q := hq
          cases hq
          have v3 := (hL.l (i := 52) (z := 1) (List.mem_cons_of_mem _ (List.mem_cons_of_mem _ (List.mem_cons_of_mem _ (List.mem_cons_of_mem _ (List.mem_cons_of_mem _ (List.mem_cons_of_mem _ (List.mem_cons_of_mem _ List.mem_cons_self))))))))
          exact zSbF1 hT hA hh hl0 7777 ρ2 1 (by rw [ht2]; exact ht1) v3 (by omega) (by omega)
theorem zSbN1_4_1 (hT : zk_t) (hA : zk_a) {fc : Nat → Nat → Int32} (hh : qy_V ex (qΓ1 fc) D as tys zSk37) {ρ0 : List Int} (hl0 : ρ0.length = 45) (hx : ρ0[25]? = some (4 : Int)) (hf : ρ0[27]? = some (1 : Int)) {nv : Int} (hn : ρ0[44]? = some nv) (hn1 : -1 ≤ nv) (hn2 : nv ≤ 0) : ∀ (m : Nat) (ρ : List Int) (v : Int), ρ.take 45 = ρ0 → ρ[50]? = some v → 0 ≤ v → v ≤ 4 → 4 - v < (m : Int) → qy_TP ex D as tys 12 189 fc ρ zST_b1HN.1 zST_b1HN.2.1 zST_b1HN.2.2.1 zST_b1HN.2.2.2 13 (zSBP1 fc ρ0) := by
  intro m
  induction m with
  | zero => intro ρ v _ _ _ h1 h2; exfalso; omega
  | succ m ih =>
    intro ρ v ht hv h0 h1 h2
    have gx := q_tkb ht hx
    have gf := q_tkb ht hf
    have gn := q_tkb ht hn
    refine qy_TP.pre (ρ' := ρ) (g' := zST_b1s_h_4_1.1) (w' := zST_b1s_h_4_1.2.1) (lo' := zST_b1s_h_4_1.2.2.1) (st' := zST_b1s_h_4_1.2.2.2) ?_ (fun ws h => h) (fun h => h.to0 [(25, 4, 4), (27, 1, 1), (44, -1, 0), (50, 0, 4)] [] (by decide +kernel) rfl (by decide +kernel) (fa_ex gx (Int.le_refl _) (Int.le_refl _) (fa_ex gf (Int.le_refl _) (Int.le_refl _) (fa_ex gn hn1 hn2 (fa_ex hv (by omega) (by omega) fa_nil)))) fa_nil) (fun _ _ h => h) (fun _ h => h)
    refine qs_lnkB (p := 45) (ρ := ρ) fa_nil hT hA zSg_b1h_4_1 (fa_cons (fun ρ1 ht1 hL hg1 _ => ⟨fun rv hrv => ?r0, fun q hq => ?c0⟩) fa_nil)
    case r0 =>
      have hrv : (Sum.inr _ : Option qV ⊕ (Nat × qL × List qV)) = Sum.inl rv := hrv
      cases hrv
    case c0 =>
      have hq : (Sum.inr _ : Option qV ⊕ (Nat × qL × List qV)) = Sum.inr q := hq
      cases hq
      have v1 := (hL.n (i := 50) (d := 0) (List.mem_cons_of_mem _ (List.mem_cons_of_mem _ (List.mem_cons_of_mem _ (List.mem_cons_of_mem _ (List.mem_cons_of_mem _ List.mem_cons_self))))) hv)
      have ht1 : ρ1.take 45 = ρ0 := by rw [ht1]; exact ht
      rcases Int.lt_or_le v 4 with hlt | hge
      · skip
        refine qs_lnkB (p := 45) (ρ := ρ1) (fa_cons (zSh38 ex (qΓ1 fc) D as tys hT hA hh) (fa_cons (zSh39 ex (qΓ1 fc) D as tys hT hA) fa_nil)) hT hA zSg_b1bN (fa_cons (fun ρ2 ht2 hL hg2 _ => ⟨fun rv hrv => ?r0, fun q hq => ?c0⟩) (fa_cons (fun ρ2 ht2 hL hg2 _ => ⟨fun rv hrv => ?r1, fun q hq => ?c1⟩) fa_nil))
        case r0 =>
          have hrv : (Sum.inr _ : Option qV ⊕ (Nat × qL × List qV)) = Sum.inl rv := hrv
          cases hrv
        case c0 =>
          have hq : (Sum.inr _ : Option qV ⊕ (Nat × qL × List qV)) = Sum.inr q := hq
          cases hq
          have v3 := (hL.n (i := 50) (d := 1) (List.mem_cons_of_mem _ (List.mem_cons_of_mem _ (List.mem_cons_of_mem _ (List.mem_cons_of_mem _ (List.mem_cons_of_mem _ List.mem_cons_self))))) v1)
          exact ih ρ2 (v + 1) (by rw [ht2]; exact ht1) (by rw [v3]; exact congrArg some (by omega)) (by omega) (by omega) (by omega)
        case r1 =>
          have hrv : (Sum.inr _ : Option qV ⊕ (Nat × qL × List qV)) = Sum.inl rv := hrv
          cases hrv
        case c1 =>
          have hq : (Sum.inr _ : Option qV ⊕ (Nat × qL × List qV)) = Sum.inr q := hq
          cases hq
          have v3 := (hL.n (i := 52) (d := 1) (List.mem_cons_of_mem _ (List.mem_cons_of_mem _ List.mem_cons_self)) v1)
          exact zSbF1 hT hA hh hl0 7777 ρ2 (v + 1) (by rw [ht2]; exact ht1) (by rw [v3]; exact congrArg some (by omega)) (by omega) (by omega)
      · have gx := q_tkb ht1 hx
        have gf := q_tkb ht1 hf
        have gn := q_tkb ht1 hn
        refine qy_TP.pre (ρ' := ρ1) (g' := zST_b1s_l_4_1.1) (w' := zST_b1s_l_4_1.2.1) (lo' := zST_b1s_l_4_1.2.2.1) (st' := zST_b1s_l_4_1.2.2.2) ?_ (fun ws h => h) (fun h => h.to0 [(25, 4, 4), (27, 1, 1), (44, -1, 0), (50, 4, 4)] [] (by decide +kernel) rfl (by decide +kernel) (fa_ex gx (Int.le_refl _) (Int.le_refl _) (fa_ex gf (Int.le_refl _) (Int.le_refl _) (fa_ex gn hn1 hn2 (fa_ex v1 (by omega) (by omega) fa_nil)))) fa_nil) (fun _ _ h => h) (fun _ h => h)
        refine qs_lnkB (p := 45) (ρ := ρ1) (fa_cons (zSh60 ex (qΓ1 fc) D as tys hT hA) fa_nil) hT hA zSg_b1l_4_1 (fa_cons (fun ρ2 ht2 hL hg2 _ => ⟨fun rv hrv => ?r0, fun q hq => ?c0⟩) fa_nil)
        case r0 =>
          have hrv : (Sum.inr _ : Option qV ⊕ (Nat × qL × List qV)) = Sum.inl rv := hrv
          cases hrv
        case c0 =>
          have hq : (Sum.inr _ : Option qV ⊕ (Nat × qL × List qV)) = Sum.inr q := hq
          cases hq
          have v3 := (hL.l (i := 52) (z := 5) (List.mem_cons_of_mem _ (List.mem_cons_of_mem _ (List.mem_cons_of_mem _ (List.mem_cons_of_mem _ (List.mem_cons_of_mem _ (List.mem_cons_of_mem _ (List.mem_cons_of_mem _ List.mem_cons_self))))))))
          exact zSbF1 hT hA hh hl0 7777 ρ2 5 (by rw [ht2]; exact ht1) v3 (by omega) (by omega)
theorem zSbN1_4_2 (hT : zk_t) (hA : zk_a) {fc : Nat → Nat → Int32} (hh : qy_V ex (qΓ1 fc) D as tys zSk37) {ρ0 : List Int} (hl0 : ρ0.length = 45) (hx : ρ0[25]? = some (4 : Int)) (hf : ρ0[27]? = some (2 : Int)) {nv : Int} (hn : ρ0[44]? = some nv) (hn1 : -1 ≤ nv) (hn2 : nv ≤ 1) : ∀ (m : Nat) (ρ : List Int) (v : Int), ρ.take 45 = ρ0 → ρ[50]? = some v → 0 ≤ v → v ≤ 24 → 24 - v < (m : Int) → qy_TP ex D as tys 12 189 fc ρ zST_b1HN.1 zST_b1HN.2.1 zST_b1HN.2.2.1 zST_b1HN.2.2.2 13 (zSBP1 fc ρ0) := by
  intro m
  induction m with
  | zero => intro ρ v _ _ _ h1 h2; exfalso; omega
  | succ m ih =>
    intro ρ v ht hv h0 h1 h2
    have gx := q_tkb ht hx
    have gf := q_tkb ht hf
    have gn := q_tkb ht hn
    refine qy_TP.pre (ρ' := ρ) (g' := zST_b1s_h_4_2.1) (w' := zST_b1s_h_4_2.2.1) (lo' := zST_b1s_h_4_2.2.2.1) (st' := zST_b1s_h_4_2.2.2.2) ?_ (fun ws h => h) (fun h => h.to0 [(25, 4, 4), (27, 2, 2), (44, -1, 1), (50, 0, 24)] [] (by decide +kernel) rfl (by decide +kernel) (fa_ex gx (Int.le_refl _) (Int.le_refl _) (fa_ex gf (Int.le_refl _) (Int.le_refl _) (fa_ex gn hn1 hn2 (fa_ex hv (by omega) (by omega) fa_nil)))) fa_nil) (fun _ _ h => h) (fun _ h => h)
    refine qs_lnkB (p := 45) (ρ := ρ) fa_nil hT hA zSg_b1h_4_2 (fa_cons (fun ρ1 ht1 hL hg1 _ => ⟨fun rv hrv => ?r0, fun q hq => ?c0⟩) fa_nil)
    case r0 =>
      have hrv : (Sum.inr _ : Option qV ⊕ (Nat × qL × List qV)) = Sum.inl rv := hrv
      cases hrv
    case c0 =>
      have hq : (Sum.inr _ : Option qV ⊕ (Nat × qL × List qV)) = Sum.inr q := hq
      cases hq
      have v1 := (hL.n (i := 50) (d := 0) (List.mem_cons_of_mem _ (List.mem_cons_of_mem _ (List.mem_cons_of_mem _ (List.mem_cons_of_mem _ (List.mem_cons_of_mem _ List.mem_cons_self))))) hv)
      have ht1 : ρ1.take 45 = ρ0 := by rw [ht1]; exact ht
      rcases Int.lt_or_le v 24 with hlt | hge
      · skip
        refine qs_lnkB (p := 45) (ρ := ρ1) (fa_cons (zSh38 ex (qΓ1 fc) D as tys hT hA hh) (fa_cons (zSh39 ex (qΓ1 fc) D as tys hT hA) fa_nil)) hT hA zSg_b1bN (fa_cons (fun ρ2 ht2 hL hg2 _ => ⟨fun rv hrv => ?r0, fun q hq => ?c0⟩) (fa_cons (fun ρ2 ht2 hL hg2 _ => ⟨fun rv hrv => ?r1, fun q hq => ?c1⟩) fa_nil))
        case r0 =>
          have hrv : (Sum.inr _ : Option qV ⊕ (Nat × qL × List qV)) = Sum.inl rv := hrv
          cases hrv
        case c0 =>
          have hq : (Sum.inr _ : Option qV ⊕ (Nat × qL × List qV)) = Sum.inr q := hq
          cases hq
          have v3 := (hL.n (i := 50) (d := 1) (List.mem_cons_of_mem _ (List.mem_cons_of_mem _ (List.mem_cons_of_mem _ (List.mem_cons_of_mem _ (List.mem_cons_of_mem _ List.mem_cons_self))))) v1)
          exact ih ρ2 (v + 1) (by rw [ht2]; exact ht1) (by rw [v3]; exact congrArg some (by omega)) (by omega) (by omega) (by omega)
        case r1 =>
          have hrv : (Sum.inr _ : Option qV ⊕ (Nat × qL × List qV)) = Sum.inl rv := hrv
          cases hrv
        case c1 =>
          have hq : (Sum.inr _ : Option qV ⊕ (Nat × qL × List qV)) = Sum.inr q := hq
          cases hq
          have v3 := (hL.n (i := 52) (d := 1) (List.mem_cons_of_mem _ (List.mem_cons_of_mem _ List.mem_cons_self)) v1)
          exact zSbF1 hT hA hh hl0 7777 ρ2 (v + 1) (by rw [ht2]; exact ht1) (by rw [v3]; exact congrArg some (by omega)) (by omega) (by omega)
      · have gx := q_tkb ht1 hx
        have gf := q_tkb ht1 hf
        have gn := q_tkb ht1 hn
        refine qy_TP.pre (ρ' := ρ1) (g' := zST_b1s_l_4_2.1) (w' := zST_b1s_l_4_2.2.1) (lo' := zST_b1s_l_4_2.2.2.1) (st' := zST_b1s_l_4_2.2.2.2) ?_ (fun ws h => h) (fun h => h.to0 [(25, 4, 4), (27, 2, 2), (44, -1, 1), (50, 24, 24)] [] (by decide +kernel) rfl (by decide +kernel) (fa_ex gx (Int.le_refl _) (Int.le_refl _) (fa_ex gf (Int.le_refl _) (Int.le_refl _) (fa_ex gn hn1 hn2 (fa_ex v1 (by omega) (by omega) fa_nil)))) fa_nil) (fun _ _ h => h) (fun _ h => h)
        refine qs_lnkB (p := 45) (ρ := ρ1) (fa_cons (zSh61 ex (qΓ1 fc) D as tys hT hA) fa_nil) hT hA zSg_b1l_4_2 (fa_cons (fun ρ2 ht2 hL hg2 _ => ⟨fun rv hrv => ?r0, fun q hq => ?c0⟩) fa_nil)
        case r0 =>
          have hrv : (Sum.inr _ : Option qV ⊕ (Nat × qL × List qV)) = Sum.inl rv := hrv
          cases hrv
        case c0 =>
          have hq : (Sum.inr _ : Option qV ⊕ (Nat × qL × List qV)) = Sum.inr q := hq
          cases hq
          have v3 := (hL.l (i := 52) (z := 25) (List.mem_cons_of_mem _ (List.mem_cons_of_mem _ (List.mem_cons_of_mem _ (List.mem_cons_of_mem _ (List.mem_cons_of_mem _ (List.mem_cons_of_mem _ (List.mem_cons_of_mem _ List.mem_cons_self))))))))
          exact zSbF1 hT hA hh hl0 7777 ρ2 25 (by rw [ht2]; exact ht1) v3 (by omega) (by omega)
theorem zSbN1_4_3 (hT : zk_t) (hA : zk_a) {fc : Nat → Nat → Int32} (hh : qy_V ex (qΓ1 fc) D as tys zSk37) {ρ0 : List Int} (hl0 : ρ0.length = 45) (hx : ρ0[25]? = some (4 : Int)) (hf : ρ0[27]? = some (3 : Int)) {nv : Int} (hn : ρ0[44]? = some nv) (hn1 : -1 ≤ nv) (hn2 : nv ≤ 2) : ∀ (m : Nat) (ρ : List Int) (v : Int), ρ.take 45 = ρ0 → ρ[50]? = some v → 0 ≤ v → v ≤ 124 → 124 - v < (m : Int) → qy_TP ex D as tys 12 189 fc ρ zST_b1HN.1 zST_b1HN.2.1 zST_b1HN.2.2.1 zST_b1HN.2.2.2 13 (zSBP1 fc ρ0) := by
  intro m
  induction m with
  | zero => intro ρ v _ _ _ h1 h2; exfalso; omega
  | succ m ih =>
    intro ρ v ht hv h0 h1 h2
    have gx := q_tkb ht hx
    have gf := q_tkb ht hf
    have gn := q_tkb ht hn
    refine qy_TP.pre (ρ' := ρ) (g' := zST_b1s_h_4_3.1) (w' := zST_b1s_h_4_3.2.1) (lo' := zST_b1s_h_4_3.2.2.1) (st' := zST_b1s_h_4_3.2.2.2) ?_ (fun ws h => h) (fun h => h.to0 [(25, 4, 4), (27, 3, 3), (44, -1, 2), (50, 0, 124)] [] (by decide +kernel) rfl (by decide +kernel) (fa_ex gx (Int.le_refl _) (Int.le_refl _) (fa_ex gf (Int.le_refl _) (Int.le_refl _) (fa_ex gn hn1 hn2 (fa_ex hv (by omega) (by omega) fa_nil)))) fa_nil) (fun _ _ h => h) (fun _ h => h)
    refine qs_lnkB (p := 45) (ρ := ρ) fa_nil hT hA zSg_b1h_4_3 (fa_cons (fun ρ1 ht1 hL hg1 _ => ⟨fun rv hrv => ?r0, fun q hq => ?c0⟩) fa_nil)
    case r0 =>
      have hrv : (Sum.inr _ : Option qV ⊕ (Nat × qL × List qV)) = Sum.inl rv := hrv
      cases hrv
    case c0 =>
      have hq : (Sum.inr _ : Option qV ⊕ (Nat × qL × List qV)) = Sum.inr q := hq
      cases hq
      have v1 := (hL.n (i := 50) (d := 0) (List.mem_cons_of_mem _ (List.mem_cons_of_mem _ (List.mem_cons_of_mem _ (List.mem_cons_of_mem _ (List.mem_cons_of_mem _ List.mem_cons_self))))) hv)
      have ht1 : ρ1.take 45 = ρ0 := by rw [ht1]; exact ht
      rcases Int.lt_or_le v 124 with hlt | hge
      · skip
        refine qs_lnkB (p := 45) (ρ := ρ1) (fa_cons (zSh38 ex (qΓ1 fc) D as tys hT hA hh) (fa_cons (zSh39 ex (qΓ1 fc) D as tys hT hA) fa_nil)) hT hA zSg_b1bN (fa_cons (fun ρ2 ht2 hL hg2 _ => ⟨fun rv hrv => ?r0, fun q hq => ?c0⟩) (fa_cons (fun ρ2 ht2 hL hg2 _ => ⟨fun rv hrv => ?r1, fun q hq => ?c1⟩) fa_nil))
        case r0 =>
          have hrv : (Sum.inr _ : Option qV ⊕ (Nat × qL × List qV)) = Sum.inl rv := hrv
          cases hrv
        case c0 =>
          have hq : (Sum.inr _ : Option qV ⊕ (Nat × qL × List qV)) = Sum.inr q := hq
          cases hq
          have v3 := (hL.n (i := 50) (d := 1) (List.mem_cons_of_mem _ (List.mem_cons_of_mem _ (List.mem_cons_of_mem _ (List.mem_cons_of_mem _ (List.mem_cons_of_mem _ List.mem_cons_self))))) v1)
          exact ih ρ2 (v + 1) (by rw [ht2]; exact ht1) (by rw [v3]; exact congrArg some (by omega)) (by omega) (by omega) (by omega)
        case r1 =>
          have hrv : (Sum.inr _ : Option qV ⊕ (Nat × qL × List qV)) = Sum.inl rv := hrv
          cases hrv
        case c1 =>
          have hq : (Sum.inr _ : Option qV ⊕ (Nat × qL × List qV)) = Sum.inr q := hq
          cases hq
          have v3 := (hL.n (i := 52) (d := 1) (List.mem_cons_of_mem _ (List.mem_cons_of_mem _ List.mem_cons_self)) v1)
          exact zSbF1 hT hA hh hl0 7777 ρ2 (v + 1) (by rw [ht2]; exact ht1) (by rw [v3]; exact congrArg some (by omega)) (by omega) (by omega)
      · have gx := q_tkb ht1 hx
        have gf := q_tkb ht1 hf
        have gn := q_tkb ht1 hn
        refine qy_TP.pre (ρ' := ρ1) (g' := zST_b1s_l_4_3.1) (w' := zST_b1s_l_4_3.2.1) (lo' := zST_b1s_l_4_3.2.2.1) (st' := zST_b1s_l_4_3.2.2.2) ?_ (fun ws h => h) (fun h => h.to0 [(25, 4, 4), (27, 3, 3), (44, -1, 2), (50, 124, 124)] [] (by decide +kernel) rfl (by decide +kernel) (fa_ex gx (Int.le_refl _) (Int.le_refl _) (fa_ex gf (Int.le_refl _) (Int.le_refl _) (fa_ex gn hn1 hn2 (fa_ex v1 (by omega) (by omega) fa_nil)))) fa_nil) (fun _ _ h => h) (fun _ h => h)
        refine qs_lnkB (p := 45) (ρ := ρ1) (fa_cons (zSh62 ex (qΓ1 fc) D as tys hT hA) fa_nil) hT hA zSg_b1l_4_3 (fa_cons (fun ρ2 ht2 hL hg2 _ => ⟨fun rv hrv => ?r0, fun q hq => ?c0⟩) fa_nil)
        case r0 =>
          have hrv : (Sum.inr _ : Option qV ⊕ (Nat × qL × List qV)) = Sum.inl rv := hrv
          cases hrv
        case c0 =>
          have hq : (Sum.inr _ : Option qV ⊕ (Nat × qL × List qV)) = Sum.inr q := hq
          cases hq
          have v3 := (hL.l (i := 52) (z := 125) (List.mem_cons_of_mem _ (List.mem_cons_of_mem _ (List.mem_cons_of_mem _ (List.mem_cons_of_mem _ (List.mem_cons_of_mem _ (List.mem_cons_of_mem _ (List.mem_cons_of_mem _ List.mem_cons_self))))))))
          exact zSbF1 hT hA hh hl0 7777 ρ2 125 (by rw [ht2]; exact ht1) v3 (by omega) (by omega)
theorem zSbN1_4_4 (hT : zk_t) (hA : zk_a) {fc : Nat → Nat → Int32} (hh : qy_V ex (qΓ1 fc) D as tys zSk37) {ρ0 : List Int} (hl0 : ρ0.length = 45) (hx : ρ0[25]? = some (4 : Int)) (hf : ρ0[27]? = some (4 : Int)) {nv : Int} (hn : ρ0[44]? = some nv) (hn1 : -1 ≤ nv) (hn2 : nv ≤ 3) : ∀ (m : Nat) (ρ : List Int) (v : Int), ρ.take 45 = ρ0 → ρ[50]? = some v → 0 ≤ v → v ≤ 624 → 624 - v < (m : Int) → qy_TP ex D as tys 12 189 fc ρ zST_b1HN.1 zST_b1HN.2.1 zST_b1HN.2.2.1 zST_b1HN.2.2.2 13 (zSBP1 fc ρ0) := by
  intro m
  induction m with
  | zero => intro ρ v _ _ _ h1 h2; exfalso; omega
  | succ m ih =>
    intro ρ v ht hv h0 h1 h2
    have gx := q_tkb ht hx
    have gf := q_tkb ht hf
    have gn := q_tkb ht hn
    refine qy_TP.pre (ρ' := ρ) (g' := zST_b1s_h_4_4.1) (w' := zST_b1s_h_4_4.2.1) (lo' := zST_b1s_h_4_4.2.2.1) (st' := zST_b1s_h_4_4.2.2.2) ?_ (fun ws h => h) (fun h => h.to0 [(25, 4, 4), (27, 4, 4), (44, -1, 3), (50, 0, 624)] [] (by decide +kernel) rfl (by decide +kernel) (fa_ex gx (Int.le_refl _) (Int.le_refl _) (fa_ex gf (Int.le_refl _) (Int.le_refl _) (fa_ex gn hn1 hn2 (fa_ex hv (by omega) (by omega) fa_nil)))) fa_nil) (fun _ _ h => h) (fun _ h => h)
    refine qs_lnkB (p := 45) (ρ := ρ) fa_nil hT hA zSg_b1h_4_4 (fa_cons (fun ρ1 ht1 hL hg1 _ => ⟨fun rv hrv => ?r0, fun q hq => ?c0⟩) fa_nil)
    case r0 =>
      have hrv : (Sum.inr _ : Option qV ⊕ (Nat × qL × List qV)) = Sum.inl rv := hrv
      cases hrv
    case c0 =>
      have hq : (Sum.inr _ : Option qV ⊕ (Nat × qL × List qV)) = Sum.inr q := hq
      cases hq
      have v1 := (hL.n (i := 50) (d := 0) (List.mem_cons_of_mem _ (List.mem_cons_of_mem _ (List.mem_cons_of_mem _ (List.mem_cons_of_mem _ (List.mem_cons_of_mem _ List.mem_cons_self))))) hv)
      have ht1 : ρ1.take 45 = ρ0 := by rw [ht1]; exact ht
      rcases Int.lt_or_le v 624 with hlt | hge
      · skip
        refine qs_lnkB (p := 45) (ρ := ρ1) (fa_cons (zSh38 ex (qΓ1 fc) D as tys hT hA hh) (fa_cons (zSh39 ex (qΓ1 fc) D as tys hT hA) fa_nil)) hT hA zSg_b1bN (fa_cons (fun ρ2 ht2 hL hg2 _ => ⟨fun rv hrv => ?r0, fun q hq => ?c0⟩) (fa_cons (fun ρ2 ht2 hL hg2 _ => ⟨fun rv hrv => ?r1, fun q hq => ?c1⟩) fa_nil))
        case r0 =>
          have hrv : (Sum.inr _ : Option qV ⊕ (Nat × qL × List qV)) = Sum.inl rv := hrv
          cases hrv
        case c0 =>
          have hq : (Sum.inr _ : Option qV ⊕ (Nat × qL × List qV)) = Sum.inr q := hq
          cases hq
          have v3 := (hL.n (i := 50) (d := 1) (List.mem_cons_of_mem _ (List.mem_cons_of_mem _ (List.mem_cons_of_mem _ (List.mem_cons_of_mem _ (List.mem_cons_of_mem _ List.mem_cons_self))))) v1)
          exact ih ρ2 (v + 1) (by rw [ht2]; exact ht1) (by rw [v3]; exact congrArg some (by omega)) (by omega) (by omega) (by omega)
        case r1 =>
          have hrv : (Sum.inr _ : Option qV ⊕ (Nat × qL × List qV)) = Sum.inl rv := hrv
          cases hrv
        case c1 =>
          have hq : (Sum.inr _ : Option qV ⊕ (Nat × qL × List qV)) = Sum.inr q := hq
          cases hq
          have v3 := (hL.n (i := 52) (d := 1) (List.mem_cons_of_mem _ (List.mem_cons_of_mem _ List.mem_cons_self)) v1)
          exact zSbF1 hT hA hh hl0 7777 ρ2 (v + 1) (by rw [ht2]; exact ht1) (by rw [v3]; exact congrArg some (by omega)) (by omega) (by omega)
      · have gx := q_tkb ht1 hx
        have gf := q_tkb ht1 hf
        have gn := q_tkb ht1 hn
        refine qy_TP.pre (ρ' := ρ1) (g' := zST_b1s_l_4_4.1) (w' := zST_b1s_l_4_4.2.1) (lo' := zST_b1s_l_4_4.2.2.1) (st' := zST_b1s_l_4_4.2.2.2) ?_ (fun ws h => h) (fun h => h.to0 [(25, 4, 4), (27, 4, 4), (44, -1, 3), (50, 624, 624)] [] (by decide +kernel) rfl (by decide +kernel) (fa_ex gx (Int.le_refl _) (Int.le_refl _) (fa_ex gf (Int.le_refl _) (Int.le_refl _) (fa_ex gn hn1 hn2 (fa_ex v1 (by omega) (by omega) fa_nil)))) fa_nil) (fun _ _ h => h) (fun _ h => h)
        refine qs_lnkB (p := 45) (ρ := ρ1) (fa_cons (zSh63 ex (qΓ1 fc) D as tys hT hA) fa_nil) hT hA zSg_b1l_4_4 (fa_cons (fun ρ2 ht2 hL hg2 _ => ⟨fun rv hrv => ?r0, fun q hq => ?c0⟩) fa_nil)
        case r0 =>
          have hrv : (Sum.inr _ : Option qV ⊕ (Nat × qL × List qV)) = Sum.inl rv := hrv
          cases hrv
        case c0 =>
          have hq : (Sum.inr _ : Option qV ⊕ (Nat × qL × List qV)) = Sum.inr q := hq
          cases hq
          have v3 := (hL.l (i := 52) (z := 625) (List.mem_cons_of_mem _ (List.mem_cons_of_mem _ (List.mem_cons_of_mem _ (List.mem_cons_of_mem _ (List.mem_cons_of_mem _ (List.mem_cons_of_mem _ (List.mem_cons_of_mem _ List.mem_cons_self))))))))
          exact zSbF1 hT hA hh hl0 7777 ρ2 625 (by rw [ht2]; exact ht1) v3 (by omega) (by omega)
theorem zSbN1_4_5 (hT : zk_t) (hA : zk_a) {fc : Nat → Nat → Int32} (hh : qy_V ex (qΓ1 fc) D as tys zSk37) {ρ0 : List Int} (hl0 : ρ0.length = 45) (hx : ρ0[25]? = some (4 : Int)) (hf : ρ0[27]? = some (5 : Int)) {nv : Int} (hn : ρ0[44]? = some nv) (hn1 : -1 ≤ nv) (hn2 : nv ≤ 4) : ∀ (m : Nat) (ρ : List Int) (v : Int), ρ.take 45 = ρ0 → ρ[50]? = some v → 0 ≤ v → v ≤ 3124 → 3124 - v < (m : Int) → qy_TP ex D as tys 12 189 fc ρ zST_b1HN.1 zST_b1HN.2.1 zST_b1HN.2.2.1 zST_b1HN.2.2.2 13 (zSBP1 fc ρ0) := by
  intro m
  induction m with
  | zero => intro ρ v _ _ _ h1 h2; exfalso; omega
  | succ m ih =>
    intro ρ v ht hv h0 h1 h2
    have gx := q_tkb ht hx
    have gf := q_tkb ht hf
    have gn := q_tkb ht hn
    refine qy_TP.pre (ρ' := ρ) (g' := zST_b1s_h_4_5.1) (w' := zST_b1s_h_4_5.2.1) (lo' := zST_b1s_h_4_5.2.2.1) (st' := zST_b1s_h_4_5.2.2.2) ?_ (fun ws h => h) (fun h => h.to0 [(25, 4, 4), (27, 5, 5), (44, -1, 4), (50, 0, 3124)] [] (by decide +kernel) rfl (by decide +kernel) (fa_ex gx (Int.le_refl _) (Int.le_refl _) (fa_ex gf (Int.le_refl _) (Int.le_refl _) (fa_ex gn hn1 hn2 (fa_ex hv (by omega) (by omega) fa_nil)))) fa_nil) (fun _ _ h => h) (fun _ h => h)
    refine qs_lnkB (p := 45) (ρ := ρ) fa_nil hT hA zSg_b1h_4_5 (fa_cons (fun ρ1 ht1 hL hg1 _ => ⟨fun rv hrv => ?r0, fun q hq => ?c0⟩) fa_nil)
    case r0 =>
      have hrv : (Sum.inr _ : Option qV ⊕ (Nat × qL × List qV)) = Sum.inl rv := hrv
      cases hrv
    case c0 =>
      have hq : (Sum.inr _ : Option qV ⊕ (Nat × qL × List qV)) = Sum.inr q := hq
      cases hq
      have v1 := (hL.n (i := 50) (d := 0) (List.mem_cons_of_mem _ (List.mem_cons_of_mem _ (List.mem_cons_of_mem _ (List.mem_cons_of_mem _ (List.mem_cons_of_mem _ List.mem_cons_self))))) hv)
      have ht1 : ρ1.take 45 = ρ0 := by rw [ht1]; exact ht
      rcases Int.lt_or_le v 3124 with hlt | hge
      · skip
        refine qs_lnkB (p := 45) (ρ := ρ1) (fa_cons (zSh38 ex (qΓ1 fc) D as tys hT hA hh) (fa_cons (zSh39 ex (qΓ1 fc) D as tys hT hA) fa_nil)) hT hA zSg_b1bN (fa_cons (fun ρ2 ht2 hL hg2 _ => ⟨fun rv hrv => ?r0, fun q hq => ?c0⟩) (fa_cons (fun ρ2 ht2 hL hg2 _ => ⟨fun rv hrv => ?r1, fun q hq => ?c1⟩) fa_nil))
        case r0 =>
          have hrv : (Sum.inr _ : Option qV ⊕ (Nat × qL × List qV)) = Sum.inl rv := hrv
          cases hrv
        case c0 =>
          have hq : (Sum.inr _ : Option qV ⊕ (Nat × qL × List qV)) = Sum.inr q := hq
          cases hq
          have v3 := (hL.n (i := 50) (d := 1) (List.mem_cons_of_mem _ (List.mem_cons_of_mem _ (List.mem_cons_of_mem _ (List.mem_cons_of_mem _ (List.mem_cons_of_mem _ List.mem_cons_self))))) v1)
          exact ih ρ2 (v + 1) (by rw [ht2]; exact ht1) (by rw [v3]; exact congrArg some (by omega)) (by omega) (by omega) (by omega)
        case r1 =>
          have hrv : (Sum.inr _ : Option qV ⊕ (Nat × qL × List qV)) = Sum.inl rv := hrv
          cases hrv
        case c1 =>
          have hq : (Sum.inr _ : Option qV ⊕ (Nat × qL × List qV)) = Sum.inr q := hq
          cases hq
          have v3 := (hL.n (i := 52) (d := 1) (List.mem_cons_of_mem _ (List.mem_cons_of_mem _ List.mem_cons_self)) v1)
          exact zSbF1 hT hA hh hl0 7777 ρ2 (v + 1) (by rw [ht2]; exact ht1) (by rw [v3]; exact congrArg some (by omega)) (by omega) (by omega)
      · have gx := q_tkb ht1 hx
        have gf := q_tkb ht1 hf
        have gn := q_tkb ht1 hn
        refine qy_TP.pre (ρ' := ρ1) (g' := zST_b1s_l_4_5.1) (w' := zST_b1s_l_4_5.2.1) (lo' := zST_b1s_l_4_5.2.2.1) (st' := zST_b1s_l_4_5.2.2.2) ?_ (fun ws h => h) (fun h => h.to0 [(25, 4, 4), (27, 5, 5), (44, -1, 4), (50, 3124, 3124)] [] (by decide +kernel) rfl (by decide +kernel) (fa_ex gx (Int.le_refl _) (Int.le_refl _) (fa_ex gf (Int.le_refl _) (Int.le_refl _) (fa_ex gn hn1 hn2 (fa_ex v1 (by omega) (by omega) fa_nil)))) fa_nil) (fun _ _ h => h) (fun _ h => h)
        refine qs_lnkB (p := 45) (ρ := ρ1) (fa_cons (zSh64 ex (qΓ1 fc) D as tys hT hA) fa_nil) hT hA zSg_b1l_4_5 (fa_cons (fun ρ2 ht2 hL hg2 _ => ⟨fun rv hrv => ?r0, fun q hq => ?c0⟩) fa_nil)
        case r0 =>
          have hrv : (Sum.inr _ : Option qV ⊕ (Nat × qL × List qV)) = Sum.inl rv := hrv
          cases hrv
        case c0 =>
          have hq : (Sum.inr _ : Option qV ⊕ (Nat × qL × List qV)) = Sum.inr q := hq
          cases hq
          have v3 := (hL.l (i := 52) (z := 3125) (List.mem_cons_of_mem _ (List.mem_cons_of_mem _ (List.mem_cons_of_mem _ (List.mem_cons_of_mem _ (List.mem_cons_of_mem _ (List.mem_cons_of_mem _ (List.mem_cons_of_mem _ List.mem_cons_self))))))))
          exact zSbF1 hT hA hh hl0 7777 ρ2 3125 (by rw [ht2]; exact ht1) v3 (by omega) (by omega)
theorem zSbN1_5_0 (hT : zk_t) (hA : zk_a) {fc : Nat → Nat → Int32} (hh : qy_V ex (qΓ1 fc) D as tys zSk37) {ρ0 : List Int} (hl0 : ρ0.length = 45) (hx : ρ0[25]? = some (5 : Int)) (hf : ρ0[27]? = some (0 : Int)) {nv : Int} (hn : ρ0[44]? = some nv) (hn1 : -1 ≤ nv) (hn2 : nv ≤ -1) : ∀ (m : Nat) (ρ : List Int) (v : Int), ρ.take 45 = ρ0 → ρ[50]? = some v → 0 ≤ v → v ≤ 0 → 0 - v < (m : Int) → qy_TP ex D as tys 12 189 fc ρ zST_b1HN.1 zST_b1HN.2.1 zST_b1HN.2.2.1 zST_b1HN.2.2.2 13 (zSBP1 fc ρ0) := by
  intro m
  induction m with
  | zero => intro ρ v _ _ _ h1 h2; exfalso; omega
  | succ m ih =>
    intro ρ v ht hv h0 h1 h2
    have gx := q_tkb ht hx
    have gf := q_tkb ht hf
    have gn := q_tkb ht hn
    refine qy_TP.pre (ρ' := ρ) (g' := zST_b1s_h_5_0.1) (w' := zST_b1s_h_5_0.2.1) (lo' := zST_b1s_h_5_0.2.2.1) (st' := zST_b1s_h_5_0.2.2.2) ?_ (fun ws h => h) (fun h => h.to0 [(25, 5, 5), (27, 0, 0), (44, -1, -1), (50, 0, 0)] [] (by decide +kernel) rfl (by decide +kernel) (fa_ex gx (Int.le_refl _) (Int.le_refl _) (fa_ex gf (Int.le_refl _) (Int.le_refl _) (fa_ex gn hn1 hn2 (fa_ex hv (by omega) (by omega) fa_nil)))) fa_nil) (fun _ _ h => h) (fun _ h => h)
    refine qs_lnkB (p := 45) (ρ := ρ) fa_nil hT hA zSg_b1h_5_0 (fa_cons (fun ρ1 ht1 hL hg1 _ => ⟨fun rv hrv => ?r0, fun q hq => ?c0⟩) fa_nil)
    case r0 =>
      have hrv : (Sum.inr _ : Option qV ⊕ (Nat × qL × List qV)) = Sum.inl rv := hrv
      cases hrv
    case c0 =>
      have hq : (Sum.inr _ : Option qV ⊕ (Nat × qL × List qV)) = Sum.inr q := hq
      cases hq
      have v1 := (hL.n (i := 50) (d := 0) (List.mem_cons_of_mem _ (List.mem_cons_of_mem _ (List.mem_cons_of_mem _ (List.mem_cons_of_mem _ (List.mem_cons_of_mem _ List.mem_cons_self))))) hv)
      have ht1 : ρ1.take 45 = ρ0 := by rw [ht1]; exact ht
      rcases Int.lt_or_le v 0 with hlt | hge
      · skip
        refine qs_lnkB (p := 45) (ρ := ρ1) (fa_cons (zSh38 ex (qΓ1 fc) D as tys hT hA hh) (fa_cons (zSh39 ex (qΓ1 fc) D as tys hT hA) fa_nil)) hT hA zSg_b1bN (fa_cons (fun ρ2 ht2 hL hg2 _ => ⟨fun rv hrv => ?r0, fun q hq => ?c0⟩) (fa_cons (fun ρ2 ht2 hL hg2 _ => ⟨fun rv hrv => ?r1, fun q hq => ?c1⟩) fa_nil))
        case r0 =>
          have hrv : (Sum.inr _ : Option qV ⊕ (Nat × qL × List qV)) = Sum.inl rv := hrv
          cases hrv
        case c0 =>
          have hq : (Sum.inr _ : Option qV ⊕ (Nat × qL × List qV)) = Sum.inr q := hq
          cases hq
          have v3 := (hL.n (i := 50) (d := 1) (List.mem_cons_of_mem _ (List.mem_cons_of_mem _ (List.mem_cons_of_mem _ (List.mem_cons_of_mem _ (List.mem_cons_of_mem _ List.mem_cons_self))))) v1)
          exact ih ρ2 (v + 1) (by rw [ht2]; exact ht1) (by rw [v3]; exact congrArg some (by omega)) (by omega) (by omega) (by omega)
        case r1 =>
          have hrv : (Sum.inr _ : Option qV ⊕ (Nat × qL × List qV)) = Sum.inl rv := hrv
          cases hrv
        case c1 =>
          have hq : (Sum.inr _ : Option qV ⊕ (Nat × qL × List qV)) = Sum.inr q := hq
          cases hq
          have v3 := (hL.n (i := 52) (d := 1) (List.mem_cons_of_mem _ (List.mem_cons_of_mem _ List.mem_cons_self)) v1)
          exact zSbF1 hT hA hh hl0 7777 ρ2 (v + 1) (by rw [ht2]; exact ht1) (by rw [v3]; exact congrArg some (by omega)) (by omega) (by omega)
      · have gx := q_tkb ht1 hx
        have gf := q_tkb ht1 hf
        have gn := q_tkb ht1 hn
        refine qy_TP.pre (ρ' := ρ1) (g' := zST_b1s_h_5_0.1) (w' := zST_b1s_h_5_0.2.1) (lo' := zST_b1s_h_5_0.2.2.1) (st' := zST_b1s_h_5_0.2.2.2) ?_ (fun ws h => h) (fun h => h.to0 [(25, 5, 5), (27, 0, 0), (44, -1, -1), (50, 0, 0)] [] (by decide +kernel) rfl (by decide +kernel) (fa_ex gx (Int.le_refl _) (Int.le_refl _) (fa_ex gf (Int.le_refl _) (Int.le_refl _) (fa_ex gn hn1 hn2 (fa_ex v1 (by omega) (by omega) fa_nil)))) fa_nil) (fun _ _ h => h) (fun _ h => h)
        refine qs_lnkB (p := 45) (ρ := ρ1) fa_nil hT hA zSg_b1l_5_0 (fa_cons (fun ρ2 ht2 hL hg2 _ => ⟨fun rv hrv => ?r0, fun q hq => ?c0⟩) fa_nil)
        case r0 =>
          have hrv : (Sum.inr _ : Option qV ⊕ (Nat × qL × List qV)) = Sum.inl rv := hrv
          cases hrv
        case c0 =>
          have hq : (Sum.inr _ : Option qV ⊕ (Nat × qL × List qV)) = Sum.inr q := hq
          cases hq
          have v3 := (hL.l (i := 52) (z := 1) (List.mem_cons_of_mem _ (List.mem_cons_of_mem _ (List.mem_cons_of_mem _ (List.mem_cons_of_mem _ (List.mem_cons_of_mem _ (List.mem_cons_of_mem _ (List.mem_cons_of_mem _ List.mem_cons_self))))))))
          exact zSbF1 hT hA hh hl0 7777 ρ2 1 (by rw [ht2]; exact ht1) v3 (by omega) (by omega)
theorem zSbN1_5_1 (hT : zk_t) (hA : zk_a) {fc : Nat → Nat → Int32} (hh : qy_V ex (qΓ1 fc) D as tys zSk37) {ρ0 : List Int} (hl0 : ρ0.length = 45) (hx : ρ0[25]? = some (5 : Int)) (hf : ρ0[27]? = some (1 : Int)) {nv : Int} (hn : ρ0[44]? = some nv) (hn1 : -1 ≤ nv) (hn2 : nv ≤ 0) : ∀ (m : Nat) (ρ : List Int) (v : Int), ρ.take 45 = ρ0 → ρ[50]? = some v → 0 ≤ v → v ≤ 5 → 5 - v < (m : Int) → qy_TP ex D as tys 12 189 fc ρ zST_b1HN.1 zST_b1HN.2.1 zST_b1HN.2.2.1 zST_b1HN.2.2.2 13 (zSBP1 fc ρ0) := by
  intro m
  induction m with
  | zero => intro ρ v _ _ _ h1 h2; exfalso; omega
  | succ m ih =>
    intro ρ v ht hv h0 h1 h2
    have gx := q_tkb ht hx
    have gf := q_tkb ht hf
    have gn := q_tkb ht hn
    refine qy_TP.pre (ρ' := ρ) (g' := zST_b1s_h_5_1.1) (w' := zST_b1s_h_5_1.2.1) (lo' := zST_b1s_h_5_1.2.2.1) (st' := zST_b1s_h_5_1.2.2.2) ?_ (fun ws h => h) (fun h => h.to0 [(25, 5, 5), (27, 1, 1), (44, -1, 0), (50, 0, 5)] [] (by decide +kernel) rfl (by decide +kernel) (fa_ex gx (Int.le_refl _) (Int.le_refl _) (fa_ex gf (Int.le_refl _) (Int.le_refl _) (fa_ex gn hn1 hn2 (fa_ex hv (by omega) (by omega) fa_nil)))) fa_nil) (fun _ _ h => h) (fun _ h => h)
    refine qs_lnkB (p := 45) (ρ := ρ) fa_nil hT hA zSg_b1h_5_1 (fa_cons (fun ρ1 ht1 hL hg1 _ => ⟨fun rv hrv => ?r0, fun q hq => ?c0⟩) fa_nil)
    case r0 =>
      have hrv : (Sum.inr _ : Option qV ⊕ (Nat × qL × List qV)) = Sum.inl rv := hrv
      cases hrv
    case c0 =>
      have hq : (Sum.inr _ : Option qV ⊕ (Nat × qL × List qV)) = Sum.inr q := hq
      cases hq
      have v1 := (hL.n (i := 50) (d := 0) (List.mem_cons_of_mem _ (List.mem_cons_of_mem _ (List.mem_cons_of_mem _ (List.mem_cons_of_mem _ (List.mem_cons_of_mem _ List.mem_cons_self))))) hv)
      have ht1 : ρ1.take 45 = ρ0 := by rw [ht1]; exact ht
      rcases Int.lt_or_le v 5 with hlt | hge
      · skip
        refine qs_lnkB (p := 45) (ρ := ρ1) (fa_cons (zSh38 ex (qΓ1 fc) D as tys hT hA hh) (fa_cons (zSh39 ex (qΓ1 fc) D as tys hT hA) fa_nil)) hT hA zSg_b1bN (fa_cons (fun ρ2 ht2 hL hg2 _ => ⟨fun rv hrv => ?r0, fun q hq => ?c0⟩) (fa_cons (fun ρ2 ht2 hL hg2 _ => ⟨fun rv hrv => ?r1, fun q hq => ?c1⟩) fa_nil))
        case r0 =>
          have hrv : (Sum.inr _ : Option qV ⊕ (Nat × qL × List qV)) = Sum.inl rv := hrv
          cases hrv
        case c0 =>
          have hq : (Sum.inr _ : Option qV ⊕ (Nat × qL × List qV)) = Sum.inr q := hq
          cases hq
          have v3 := (hL.n (i := 50) (d := 1) (List.mem_cons_of_mem _ (List.mem_cons_of_mem _ (List.mem_cons_of_mem _ (List.mem_cons_of_mem _ (List.mem_cons_of_mem _ List.mem_cons_self))))) v1)
          exact ih ρ2 (v + 1) (by rw [ht2]; exact ht1) (by rw [v3]; exact congrArg some (by omega)) (by omega) (by omega) (by omega)
        case r1 =>
          have hrv : (Sum.inr _ : Option qV ⊕ (Nat × qL × List qV)) = Sum.inl rv := hrv
          cases hrv
        case c1 =>
          have hq : (Sum.inr _ : Option qV ⊕ (Nat × qL × List qV)) = Sum.inr q := hq
          cases hq
          have v3 := (hL.n (i := 52) (d := 1) (List.mem_cons_of_mem _ (List.mem_cons_of_mem _ List.mem_cons_self)) v1)
          exact zSbF1 hT hA hh hl0 7777 ρ2 (v + 1) (by rw [ht2]; exact ht1) (by rw [v3]; exact congrArg some (by omega)) (by omega) (by omega)
      · have gx := q_tkb ht1 hx
        have gf := q_tkb ht1 hf
        have gn := q_tkb ht1 hn
        refine qy_TP.pre (ρ' := ρ1) (g' := zST_b1s_l_5_1.1) (w' := zST_b1s_l_5_1.2.1) (lo' := zST_b1s_l_5_1.2.2.1) (st' := zST_b1s_l_5_1.2.2.2) ?_ (fun ws h => h) (fun h => h.to0 [(25, 5, 5), (27, 1, 1), (44, -1, 0), (50, 5, 5)] [] (by decide +kernel) rfl (by decide +kernel) (fa_ex gx (Int.le_refl _) (Int.le_refl _) (fa_ex gf (Int.le_refl _) (Int.le_refl _) (fa_ex gn hn1 hn2 (fa_ex v1 (by omega) (by omega) fa_nil)))) fa_nil) (fun _ _ h => h) (fun _ h => h)
        refine qs_lnkB (p := 45) (ρ := ρ1) (fa_cons (zSh65 ex (qΓ1 fc) D as tys hT hA) fa_nil) hT hA zSg_b1l_5_1 (fa_cons (fun ρ2 ht2 hL hg2 _ => ⟨fun rv hrv => ?r0, fun q hq => ?c0⟩) fa_nil)
        case r0 =>
          have hrv : (Sum.inr _ : Option qV ⊕ (Nat × qL × List qV)) = Sum.inl rv := hrv
          cases hrv
        case c0 =>
          have hq : (Sum.inr _ : Option qV ⊕ (Nat × qL × List qV)) = Sum.inr q := hq
          cases hq
          have v3 := (hL.l (i := 52) (z := 6) (List.mem_cons_of_mem _ (List.mem_cons_of_mem _ (List.mem_cons_of_mem _ (List.mem_cons_of_mem _ (List.mem_cons_of_mem _ (List.mem_cons_of_mem _ (List.mem_cons_of_mem _ List.mem_cons_self))))))))
          exact zSbF1 hT hA hh hl0 7777 ρ2 6 (by rw [ht2]; exact ht1) v3 (by omega) (by omega)
theorem zSbN1_5_2 (hT : zk_t) (hA : zk_a) {fc : Nat → Nat → Int32} (hh : qy_V ex (qΓ1 fc) D as tys zSk37) {ρ0 : List Int} (hl0 : ρ0.length = 45) (hx : ρ0[25]? = some (5 : Int)) (hf : ρ0[27]? = some (2 : Int)) {nv : Int} (hn : ρ0[44]? = some nv) (hn1 : -1 ≤ nv) (hn2 : nv ≤ 1) : ∀ (m : Nat) (ρ : List Int) (v : Int), ρ.take 45 = ρ0 → ρ[50]? = some v → 0 ≤ v → v ≤ 35 → 35 - v < (m : Int) → qy_TP ex D as tys 12 189 fc ρ zST_b1HN.1 zST_b1HN.2.1 zST_b1HN.2.2.1 zST_b1HN.2.2.2 13 (zSBP1 fc ρ0) := by
  intro m
  induction m with
  | zero => intro ρ v _ _ _ h1 h2; exfalso; omega
  | succ m ih =>
    intro ρ v ht hv h0 h1 h2
    have gx := q_tkb ht hx
    have gf := q_tkb ht hf
    have gn := q_tkb ht hn
    refine qy_TP.pre (ρ' := ρ) (g' := zST_b1s_h_5_2.1) (w' := zST_b1s_h_5_2.2.1) (lo' := zST_b1s_h_5_2.2.2.1) (st' := zST_b1s_h_5_2.2.2.2) ?_ (fun ws h => h) (fun h => h.to0 [(25, 5, 5), (27, 2, 2), (44, -1, 1), (50, 0, 35)] [] (by decide +kernel) rfl (by decide +kernel) (fa_ex gx (Int.le_refl _) (Int.le_refl _) (fa_ex gf (Int.le_refl _) (Int.le_refl _) (fa_ex gn hn1 hn2 (fa_ex hv (by omega) (by omega) fa_nil)))) fa_nil) (fun _ _ h => h) (fun _ h => h)
    refine qs_lnkB (p := 45) (ρ := ρ) fa_nil hT hA zSg_b1h_5_2 (fa_cons (fun ρ1 ht1 hL hg1 _ => ⟨fun rv hrv => ?r0, fun q hq => ?c0⟩) fa_nil)
    case r0 =>
      have hrv : (Sum.inr _ : Option qV ⊕ (Nat × qL × List qV)) = Sum.inl rv := hrv
      cases hrv
    case c0 =>
      have hq : (Sum.inr _ : Option qV ⊕ (Nat × qL × List qV)) = Sum.inr q := hq
      cases hq
      have v1 := (hL.n (i := 50) (d := 0) (List.mem_cons_of_mem _ (List.mem_cons_of_mem _ (List.mem_cons_of_mem _ (List.mem_cons_of_mem _ (List.mem_cons_of_mem _ List.mem_cons_self))))) hv)
      have ht1 : ρ1.take 45 = ρ0 := by rw [ht1]; exact ht
      rcases Int.lt_or_le v 35 with hlt | hge
      · skip
        refine qs_lnkB (p := 45) (ρ := ρ1) (fa_cons (zSh38 ex (qΓ1 fc) D as tys hT hA hh) (fa_cons (zSh39 ex (qΓ1 fc) D as tys hT hA) fa_nil)) hT hA zSg_b1bN (fa_cons (fun ρ2 ht2 hL hg2 _ => ⟨fun rv hrv => ?r0, fun q hq => ?c0⟩) (fa_cons (fun ρ2 ht2 hL hg2 _ => ⟨fun rv hrv => ?r1, fun q hq => ?c1⟩) fa_nil))
        case r0 =>
          have hrv : (Sum.inr _ : Option qV ⊕ (Nat × qL × List qV)) = Sum.inl rv := hrv
          cases hrv
        case c0 =>
          have hq : (Sum.inr _ : Option qV ⊕ (Nat × qL × List qV)) = Sum.inr q := hq
          cases hq
          have v3 := (hL.n (i := 50) (d := 1) (List.mem_cons_of_mem _ (List.mem_cons_of_mem _ (List.mem_cons_of_mem _ (List.mem_cons_of_mem _ (List.mem_cons_of_mem _ List.mem_cons_self))))) v1)
          exact ih ρ2 (v + 1) (by rw [ht2]; exact ht1) (by rw [v3]; exact congrArg some (by omega)) (by omega) (by omega) (by omega)
        case r1 =>
          have hrv : (Sum.inr _ : Option qV ⊕ (Nat × qL × List qV)) = Sum.inl rv := hrv
          cases hrv
        case c1 =>
          have hq : (Sum.inr _ : Option qV ⊕ (Nat × qL × List qV)) = Sum.inr q := hq
          cases hq
          have v3 := (hL.n (i := 52) (d := 1) (List.mem_cons_of_mem _ (List.mem_cons_of_mem _ List.mem_cons_self)) v1)
          exact zSbF1 hT hA hh hl0 7777 ρ2 (v + 1) (by rw [ht2]; exact ht1) (by rw [v3]; exact congrArg some (by omega)) (by omega) (by omega)
      · have gx := q_tkb ht1 hx
        have gf := q_tkb ht1 hf
        have gn := q_tkb ht1 hn
        refine qy_TP.pre (ρ' := ρ1) (g' := zST_b1s_l_5_2.1) (w' := zST_b1s_l_5_2.2.1) (lo' := zST_b1s_l_5_2.2.2.1) (st' := zST_b1s_l_5_2.2.2.2) ?_ (fun ws h => h) (fun h => h.to0 [(25, 5, 5), (27, 2, 2), (44, -1, 1), (50, 35, 35)] [] (by decide +kernel) rfl (by decide +kernel) (fa_ex gx (Int.le_refl _) (Int.le_refl _) (fa_ex gf (Int.le_refl _) (Int.le_refl _) (fa_ex gn hn1 hn2 (fa_ex v1 (by omega) (by omega) fa_nil)))) fa_nil) (fun _ _ h => h) (fun _ h => h)
        refine qs_lnkB (p := 45) (ρ := ρ1) (fa_cons (zSh66 ex (qΓ1 fc) D as tys hT hA) fa_nil) hT hA zSg_b1l_5_2 (fa_cons (fun ρ2 ht2 hL hg2 _ => ⟨fun rv hrv => ?r0, fun q hq => ?c0⟩) fa_nil)
        case r0 =>
          have hrv : (Sum.inr _ : Option qV ⊕ (Nat × qL × List qV)) = Sum.inl rv := hrv
          cases hrv
        case c0 =>
          have hq : (Sum.inr _ : Option qV ⊕ (Nat × qL × List qV)) = Sum.inr q := hq
          cases hq
          have v3 := (hL.l (i := 52) (z := 36) (List.mem_cons_of_mem _ (List.mem_cons_of_mem _ (List.mem_cons_of_mem _ (List.mem_cons_of_mem _ (List.mem_cons_of_mem _ (List.mem_cons_of_mem _ (List.mem_cons_of_mem _ List.mem_cons_self))))))))
          exact zSbF1 hT hA hh hl0 7777 ρ2 36 (by rw [ht2]; exact ht1) v3 (by omega) (by omega)
theorem zSbN1_5_3 (hT : zk_t) (hA : zk_a) {fc : Nat → Nat → Int32} (hh : qy_V ex (qΓ1 fc) D as tys zSk37) {ρ0 : List Int} (hl0 : ρ0.length = 45) (hx : ρ0[25]? = some (5 : Int)) (hf : ρ0[27]? = some (3 : Int)) {nv : Int} (hn : ρ0[44]? = some nv) (hn1 : -1 ≤ nv) (hn2 : nv ≤ 2) : ∀ (m : Nat) (ρ : List Int) (v : Int), ρ.take 45 = ρ0 → ρ[50]? = some v → 0 ≤ v → v ≤ 215 → 215 - v < (m : Int) → qy_TP ex D as tys 12 189 fc ρ zST_b1HN.1 zST_b1HN.2.1 zST_b1HN.2.2.1 zST_b1HN.2.2.2 13 (zSBP1 fc ρ0) := by
  intro m
  induction m with
  | zero => intro ρ v _ _ _ h1 h2; exfalso; omega
  | succ m ih =>
    intro ρ v ht hv h0 h1 h2
    have gx := q_tkb ht hx
    have gf := q_tkb ht hf
    have gn := q_tkb ht hn
    refine qy_TP.pre (ρ' := ρ) (g' := zST_b1s_h_5_3.1) (w' := zST_b1s_h_5_3.2.1) (lo' := zST_b1s_h_5_3.2.2.1) (st' := zST_b1s_h_5_3.2.2.2) ?_ (fun ws h => h) (fun h => h.to0 [(25, 5, 5), (27, 3, 3), (44, -1, 2), (50, 0, 215)] [] (by decide +kernel) rfl (by decide +kernel) (fa_ex gx (Int.le_refl _) (Int.le_refl _) (fa_ex gf (Int.le_refl _) (Int.le_refl _) (fa_ex gn hn1 hn2 (fa_ex hv (by omega) (by omega) fa_nil)))) fa_nil) (fun _ _ h => h) (fun _ h => h)
    refine qs_lnkB (p := 45) (ρ := ρ) fa_nil hT hA zSg_b1h_5_3 (fa_cons (fun ρ1 ht1 hL hg1 _ => ⟨fun rv hrv => ?r0, fun q hq => ?c0⟩) fa_nil)
    case r0 =>
      have hrv : (Sum.inr _ : Option qV ⊕ (Nat × qL × List qV)) = Sum.inl rv := hrv
      cases hrv
    case c0 =>
      have hq : (Sum.inr _ : Option qV ⊕ (Nat × qL × List qV)) = Sum.inr q := hq
      cases hq
      have v1 := (hL.n (i := 50) (d := 0) (List.mem_cons_of_mem _ (List.mem_cons_of_mem _ (List.mem_cons_of_mem _ (List.mem_cons_of_mem _ (List.mem_cons_of_mem _ List.mem_cons_self))))) hv)
      have ht1 : ρ1.take 45 = ρ0 := by rw [ht1]; exact ht
      rcases Int.lt_or_le v 215 with hlt | hge
      · skip
        refine qs_lnkB (p := 45) (ρ := ρ1) (fa_cons (zSh38 ex (qΓ1 fc) D as tys hT hA hh) (fa_cons (zSh39 ex (qΓ1 fc) D as tys hT hA) fa_nil)) hT hA zSg_b1bN (fa_cons (fun ρ2 ht2 hL hg2 _ => ⟨fun rv hrv => ?r0, fun q hq => ?c0⟩) (fa_cons (fun ρ2 ht2 hL hg2 _ => ⟨fun rv hrv => ?r1, fun q hq => ?c1⟩) fa_nil))
        case r0 =>
          have hrv : (Sum.inr _ : Option qV ⊕ (Nat × qL × List qV)) = Sum.inl rv := hrv
          cases hrv
        case c0 =>
          have hq : (Sum.inr _ : Option qV ⊕ (Nat × qL × List qV)) = Sum.inr q := hq
          cases hq
          have v3 := (hL.n (i := 50) (d := 1) (List.mem_cons_of_mem _ (List.mem_cons_of_mem _ (List.mem_cons_of_mem _ (List.mem_cons_of_mem _ (List.mem_cons_of_mem _ List.mem_cons_self))))) v1)
          exact ih ρ2 (v + 1) (by rw [ht2]; exact ht1) (by rw [v3]; exact congrArg some (by omega)) (by omega) (by omega) (by omega)
        case r1 =>
          have hrv : (Sum.inr _ : Option qV ⊕ (Nat × qL × List qV)) = Sum.inl rv := hrv
          cases hrv
        case c1 =>
          have hq : (Sum.inr _ : Option qV ⊕ (Nat × qL × List qV)) = Sum.inr q := hq
          cases hq
          have v3 := (hL.n (i := 52) (d := 1) (List.mem_cons_of_mem _ (List.mem_cons_of_mem _ List.mem_cons_self)) v1)
          exact zSbF1 hT hA hh hl0 7777 ρ2 (v + 1) (by rw [ht2]; exact ht1) (by rw [v3]; exact congrArg some (by omega)) (by omega) (by omega)
      · have gx := q_tkb ht1 hx
        have gf := q_tkb ht1 hf
        have gn := q_tkb ht1 hn
        refine qy_TP.pre (ρ' := ρ1) (g' := zST_b1s_l_5_3.1) (w' := zST_b1s_l_5_3.2.1) (lo' := zST_b1s_l_5_3.2.2.1) (st' := zST_b1s_l_5_3.2.2.2) ?_ (fun ws h => h) (fun h => h.to0 [(25, 5, 5), (27, 3, 3), (44, -1, 2), (50, 215, 215)] [] (by decide +kernel) rfl (by decide +kernel) (fa_ex gx (Int.le_refl _) (Int.le_refl _) (fa_ex gf (Int.le_refl _) (Int.le_refl _) (fa_ex gn hn1 hn2 (fa_ex v1 (by omega) (by omega) fa_nil)))) fa_nil) (fun _ _ h => h) (fun _ h => h)
        refine qs_lnkB (p := 45) (ρ := ρ1) (fa_cons (zSh67 ex (qΓ1 fc) D as tys hT hA) fa_nil) hT hA zSg_b1l_5_3 (fa_cons (fun ρ2 ht2 hL hg2 _ => ⟨fun rv hrv => ?r0, fun q hq => ?c0⟩) fa_nil)
        case r0 =>
          have hrv : (Sum.inr _ : Option qV ⊕ (Nat × qL × List qV)) = Sum.inl rv := hrv
          cases hrv
        case c0 =>
          have hq : (Sum.inr _ : Option qV ⊕ (Nat × qL × List qV)) = Sum.inr q := hq
          cases hq
          have v3 := (hL.l (i := 52) (z := 216) (List.mem_cons_of_mem _ (List.mem_cons_of_mem _ (List.mem_cons_of_mem _ (List.mem_cons_of_mem _ (List.mem_cons_of_mem _ (List.mem_cons_of_mem _ (List.mem_cons_of_mem _ List.mem_cons_self))))))))
          exact zSbF1 hT hA hh hl0 7777 ρ2 216 (by rw [ht2]; exact ht1) v3 (by omega) (by omega)
theorem zSbN1_5_4 (hT : zk_t) (hA : zk_a) {fc : Nat → Nat → Int32} (hh : qy_V ex (qΓ1 fc) D as tys zSk37) {ρ0 : List Int} (hl0 : ρ0.length = 45) (hx : ρ0[25]? = some (5 : Int)) (hf : ρ0[27]? = some (4 : Int)) {nv : Int} (hn : ρ0[44]? = some nv) (hn1 : -1 ≤ nv) (hn2 : nv ≤ 3) : ∀ (m : Nat) (ρ : List Int) (v : Int), ρ.take 45 = ρ0 → ρ[50]? = some v → 0 ≤ v → v ≤ 1295 → 1295 - v < (m : Int) → qy_TP ex D as tys 12 189 fc ρ zST_b1HN.1 zST_b1HN.2.1 zST_b1HN.2.2.1 zST_b1HN.2.2.2 13 (zSBP1 fc ρ0) := by
  intro m
  induction m with
  | zero => intro ρ v _ _ _ h1 h2; exfalso; omega
  | succ m ih =>
    intro ρ v ht hv h0 h1 h2
    have gx := q_tkb ht hx
    have gf := q_tkb ht hf
    have gn := q_tkb ht hn
    refine qy_TP.pre (ρ' := ρ) (g' := zST_b1s_h_5_4.1) (w' := zST_b1s_h_5_4.2.1) (lo' := zST_b1s_h_5_4.2.2.1) (st' := zST_b1s_h_5_4.2.2.2) ?_ (fun ws h => h) (fun h => h.to0 [(25, 5, 5), (27, 4, 4), (44, -1, 3), (50, 0, 1295)] [] (by decide +kernel) rfl (by decide +kernel) (fa_ex gx (Int.le_refl _) (Int.le_refl _) (fa_ex gf (Int.le_refl _) (Int.le_refl _) (fa_ex gn hn1 hn2 (fa_ex hv (by omega) (by omega) fa_nil)))) fa_nil) (fun _ _ h => h) (fun _ h => h)
    refine qs_lnkB (p := 45) (ρ := ρ) fa_nil hT hA zSg_b1h_5_4 (fa_cons (fun ρ1 ht1 hL hg1 _ => ⟨fun rv hrv => ?r0, fun q hq => ?c0⟩) fa_nil)
    case r0 =>
      have hrv : (Sum.inr _ : Option qV ⊕ (Nat × qL × List qV)) = Sum.inl rv := hrv
      cases hrv
    case c0 =>
      have hq : (Sum.inr _ : Option qV ⊕ (Nat × qL × List qV)) = Sum.inr q := hq
      cases hq
      have v1 := (hL.n (i := 50) (d := 0) (List.mem_cons_of_mem _ (List.mem_cons_of_mem _ (List.mem_cons_of_mem _ (List.mem_cons_of_mem _ (List.mem_cons_of_mem _ List.mem_cons_self))))) hv)
      have ht1 : ρ1.take 45 = ρ0 := by rw [ht1]; exact ht
      rcases Int.lt_or_le v 1295 with hlt | hge
      · skip
        refine qs_lnkB (p := 45) (ρ := ρ1) (fa_cons (zSh38 ex (qΓ1 fc) D as tys hT hA hh) (fa_cons (zSh39 ex (qΓ1 fc) D as tys hT hA) fa_nil)) hT hA zSg_b1bN (fa_cons (fun ρ2 ht2 hL hg2 _ => ⟨fun rv hrv => ?r0, fun q hq => ?c0⟩) (fa_cons (fun ρ2 ht2 hL hg2 _ => ⟨fun rv hrv => ?r1, fun q hq => ?c1⟩) fa_nil))
        case r0 =>
          have hrv : (Sum.inr _ : Option qV ⊕ (Nat × qL × List qV)) = Sum.inl rv := hrv
          cases hrv
        case c0 =>
          have hq : (Sum.inr _ : Option qV ⊕ (Nat × qL × List qV)) = Sum.inr q := hq
          cases hq
          have v3 := (hL.n (i := 50) (d := 1) (List.mem_cons_of_mem _ (List.mem_cons_of_mem _ (List.mem_cons_of_mem _ (List.mem_cons_of_mem _ (List.mem_cons_of_mem _ List.mem_cons_self))))) v1)
          exact ih ρ2 (v + 1) (by rw [ht2]; exact ht1) (by rw [v3]; exact congrArg some (by omega)) (by omega) (by omega) (by omega)
        case r1 =>
          have hrv : (Sum.inr _ : Option qV ⊕ (Nat × qL × List qV)) = Sum.inl rv := hrv
          cases hrv
        case c1 =>
          have hq : (Sum.inr _ : Option qV ⊕ (Nat × qL × List qV)) = Sum.inr q := hq
          cases hq
          have v3 := (hL.n (i := 52) (d := 1) (List.mem_cons_of_mem _ (List.mem_cons_of_mem _ List.mem_cons_self)) v1)
          exact zSbF1 hT hA hh hl0 7777 ρ2 (v + 1) (by rw [ht2]; exact ht1) (by rw [v3]; exact congrArg some (by omega)) (by omega) (by omega)
      · have gx := q_tkb ht1 hx
        have gf := q_tkb ht1 hf
        have gn := q_tkb ht1 hn
        refine qy_TP.pre (ρ' := ρ1) (g' := zST_b1s_l_5_4.1) (w' := zST_b1s_l_5_4.2.1) (lo' := zST_b1s_l_5_4.2.2.1) (st' := zST_b1s_l_5_4.2.2.2) ?_ (fun ws h => h) (fun h => h.to0 [(25, 5, 5), (27, 4, 4), (44, -1, 3), (50, 1295, 1295)] [] (by decide +kernel) rfl (by decide +kernel) (fa_ex gx (Int.le_refl _) (Int.le_refl _) (fa_ex gf (Int.le_refl _) (Int.le_refl _) (fa_ex gn hn1 hn2 (fa_ex v1 (by omega) (by omega) fa_nil)))) fa_nil) (fun _ _ h => h) (fun _ h => h)
        refine qs_lnkB (p := 45) (ρ := ρ1) (fa_cons (zSh68 ex (qΓ1 fc) D as tys hT hA) fa_nil) hT hA zSg_b1l_5_4 (fa_cons (fun ρ2 ht2 hL hg2 _ => ⟨fun rv hrv => ?r0, fun q hq => ?c0⟩) fa_nil)
        case r0 =>
          have hrv : (Sum.inr _ : Option qV ⊕ (Nat × qL × List qV)) = Sum.inl rv := hrv
          cases hrv
        case c0 =>
          have hq : (Sum.inr _ : Option qV ⊕ (Nat × qL × List qV)) = Sum.inr q := hq
          cases hq
          have v3 := (hL.l (i := 52) (z := 1296) (List.mem_cons_of_mem _ (List.mem_cons_of_mem _ (List.mem_cons_of_mem _ (List.mem_cons_of_mem _ (List.mem_cons_of_mem _ (List.mem_cons_of_mem _ (List.mem_cons_of_mem _ List.mem_cons_self))))))))
          exact zSbF1 hT hA hh hl0 7777 ρ2 1296 (by rw [ht2]; exact ht1) v3 (by omega) (by omega)
theorem zSbN1_5_5 (hT : zk_t) (hA : zk_a) {fc : Nat → Nat → Int32} (hh : qy_V ex (qΓ1 fc) D as tys zSk37) {ρ0 : List Int} (hl0 : ρ0.length = 45) (hx : ρ0[25]? = some (5 : Int)) (hf : ρ0[27]? = some (5 : Int)) {nv : Int} (hn : ρ0[44]? = some nv) (hn1 : -1 ≤ nv) (hn2 : nv ≤ 4) : ∀ (m : Nat) (ρ : List Int) (v : Int), ρ.take 45 = ρ0 → ρ[50]? = some v → 0 ≤ v → v ≤ 7775 → 7775 - v < (m : Int) → qy_TP ex D as tys 12 189 fc ρ zST_b1HN.1 zST_b1HN.2.1 zST_b1HN.2.2.1 zST_b1HN.2.2.2 13 (zSBP1 fc ρ0) := by
  intro m
  induction m with
  | zero => intro ρ v _ _ _ h1 h2; exfalso; omega
  | succ m ih =>
    intro ρ v ht hv h0 h1 h2
    have gx := q_tkb ht hx
    have gf := q_tkb ht hf
    have gn := q_tkb ht hn
    refine qy_TP.pre (ρ' := ρ) (g' := zST_b1s_h_5_5.1) (w' := zST_b1s_h_5_5.2.1) (lo' := zST_b1s_h_5_5.2.2.1) (st' := zST_b1s_h_5_5.2.2.2) ?_ (fun ws h => h) (fun h => h.to0 [(25, 5, 5), (27, 5, 5), (44, -1, 4), (50, 0, 7775)] [] (by decide +kernel) rfl (by decide +kernel) (fa_ex gx (Int.le_refl _) (Int.le_refl _) (fa_ex gf (Int.le_refl _) (Int.le_refl _) (fa_ex gn hn1 hn2 (fa_ex hv (by omega) (by omega) fa_nil)))) fa_nil) (fun _ _ h => h) (fun _ h => h)
    refine qs_lnkB (p := 45) (ρ := ρ) fa_nil hT hA zSg_b1h_5_5 (fa_cons (fun ρ1 ht1 hL hg1 _ => ⟨fun rv hrv => ?r0, fun q hq => ?c0⟩) fa_nil)
    case r0 =>
      have hrv : (Sum.inr _ : Option qV ⊕ (Nat × qL × List qV)) = Sum.inl rv := hrv
      cases hrv
    case c0 =>
      have hq : (Sum.inr _ : Option qV ⊕ (Nat × qL × List qV)) = Sum.inr q := hq
      cases hq
      have v1 := (hL.n (i := 50) (d := 0) (List.mem_cons_of_mem _ (List.mem_cons_of_mem _ (List.mem_cons_of_mem _ (List.mem_cons_of_mem _ (List.mem_cons_of_mem _ List.mem_cons_self))))) hv)
      have ht1 : ρ1.take 45 = ρ0 := by rw [ht1]; exact ht
      rcases Int.lt_or_le v 7775 with hlt | hge
      · skip
        refine qs_lnkB (p := 45) (ρ := ρ1) (fa_cons (zSh38 ex (qΓ1 fc) D as tys hT hA hh) (fa_cons (zSh39 ex (qΓ1 fc) D as tys hT hA) fa_nil)) hT hA zSg_b1bN (fa_cons (fun ρ2 ht2 hL hg2 _ => ⟨fun rv hrv => ?r0, fun q hq => ?c0⟩) (fa_cons (fun ρ2 ht2 hL hg2 _ => ⟨fun rv hrv => ?r1, fun q hq => ?c1⟩) fa_nil))
        case r0 =>
          have hrv : (Sum.inr _ : Option qV ⊕ (Nat × qL × List qV)) = Sum.inl rv := hrv
          cases hrv
        case c0 =>
          have hq : (Sum.inr _ : Option qV ⊕ (Nat × qL × List qV)) = Sum.inr q := hq
          cases hq
          have v3 := (hL.n (i := 50) (d := 1) (List.mem_cons_of_mem _ (List.mem_cons_of_mem _ (List.mem_cons_of_mem _ (List.mem_cons_of_mem _ (List.mem_cons_of_mem _ List.mem_cons_self))))) v1)
          exact ih ρ2 (v + 1) (by rw [ht2]; exact ht1) (by rw [v3]; exact congrArg some (by omega)) (by omega) (by omega) (by omega)
        case r1 =>
          have hrv : (Sum.inr _ : Option qV ⊕ (Nat × qL × List qV)) = Sum.inl rv := hrv
          cases hrv
        case c1 =>
          have hq : (Sum.inr _ : Option qV ⊕ (Nat × qL × List qV)) = Sum.inr q := hq
          cases hq
          have v3 := (hL.n (i := 52) (d := 1) (List.mem_cons_of_mem _ (List.mem_cons_of_mem _ List.mem_cons_self)) v1)
          exact zSbF1 hT hA hh hl0 7777 ρ2 (v + 1) (by rw [ht2]; exact ht1) (by rw [v3]; exact congrArg some (by omega)) (by omega) (by omega)
      · have gx := q_tkb ht1 hx
        have gf := q_tkb ht1 hf
        have gn := q_tkb ht1 hn
        refine qy_TP.pre (ρ' := ρ1) (g' := zST_b1s_l_5_5.1) (w' := zST_b1s_l_5_5.2.1) (lo' := zST_b1s_l_5_5.2.2.1) (st' := zST_b1s_l_5_5.2.2.2) ?_ (fun ws h => h) (fun h => h.to0 [(25, 5, 5), (27, 5, 5), (44, -1, 4), (50, 7775, 7775)] [] (by decide +kernel) rfl (by decide +kernel) (fa_ex gx (Int.le_refl _) (Int.le_refl _) (fa_ex gf (Int.le_refl _) (Int.le_refl _) (fa_ex gn hn1 hn2 (fa_ex v1 (by omega) (by omega) fa_nil)))) fa_nil) (fun _ _ h => h) (fun _ h => h)
        refine qs_lnkB (p := 45) (ρ := ρ1) (fa_cons (zSh69 ex (qΓ1 fc) D as tys hT hA) fa_nil) hT hA zSg_b1l_5_5 (fa_cons (fun ρ2 ht2 hL hg2 _ => ⟨fun rv hrv => ?r0, fun q hq => ?c0⟩) fa_nil)
        case r0 =>
          have hrv : (Sum.inr _ : Option qV ⊕ (Nat × qL × List qV)) = Sum.inl rv := hrv
          cases hrv
        case c0 =>
          have hq : (Sum.inr _ : Option qV ⊕ (Nat × qL × List qV)) = Sum.inr q := hq
          cases hq
          have v3 := (hL.l (i := 52) (z := 7776) (List.mem_cons_of_mem _ (List.mem_cons_of_mem _ (List.mem_cons_of_mem _ (List.mem_cons_of_mem _ (List.mem_cons_of_mem _ (List.mem_cons_of_mem _ (List.mem_cons_of_mem _ List.mem_cons_self))))))))
          exact zSbF1 hT hA hh hl0 7777 ρ2 7776 (by rw [ht2]; exact ht1) v3 (by omega) (by omega)
theorem zSbest1 (hT : zk_t) (hA : zk_a) (hh : ∀ fc, Γ.1 fc → qy_V ex (qΓ1 fc) D as tys zSk37) : qy_V ex Γ D as tys zSk78 := by
  refine qy_V.ofTP fun fc ρ hfc => qy_TP.intro fun _ hg => ?_
  have hl : ρ.length = 45 := hg.len rfl
  have hh := hh fc hfc
  refine qy_TP.post (P1 := zSBP1 fc ρ) ?_ (fun fc' ρ' o h => ⟨h.2.2, h.2.1, by rw [h.1]; exact ⟨hfc, fun _ _ => rfl⟩⟩)
  obtain ⟨x, hx, hx1, hx2⟩ := hg.2.1 25 (0, 5) rfl
  obtain ⟨f, hf, hf1, hf2⟩ := hg.2.1 27 (0, 5) rfl
  obtain ⟨nv, hn, hn1, hn2⟩ := hg.2.1 44 _ rfl
  obtain ⟨f2, n2, hf3, hn3, hfn⟩ := hg.2.2 ((.ofNat 1), 27, (.negSucc 0), 44, (.ofNat 1)) (List.mem_cons_of_mem _ List.mem_cons_self)
  have hf3 : ρ[27]? = some f2 := hf3
  have hn3 : ρ[44]? = some n2 := hn3
  rw [hf] at hf3; cases hf3
  rw [hn] at hn3; cases hn3
  have hfn : (1 : Int) ≤ 1 * f + (-1) * nv := hfn
  have hx1 : (0 : Int) ≤ x := hx1
  have hx2 : x ≤ (5 : Int) := hx2
  have hf1 : (0 : Int) ≤ f := hf1
  have hf2 : f ≤ (5 : Int) := hf2
  have hn1 : (-1 : Int) ≤ nv := hn1
  refine qs_lnkB (p := 45) (ρ := ρ) (fa_cons (zSh35 ex (qΓ1 fc) D as tys hT hA) fa_nil) hT hA zSg_b1s0 (fa_cons (fun ρ1 ht1 hL hg1 _ => ⟨fun rv hrv => ?r0, fun q hq => ?c0⟩) fa_nil)
  case r0 =>
    have hrv : (Sum.inr _ : Option qV ⊕ (Nat × qL × List qV)) = Sum.inl rv := hrv
    cases hrv
  case c0 =>
    have hq : (Sum.inr _ : Option qV ⊕ (Nat × qL × List qV)) = Sum.inr q := hq
    cases hq
    have v0 := (hL.l (i := 50) (z := 0) (List.mem_cons_of_mem _ (List.mem_cons_of_mem _ (List.mem_cons_of_mem _ (List.mem_cons_of_mem _ List.mem_cons_self)))))
    have ht : ρ1.take 45 = ρ := by rw [ht1]; exact List.take_of_length_le (by omega)
    have cx : x = 0 ∨ x = 1 ∨ x = 2 ∨ x = 3 ∨ x = 4 ∨ x = 5 := by omega
    have cf : f = 0 ∨ f = 1 ∨ f = 2 ∨ f = 3 ∨ f = 4 ∨ f = 5 := by omega
    rcases cx with e | e | e | e | e | e
    · rw [e] at hx
      rcases cf with e2 | e2 | e2 | e2 | e2 | e2
      · rw [e2] at hf hfn
        exact zSbN1_0_0 hT hA hh hl hx hf hn hn1 (by omega) 7777 ρ1 0 ht v0 (by omega) (by omega) (by omega)
      · rw [e2] at hf hfn
        exact zSbN1_0_1 hT hA hh hl hx hf hn hn1 (by omega) 7777 ρ1 0 ht v0 (by omega) (by omega) (by omega)
      · rw [e2] at hf hfn
        exact zSbN1_0_2 hT hA hh hl hx hf hn hn1 (by omega) 7777 ρ1 0 ht v0 (by omega) (by omega) (by omega)
      · rw [e2] at hf hfn
        exact zSbN1_0_3 hT hA hh hl hx hf hn hn1 (by omega) 7777 ρ1 0 ht v0 (by omega) (by omega) (by omega)
      · rw [e2] at hf hfn
        exact zSbN1_0_4 hT hA hh hl hx hf hn hn1 (by omega) 7777 ρ1 0 ht v0 (by omega) (by omega) (by omega)
      · rw [e2] at hf hfn
        exact zSbN1_0_5 hT hA hh hl hx hf hn hn1 (by omega) 7777 ρ1 0 ht v0 (by omega) (by omega) (by omega)
    · rw [e] at hx
      rcases cf with e2 | e2 | e2 | e2 | e2 | e2
      · rw [e2] at hf hfn
        exact zSbN1_1_0 hT hA hh hl hx hf hn hn1 (by omega) 7777 ρ1 0 ht v0 (by omega) (by omega) (by omega)
      · rw [e2] at hf hfn
        exact zSbN1_1_1 hT hA hh hl hx hf hn hn1 (by omega) 7777 ρ1 0 ht v0 (by omega) (by omega) (by omega)
      · rw [e2] at hf hfn
        exact zSbN1_1_2 hT hA hh hl hx hf hn hn1 (by omega) 7777 ρ1 0 ht v0 (by omega) (by omega) (by omega)
      · rw [e2] at hf hfn
        exact zSbN1_1_3 hT hA hh hl hx hf hn hn1 (by omega) 7777 ρ1 0 ht v0 (by omega) (by omega) (by omega)
      · rw [e2] at hf hfn
        exact zSbN1_1_4 hT hA hh hl hx hf hn hn1 (by omega) 7777 ρ1 0 ht v0 (by omega) (by omega) (by omega)
      · rw [e2] at hf hfn
        exact zSbN1_1_5 hT hA hh hl hx hf hn hn1 (by omega) 7777 ρ1 0 ht v0 (by omega) (by omega) (by omega)
    · rw [e] at hx
      rcases cf with e2 | e2 | e2 | e2 | e2 | e2
      · rw [e2] at hf hfn
        exact zSbN1_2_0 hT hA hh hl hx hf hn hn1 (by omega) 7777 ρ1 0 ht v0 (by omega) (by omega) (by omega)
      · rw [e2] at hf hfn
        exact zSbN1_2_1 hT hA hh hl hx hf hn hn1 (by omega) 7777 ρ1 0 ht v0 (by omega) (by omega) (by omega)
      · rw [e2] at hf hfn
        exact zSbN1_2_2 hT hA hh hl hx hf hn hn1 (by omega) 7777 ρ1 0 ht v0 (by omega) (by omega) (by omega)
      · rw [e2] at hf hfn
        exact zSbN1_2_3 hT hA hh hl hx hf hn hn1 (by omega) 7777 ρ1 0 ht v0 (by omega) (by omega) (by omega)
      · rw [e2] at hf hfn
        exact zSbN1_2_4 hT hA hh hl hx hf hn hn1 (by omega) 7777 ρ1 0 ht v0 (by omega) (by omega) (by omega)
      · rw [e2] at hf hfn
        exact zSbN1_2_5 hT hA hh hl hx hf hn hn1 (by omega) 7777 ρ1 0 ht v0 (by omega) (by omega) (by omega)
    · rw [e] at hx
      rcases cf with e2 | e2 | e2 | e2 | e2 | e2
      · rw [e2] at hf hfn
        exact zSbN1_3_0 hT hA hh hl hx hf hn hn1 (by omega) 7777 ρ1 0 ht v0 (by omega) (by omega) (by omega)
      · rw [e2] at hf hfn
        exact zSbN1_3_1 hT hA hh hl hx hf hn hn1 (by omega) 7777 ρ1 0 ht v0 (by omega) (by omega) (by omega)
      · rw [e2] at hf hfn
        exact zSbN1_3_2 hT hA hh hl hx hf hn hn1 (by omega) 7777 ρ1 0 ht v0 (by omega) (by omega) (by omega)
      · rw [e2] at hf hfn
        exact zSbN1_3_3 hT hA hh hl hx hf hn hn1 (by omega) 7777 ρ1 0 ht v0 (by omega) (by omega) (by omega)
      · rw [e2] at hf hfn
        exact zSbN1_3_4 hT hA hh hl hx hf hn hn1 (by omega) 7777 ρ1 0 ht v0 (by omega) (by omega) (by omega)
      · rw [e2] at hf hfn
        exact zSbN1_3_5 hT hA hh hl hx hf hn hn1 (by omega) 7777 ρ1 0 ht v0 (by omega) (by omega) (by omega)
    · rw [e] at hx
      rcases cf with e2 | e2 | e2 | e2 | e2 | e2
      · rw [e2] at hf hfn
        exact zSbN1_4_0 hT hA hh hl hx hf hn hn1 (by omega) 7777 ρ1 0 ht v0 (by omega) (by omega) (by omega)
      · rw [e2] at hf hfn
        exact zSbN1_4_1 hT hA hh hl hx hf hn hn1 (by omega) 7777 ρ1 0 ht v0 (by omega) (by omega) (by omega)
      · rw [e2] at hf hfn
        exact zSbN1_4_2 hT hA hh hl hx hf hn hn1 (by omega) 7777 ρ1 0 ht v0 (by omega) (by omega) (by omega)
      · rw [e2] at hf hfn
        exact zSbN1_4_3 hT hA hh hl hx hf hn hn1 (by omega) 7777 ρ1 0 ht v0 (by omega) (by omega) (by omega)
      · rw [e2] at hf hfn
        exact zSbN1_4_4 hT hA hh hl hx hf hn hn1 (by omega) 7777 ρ1 0 ht v0 (by omega) (by omega) (by omega)
      · rw [e2] at hf hfn
        exact zSbN1_4_5 hT hA hh hl hx hf hn hn1 (by omega) 7777 ρ1 0 ht v0 (by omega) (by omega) (by omega)
    · rw [e] at hx
      rcases cf with e2 | e2 | e2 | e2 | e2 | e2
      · rw [e2] at hf hfn
        exact zSbN1_5_0 hT hA hh hl hx hf hn hn1 (by omega) 7777 ρ1 0 ht v0 (by omega) (by omega) (by omega)
      · rw [e2] at hf hfn
        exact zSbN1_5_1 hT hA hh hl hx hf hn hn1 (by omega) 7777 ρ1 0 ht v0 (by omega) (by omega) (by omega)
      · rw [e2] at hf hfn
        exact zSbN1_5_2 hT hA hh hl hx hf hn hn1 (by omega) 7777 ρ1 0 ht v0 (by omega) (by omega) (by omega)
      · rw [e2] at hf hfn
        exact zSbN1_5_3 hT hA hh hl hx hf hn hn1 (by omega) 7777 ρ1 0 ht v0 (by omega) (by omega) (by omega)
      · rw [e2] at hf hfn
        exact zSbN1_5_4 hT hA hh hl hx hf hn hn1 (by omega) 7777 ρ1 0 ht v0 (by omega) (by omega) (by omega)
      · rw [e2] at hf hfn
        exact zSbN1_5_5 hT hA hh hl hx hf hn hn1 (by omega) 7777 ρ1 0 ht v0 (by omega) (by omega) (by omega)
end zSB1
