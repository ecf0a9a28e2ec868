/-! readRule() of the reference, by program (wip/p44/emr.py) -/
section zQR
variable {ex : Nat → Value} {Γ : qΓ} {D : va_G} {as : List Nat} {tys : List (ClassId × FieldType)}
theorem zQrd0 (hT : zk_t) (hA : zk_a) {fc : Nat → Nat → Int32} {ρ : List Int} : qy_TP ex D as tys 12 273 fc ρ zQT_s_r0_0.1 zQT_s_r0_0.2.1 zQT_s_r0_0.2.2.1 zQT_s_r0_0.2.2.2 0 (hr_P 0 (zQT_EFp0.1, zQT_EFp0.2.1, .inl none) (zQT_EOp0.1, zQT_EOp0.2.1, .inl none) (q_up fc 2 0 (Int32.ofInt 0)) ρ) := by
  refine qy_TP.intro fun _ hg => ?_
  have hl : ρ.length = 45 := hg.len rfl
  obtain ⟨sz, e0, hsz, he0, hes⟩ := hg.2.2 ((.ofNat 1), 1, (.negSucc 0), 5, (.ofNat 0)) (List.mem_cons_of_mem _ List.mem_cons_self)
  obtain ⟨tk, htk, htk0, _⟩ := hg.2.1 6 (0, 5) rfl
  obtain ⟨cd, hcd, hc1, hc2⟩ := hg.2.1 10 (0, 0) rfl
  have hes : e0 ≤ sz := by have h : (0 : Int) ≤ 1 * sz + (-1) * e0 := hes; omega
  have hc1 : (0 : Int) ≤ cd := hc1
  have hc2 : cd ≤ (0 : Int) := hc2
  have hc3 : cd = 0 := by omega
  rw [hc3] at hcd
  have htk0 : (0 : Int) ≤ tk := htk0
  have hsz : ρ[1]? = some sz := hsz
  have he0 : ρ[5]? = some e0 := he0
  refine qs_lnkB (p := 45) fa_nil hT hA zQg_r0_0 (fa_cons (fun ρ1 ht1 hL hg1 _ => ⟨fun rv hrv => ?_, fun q hq => ?_⟩) fa_nil)
  · have hrv : (Sum.inr _ : Option qV ⊕ (Nat × qL × List qV)) = Sum.inl rv := hrv
    cases hrv
  · have hq : (Sum.inr _ : Option qV ⊕ (Nat × qL × List qV)) = Sum.inr q := hq
    cases hq
    have hq1 : qe ρ ρ1 := q_qe45 ht1 hl
    have l1 : ρ1[1]? = some sz := hq1.at hsz
    have l5 : ρ1[5]? = some e0 := hq1.at he0
    have l46 : ρ1[46]? = some e0 := by rw [(hL.n (i := 46) (d := 0) (List.mem_cons_of_mem _ List.mem_cons_self) he0)]; exact congrArg some (by omega)
    have l47 : ρ1[47]? = some tk := by rw [(hL.n (i := 47) (d := 0) (List.mem_cons_of_mem _ (List.mem_cons_of_mem _ List.mem_cons_self)) htk)]; exact congrArg some (by omega)
    have l50 : ρ1[50]? = some (0 : Int) := by rw [(hL.n (i := 50) (d := 0) (List.mem_cons_of_mem _ (List.mem_cons_of_mem _ (List.mem_cons_of_mem _ (List.mem_cons_of_mem _ List.mem_cons_self)))) hcd)]; exact congrArg some (by omega)
    have l53 : ρ1[53]? = some (0 : Int) := (hL.l (i := 53) (z := 0) (List.mem_cons_of_mem _ (List.mem_cons_of_mem _ (List.mem_cons_of_mem _ (List.mem_cons_of_mem _ (List.mem_cons_of_mem _ (List.mem_cons_of_mem _ (List.mem_cons_of_mem _ List.mem_cons_self))))))))
    have l55 : ρ1[55]? = some (1 : Int) := (hL.l (i := 55) (z := 1) (List.mem_cons_of_mem _ (List.mem_cons_of_mem _ (List.mem_cons_of_mem _ (List.mem_cons_of_mem _ (List.mem_cons_of_mem _ (List.mem_cons_of_mem _ (List.mem_cons_of_mem _ (List.mem_cons_of_mem _ (List.mem_cons_of_mem _ List.mem_cons_self))))))))))
    refine qy_TP.pre (fc' := q_up fc 2 0 (Int32.ofInt 0)) (ρ' := ρ1) (g' := zQT_s_e0.1) (w' := zQT_s_e0.2.1) (lo' := zQT_RE.2.2.1) (st' := zQT_RE.2.2.2) ?_ (fun ws h => h.rf (c := 13) (t := 0) (N := 2) (κ := 2) (kn := []) (or := []) (a := .inl 0) (x := .inl 0) (z := 0) (y := 0) rfl (by decide +kernel) rfl rfl rfl rfl) (fun h => h) (fun _ _ h => h) (fun _ h => h)
    obtain ⟨hM, hcls, hrun⟩ := qs_vc (ex := ex) hT hA (k := 273) (pc := 32) rfl
    refine qy_TP.call (d := 11) (cs := [.inr (.inr (.inl (some 0)))]) (st := []) (av := [(0, .inr (.inr (.inl (some 0))))]) hM hcls hrun rfl rfl (by decide) (by decide +kernel) (Or.inr (Or.inr ⟨by decide, 0, 0, [], _, rfl, rfl⟩)) (zQee hT hA (fun f => zQh2 ex (qΓ1 f) D as tys hT hA) l1 l46 l47 htk0 l50 l53 hes) (fun f r o ho => ⟨ho.1, ⟨none, by rcases ho.2.2 with h | h; exact congrArg (fun x => x.2.2) h; exact congrArg (fun x => x.2.2) h.1⟩⟩) ?_
    intro fc2 ρ2 o rv ho hrv _ hg2
    obtain ⟨hq2, hfr, ho⟩ := ho
    have m55 := hq2.at l55
    have m5 := hq2.at l5
    have ht2 : ρ2.take 45 = ρ.take 45 := by obtain ⟨x2, hx2⟩ := hq1.tr hq2; rw [hx2, List.take_append_of_le_length (by omega)]
    rcases ho with ho | ⟨ho, M, e, e0x, m61, hw, hM2, h46, h57, hee⟩
    · rw [ho] at hrv hg2
      rw [ho]
      have hrv : (Sum.inl none : Option qV ⊕ (Nat × qL × List qV)) = Sum.inl rv := hrv
      cases hrv
      refine qy_TP.pre (ρ' := ρ2) (g' := zQT_s_r35_EF0.1) (w' := zQT_s_r35_EF0.2.1) (lo' := zQT_s_r35_EF0.2.2.1) (st' := zQT_s_r35_EF0.2.2.2) ?_ (fun ws h => h) (fun h => h.to0 [(55, 1, 1)] [] (by decide +kernel) rfl (by decide +kernel) (fa_ex m55 (Int.le_refl _) (Int.le_refl _) fa_nil) fa_nil) (fun _ _ h => h) (fun _ h => h)
      refine qs_lnkB (p := 45) fa_nil hT hA zQg_r35_EF0 (fa_cons (fun ρ3 ht3 hL hg3 _ => ⟨fun rv hrv => ?_, fun q hq => ?_⟩) fa_nil)
      · obtain ⟨y, hy, _⟩ := hg3.2.1 57 _ rfl
        exact ⟨by rw [ht3]; exact ht2, hfr, Or.inl ⟨rfl, y, hy⟩⟩
      · have hq : (Sum.inl _ : Option qV ⊕ (Nat × qL × List qV)) = Sum.inr q := hq
        cases hq
    · rw [ho] at hrv hg2
      rw [ho]
      have hrv : (Sum.inl none : Option qV ⊕ (Nat × qL × List qV)) = Sum.inl rv := hrv
      cases hrv
      have hee2 : e0 ≤ e := by rw [l46] at h46; cases h46; exact hee
      refine qy_TP.pre (ρ' := ρ2) (g' := zQT_s_r35_EO0.1) (w' := zQT_s_r35_EO0.2.1) (lo' := zQT_s_r35_EO0.2.2.1) (st' := zQT_s_r35_EO0.2.2.2) ?_ (fun ws h => h) (fun h => h.to0 [(55, 1, 1)] [((.ofNat 1), 57, (.negSucc 0), 5, (.ofNat 0))] (by decide +kernel) rfl (by decide +kernel) (fa_ex m55 (Int.le_refl _) (Int.le_refl _) fa_nil) (fa_cons ⟨e, e0, h57, m5, by show (0 : Int) ≤ 1 * e + (-1) * e0; omega⟩ fa_nil)) (fun _ _ h => h) (fun _ h => h)
      refine qs_lnkB (p := 45) fa_nil hT hA zQg_r35_EO0 (fa_cons (fun ρ3 ht3 hL hg3 _ => ⟨fun rv hrv => ?_, fun q hq => ?_⟩) fa_nil)
      · refine ⟨by rw [ht3]; exact ht2, hfr, Or.inr ⟨rfl, M, ?_, hw, hM2⟩⟩
        rw [(hL.n (i := 55) (d := 0) (List.mem_cons_of_mem _ (List.mem_cons_of_mem _ (List.mem_cons_of_mem _ (List.mem_cons_of_mem _ (List.mem_cons_of_mem _ (List.mem_cons_of_mem _ (List.mem_cons_of_mem _ (List.mem_cons_of_mem _ (List.mem_cons_of_mem _ List.mem_cons_self))))))))) m61)]; exact congrArg some (by omega)
      · have hq : (Sum.inl _ : Option qV ⊕ (Nat × qL × List qV)) = Sum.inr q := hq
        cases hq
def zQR0p0 : qO := ((zQk8.2.2.2.2.2.headD ((([], []), [], none))).1, (zQk8.2.2.2.2.2.headD ((([], []), [], none))).2.1, .inl none)
def zQR0p1 : qO := ((zQk8.2.2.2.2.2.tail.headD ((([], []), [], none))).1, (zQk8.2.2.2.2.2.tail.headD ((([], []), [], none))).2.1, .inl none)
theorem zQread0 (hT : zk_t) (hA : zk_a) (hΓ1 : ∀ fc fc', Γ.1 fc → hr_new 0 1 0 fc fc' → Γ.1 fc') (hΓ2 : ∀ κ, Γ.2 κ → κ ≤ 4) : qy_V ex Γ D as tys zQk8 := by
  refine qy_V.ofTP fun fc ρ hfc => qy_TP.intro fun _ hg => ?_
  have hl : ρ.length = 45 := hg.len rfl
  refine qy_TP.conv (P1 := hr_P 0 (zQT_EFp0.1, zQT_EFp0.2.1, .inl none) (zQT_EOp0.1, zQT_EOp0.2.1, .inl none) (q_up fc 2 0 (Int32.ofInt 0)) ρ) (zQrd0 hT hA) ?_
  intro fc1 ρ1 o ho hg1
  obtain ⟨htk, hfr, ho⟩ := ho
  have hγ : ∀ fc2, hr_new 0 1 0 fc fc2 → qγ Γ fc fc2 := fun fc2 hn => ⟨hΓ1 fc fc2 hfc hn, fun κ hκ => (hn.1 κ (hΓ2 κ hκ)).symm⟩
  rcases ho with ⟨ho, y, hy⟩ | ⟨ho, M, hy, hw, hM⟩
  · rw [ho] at hg1 ⊢
    have hl1 : ρ1.length = 58 := hg1.len rfl
    have hl2 : (ρ1.take 57).length = 57 := by rw [List.length_take]; omega
    have he : ρ1 = ρ1.take 57 ++ ρ1.drop 57 := (List.take_append_drop _ _).symm
    have hq : qe ρ (ρ1.take 57) := q_qe45 (n := 45) (by rw [List.take_take]; exact htk) hl
    refine ⟨rfl, hr_no fc fc1 0 (Int32.ofInt y), ρ1.take 57, zQR0p1.1, zQR0p1.2.1, ⟨?_, hq, hγ _ ?_⟩, fun ws h => ?_, ?_⟩
    · exact List.mem_cons_of_mem _ List.mem_cons_self
    · exact hr_no_new (by decide) hfr
    · have h2 := h.rf (c := 14) (t := 0) (N := 2) (κ := 3) (kn := []) (or := []) (a := .inl 0) (x := qa 57) (z := 0) (y := y) rfl (by decide +kernel) rfl (q_vs hy) rfl rfl
      have h3 := h2.ren (r := hr_rno) (fc' := hr_no fc fc1 0 (Int32.ofInt y)) (fun t N κ kn ov hm => hr_no_ren (q_ghs_ok (f := hr_f) (by decide +kernel) hm))
      rw [he] at h3
      exact qy_w.dn (by rw [hl2]; decide +kernel) h3
    · rw [he] at hg1
      exact qy_g.dn hg1 (by decide +kernel) (by rw [hl2]; rfl) (by decide +kernel) (by rw [hl2]; decide +kernel)
  · rw [ho] at hg1 ⊢
    have hl1 : ρ1.length = 56 := hg1.len rfl
    have hl2 : (ρ1.take 55).length = 55 := by rw [List.length_take]; omega
    have he : ρ1 = ρ1.take 55 ++ ρ1.drop 55 := (List.take_append_drop _ _).symm
    have hq : qe ρ (ρ1.take 55) := q_qe45 (n := 45) (by rw [List.take_take]; exact htk) hl
    refine ⟨rfl, hr_ok fc fc1 0 (Int32.ofInt ((0 + M : Nat) : Int)), ρ1.take 55, zQR0p0.1, zQR0p0.2.1, ⟨?_, hq, hγ _ ?_⟩, fun ws h => ?_, ?_⟩
    · exact List.mem_cons_self
    · exact hr_ok_new (by decide) hfr hw hM (by decide) (by rw [q_i32of (by omega) (by omega)]; omega)
    · have h2 := h.rf (c := 14) (t := 0) (N := 2) (κ := 3) (kn := []) (or := []) (a := .inl 0) (x := qa 55) (z := 0) (y := ((0 + M : Nat) : Int)) rfl (by decide +kernel) rfl (q_vs hy) rfl rfl
      have h3 := h2.ren (r := hr_rok) (fc' := hr_ok fc fc1 0 (Int32.ofInt ((0 + M : Nat) : Int))) (fun t N κ kn ov hm => hr_ok_ren (q_ghs_ok (f := hr_f) (by decide +kernel) hm))
      rw [he] at h3
      exact qy_w.dn (by rw [hl2]; decide +kernel) h3
    · rw [he] at hg1
      exact qy_g.dn hg1 (by decide +kernel) (by rw [hl2]; rfl) (by decide +kernel) (by rw [hl2]; decide +kernel)
theorem zQrd2 (hT : zk_t) (hA : zk_a) {fc : Nat → Nat → Int32} {ρ : List Int} : qy_TP ex D as tys 12 273 fc ρ zQT_s_r0_2.1 zQT_s_r0_2.2.1 zQT_s_r0_2.2.2.1 zQT_s_r0_2.2.2.2 0 (hr_P 0 (zQT_EFp2.1, zQT_EFp2.2.1, .inl none) (zQT_EOp2.1, zQT_EOp2.2.1, .inl none) (q_up fc 2 0 (Int32.ofInt 0)) ρ) := by
  refine qy_TP.intro fun _ hg => ?_
  have hl : ρ.length = 45 := hg.len rfl
  obtain ⟨sz, e0, hsz, he0, hes⟩ := hg.2.2 ((.ofNat 1), 1, (.negSucc 0), 5, (.ofNat 0)) (List.mem_cons_of_mem _ List.mem_cons_self)
  obtain ⟨tk, htk, htk0, _⟩ := hg.2.1 6 (0, 5) rfl
  obtain ⟨cd, hcd, hc1, hc2⟩ := hg.2.1 10 (0, 0) rfl
  have hes : e0 ≤ sz := by have h : (0 : Int) ≤ 1 * sz + (-1) * e0 := hes; omega
  have hc1 : (0 : Int) ≤ cd := hc1
  have hc2 : cd ≤ (0 : Int) := hc2
  have hc3 : cd = 0 := by omega
  rw [hc3] at hcd
  have htk0 : (0 : Int) ≤ tk := htk0
  have hsz : ρ[1]? = some sz := hsz
  have he0 : ρ[5]? = some e0 := he0
  refine qs_lnkB (p := 45) fa_nil hT hA zQg_r0_2 (fa_cons (fun ρ1 ht1 hL hg1 _ => ⟨fun rv hrv => ?_, fun q hq => ?_⟩) fa_nil)
  · have hrv : (Sum.inr _ : Option qV ⊕ (Nat × qL × List qV)) = Sum.inl rv := hrv
    cases hrv
  · have hq : (Sum.inr _ : Option qV ⊕ (Nat × qL × List qV)) = Sum.inr q := hq
    cases hq
    have hq1 : qe ρ ρ1 := q_qe45 ht1 hl
    have l1 : ρ1[1]? = some sz := hq1.at hsz
    have l5 : ρ1[5]? = some e0 := hq1.at he0
    have l46 : ρ1[46]? = some e0 := by rw [(hL.n (i := 46) (d := 0) (List.mem_cons_of_mem _ List.mem_cons_self) he0)]; exact congrArg some (by omega)
    have l47 : ρ1[47]? = some tk := by rw [(hL.n (i := 47) (d := 0) (List.mem_cons_of_mem _ (List.mem_cons_of_mem _ List.mem_cons_self)) htk)]; exact congrArg some (by omega)
    have l50 : ρ1[50]? = some (0 : Int) := by rw [(hL.n (i := 50) (d := 0) (List.mem_cons_of_mem _ (List.mem_cons_of_mem _ (List.mem_cons_of_mem _ (List.mem_cons_of_mem _ List.mem_cons_self)))) hcd)]; exact congrArg some (by omega)
    have l53 : ρ1[53]? = some (0 : Int) := (hL.l (i := 53) (z := 0) (List.mem_cons_of_mem _ (List.mem_cons_of_mem _ (List.mem_cons_of_mem _ (List.mem_cons_of_mem _ (List.mem_cons_of_mem _ (List.mem_cons_of_mem _ (List.mem_cons_of_mem _ List.mem_cons_self))))))))
    have l55 : ρ1[55]? = some (3 : Int) := (hL.l (i := 55) (z := 3) (List.mem_cons_of_mem _ (List.mem_cons_of_mem _ (List.mem_cons_of_mem _ (List.mem_cons_of_mem _ (List.mem_cons_of_mem _ (List.mem_cons_of_mem _ (List.mem_cons_of_mem _ (List.mem_cons_of_mem _ (List.mem_cons_of_mem _ List.mem_cons_self))))))))))
    refine qy_TP.pre (fc' := q_up fc 2 0 (Int32.ofInt 0)) (ρ' := ρ1) (g' := zQT_s_e0.1) (w' := zQT_s_e0.2.1) (lo' := zQT_RE.2.2.1) (st' := zQT_RE.2.2.2) ?_ (fun ws h => h.rf (c := 13) (t := 0) (N := 2) (κ := 2) (kn := []) (or := []) (a := .inl 0) (x := .inl 0) (z := 0) (y := 0) rfl (by decide +kernel) rfl rfl rfl rfl) (fun h => h) (fun _ _ h => h) (fun _ h => h)
    obtain ⟨hM, hcls, hrun⟩ := qs_vc (ex := ex) hT hA (k := 273) (pc := 32) rfl
    refine qy_TP.call (d := 11) (cs := [.inr (.inr (.inl (some 0)))]) (st := []) (av := [(0, .inr (.inr (.inl (some 0))))]) hM hcls hrun rfl rfl (by decide) (by decide +kernel) (Or.inr (Or.inr ⟨by decide, 0, 0, [], _, rfl, rfl⟩)) (zQee hT hA (fun f => zQh2 ex (qΓ1 f) D as tys hT hA) l1 l46 l47 htk0 l50 l53 hes) (fun f r o ho => ⟨ho.1, ⟨none, by rcases ho.2.2 with h | h; exact congrArg (fun x => x.2.2) h; exact congrArg (fun x => x.2.2) h.1⟩⟩) ?_
    intro fc2 ρ2 o rv ho hrv _ hg2
    obtain ⟨hq2, hfr, ho⟩ := ho
    have m55 := hq2.at l55
    have m5 := hq2.at l5
    have ht2 : ρ2.take 45 = ρ.take 45 := by obtain ⟨x2, hx2⟩ := hq1.tr hq2; rw [hx2, List.take_append_of_le_length (by omega)]
    rcases ho with ho | ⟨ho, M, e, e0x, m61, hw, hM2, h46, h57, hee⟩
    · rw [ho] at hrv hg2
      rw [ho]
      have hrv : (Sum.inl none : Option qV ⊕ (Nat × qL × List qV)) = Sum.inl rv := hrv
      cases hrv
      refine qy_TP.pre (ρ' := ρ2) (g' := zQT_s_r35_EF2.1) (w' := zQT_s_r35_EF2.2.1) (lo' := zQT_s_r35_EF2.2.2.1) (st' := zQT_s_r35_EF2.2.2.2) ?_ (fun ws h => h) (fun h => h.to0 [(55, 3, 3)] [] (by decide +kernel) rfl (by decide +kernel) (fa_ex m55 (Int.le_refl _) (Int.le_refl _) fa_nil) fa_nil) (fun _ _ h => h) (fun _ h => h)
      refine qs_lnkB (p := 45) fa_nil hT hA zQg_r35_EF2 (fa_cons (fun ρ3 ht3 hL hg3 _ => ⟨fun rv hrv => ?_, fun q hq => ?_⟩) fa_nil)
      · obtain ⟨y, hy, _⟩ := hg3.2.1 57 _ rfl
        exact ⟨by rw [ht3]; exact ht2, hfr, Or.inl ⟨rfl, y, hy⟩⟩
      · have hq : (Sum.inl _ : Option qV ⊕ (Nat × qL × List qV)) = Sum.inr q := hq
        cases hq
    · rw [ho] at hrv hg2
      rw [ho]
      have hrv : (Sum.inl none : Option qV ⊕ (Nat × qL × List qV)) = Sum.inl rv := hrv
      cases hrv
      have hee2 : e0 ≤ e := by rw [l46] at h46; cases h46; exact hee
      refine qy_TP.pre (ρ' := ρ2) (g' := zQT_s_r35_EO2.1) (w' := zQT_s_r35_EO2.2.1) (lo' := zQT_s_r35_EO2.2.2.1) (st' := zQT_s_r35_EO2.2.2.2) ?_ (fun ws h => h) (fun h => h.to0 [(55, 3, 3)] [((.ofNat 1), 57, (.negSucc 0), 5, (.ofNat 0))] (by decide +kernel) rfl (by decide +kernel) (fa_ex m55 (Int.le_refl _) (Int.le_refl _) fa_nil) (fa_cons ⟨e, e0, h57, m5, by show (0 : Int) ≤ 1 * e + (-1) * e0; omega⟩ fa_nil)) (fun _ _ h => h) (fun _ h => h)
      refine qs_lnkB (p := 45) fa_nil hT hA zQg_r35_EO2 (fa_cons (fun ρ3 ht3 hL hg3 _ => ⟨fun rv hrv => ?_, fun q hq => ?_⟩) fa_nil)
      · refine ⟨by rw [ht3]; exact ht2, hfr, Or.inr ⟨rfl, M, ?_, hw, hM2⟩⟩
        rw [(hL.n (i := 55) (d := 0) (List.mem_cons_of_mem _ (List.mem_cons_of_mem _ (List.mem_cons_of_mem _ (List.mem_cons_of_mem _ (List.mem_cons_of_mem _ (List.mem_cons_of_mem _ (List.mem_cons_of_mem _ (List.mem_cons_of_mem _ (List.mem_cons_of_mem _ List.mem_cons_self))))))))) m61)]; exact congrArg some (by omega)
      · have hq : (Sum.inl _ : Option qV ⊕ (Nat × qL × List qV)) = Sum.inr q := hq
        cases hq
def zQR2p0 : qO := ((zQk12.2.2.2.2.2.headD ((([], []), [], none))).1, (zQk12.2.2.2.2.2.headD ((([], []), [], none))).2.1, .inl none)
def zQR2p1 : qO := ((zQk12.2.2.2.2.2.tail.headD ((([], []), [], none))).1, (zQk12.2.2.2.2.2.tail.headD ((([], []), [], none))).2.1, .inl none)
theorem zQread2 (hT : zk_t) (hA : zk_a) (hΓ1 : ∀ fc fc', Γ.1 fc → hr_new 0 1 0 fc fc' → Γ.1 fc') (hΓ2 : ∀ κ, Γ.2 κ → κ ≤ 4) : qy_V ex Γ D as tys zQk12 := by
  refine qy_V.ofTP fun fc ρ hfc => qy_TP.intro fun _ hg => ?_
  have hl : ρ.length = 45 := hg.len rfl
  refine qy_TP.conv (P1 := hr_P 0 (zQT_EFp2.1, zQT_EFp2.2.1, .inl none) (zQT_EOp2.1, zQT_EOp2.2.1, .inl none) (q_up fc 2 0 (Int32.ofInt 0)) ρ) (zQrd2 hT hA) ?_
  intro fc1 ρ1 o ho hg1
  obtain ⟨htk, hfr, ho⟩ := ho
  have hγ : ∀ fc2, hr_new 0 1 0 fc fc2 → qγ Γ fc fc2 := fun fc2 hn => ⟨hΓ1 fc fc2 hfc hn, fun κ hκ => (hn.1 κ (hΓ2 κ hκ)).symm⟩
  rcases ho with ⟨ho, y, hy⟩ | ⟨ho, M, hy, hw, hM⟩
  · rw [ho] at hg1 ⊢
    have hl1 : ρ1.length = 58 := hg1.len rfl
    have hl2 : (ρ1.take 57).length = 57 := by rw [List.length_take]; omega
    have he : ρ1 = ρ1.take 57 ++ ρ1.drop 57 := (List.take_append_drop _ _).symm
    have hq : qe ρ (ρ1.take 57) := q_qe45 (n := 45) (by rw [List.take_take]; exact htk) hl
    refine ⟨rfl, hr_no fc fc1 0 (Int32.ofInt y), ρ1.take 57, zQR2p1.1, zQR2p1.2.1, ⟨?_, hq, hγ _ ?_⟩, fun ws h => ?_, ?_⟩
    · exact List.mem_cons_of_mem _ List.mem_cons_self
    · exact hr_no_new (by decide) hfr
    · have h2 := h.rf (c := 14) (t := 0) (N := 2) (κ := 3) (kn := []) (or := []) (a := .inl 0) (x := qa 57) (z := 0) (y := y) rfl (by decide +kernel) rfl (q_vs hy) rfl rfl
      have h3 := h2.ren (r := hr_rno) (fc' := hr_no fc fc1 0 (Int32.ofInt y)) (fun t N κ kn ov hm => hr_no_ren (q_ghs_ok (f := hr_f) (by decide +kernel) hm))
      rw [he] at h3
      exact qy_w.dn (by rw [hl2]; decide +kernel) h3
    · rw [he] at hg1
      exact qy_g.dn hg1 (by decide +kernel) (by rw [hl2]; rfl) (by decide +kernel) (by rw [hl2]; decide +kernel)
  · rw [ho] at hg1 ⊢
    have hl1 : ρ1.length = 56 := hg1.len rfl
    have hl2 : (ρ1.take 55).length = 55 := by rw [List.length_take]; omega
    have he : ρ1 = ρ1.take 55 ++ ρ1.drop 55 := (List.take_append_drop _ _).symm
    have hq : qe ρ (ρ1.take 55) := q_qe45 (n := 45) (by rw [List.take_take]; exact htk) hl
    refine ⟨rfl, hr_ok fc fc1 0 (Int32.ofInt ((0 + M : Nat) : Int)), ρ1.take 55, zQR2p0.1, zQR2p0.2.1, ⟨?_, hq, hγ _ ?_⟩, fun ws h => ?_, ?_⟩
    · exact List.mem_cons_self
    · exact hr_ok_new (by decide) hfr hw hM (by decide) (by rw [q_i32of (by omega) (by omega)]; omega)
    · have h2 := h.rf (c := 14) (t := 0) (N := 2) (κ := 3) (kn := []) (or := []) (a := .inl 0) (x := qa 55) (z := 0) (y := ((0 + M : Nat) : Int)) rfl (by decide +kernel) rfl (q_vs hy) rfl rfl
      have h3 := h2.ren (r := hr_rok) (fc' := hr_ok fc fc1 0 (Int32.ofInt ((0 + M : Nat) : Int))) (fun t N κ kn ov hm => hr_ok_ren (q_ghs_ok (f := hr_f) (by decide +kernel) hm))
      rw [he] at h3
      exact qy_w.dn (by rw [hl2]; decide +kernel) h3
    · rw [he] at hg1
      exact qy_g.dn hg1 (by decide +kernel) (by rw [hl2]; rfl) (by decide +kernel) (by rw [hl2]; decide +kernel)
theorem zQrd4 (hT : zk_t) (hA : zk_a) {fc : Nat → Nat → Int32} {ρ : List Int} : qy_TP ex D as tys 12 273 fc ρ zQT_s_r0_4.1 zQT_s_r0_4.2.1 zQT_s_r0_4.2.2.1 zQT_s_r0_4.2.2.2 0 (hr_P 0 (zQT_EFp4.1, zQT_EFp4.2.1, .inl none) (zQT_EOp4.1, zQT_EOp4.2.1, .inl none) (q_up fc 2 0 (Int32.ofInt 0)) ρ) := by
  refine qy_TP.intro fun _ hg => ?_
  have hl : ρ.length = 45 := hg.len rfl
  obtain ⟨sz, e0, hsz, he0, hes⟩ := hg.2.2 ((.ofNat 1), 1, (.negSucc 0), 5, (.ofNat 0)) (List.mem_cons_of_mem _ List.mem_cons_self)
  obtain ⟨tk, htk, htk0, _⟩ := hg.2.1 6 (0, 5) rfl
  obtain ⟨cd, hcd, hc1, hc2⟩ := hg.2.1 10 (0, 0) rfl
  have hes : e0 ≤ sz := by have h : (0 : Int) ≤ 1 * sz + (-1) * e0 := hes; omega
  have hc1 : (0 : Int) ≤ cd := hc1
  have hc2 : cd ≤ (0 : Int) := hc2
  have hc3 : cd = 0 := by omega
  rw [hc3] at hcd
  have htk0 : (0 : Int) ≤ tk := htk0
  have hsz : ρ[1]? = some sz := hsz
  have he0 : ρ[5]? = some e0 := he0
  refine qs_lnkB (p := 45) fa_nil hT hA zQg_r0_4 (fa_cons (fun ρ1 ht1 hL hg1 _ => ⟨fun rv hrv => ?_, fun q hq => ?_⟩) fa_nil)
  · have hrv : (Sum.inr _ : Option qV ⊕ (Nat × qL × List qV)) = Sum.inl rv := hrv
    cases hrv
  · have hq : (Sum.inr _ : Option qV ⊕ (Nat × qL × List qV)) = Sum.inr q := hq
    cases hq
    have hq1 : qe ρ ρ1 := q_qe45 ht1 hl
    have l1 : ρ1[1]? = some sz := hq1.at hsz
    have l5 : ρ1[5]? = some e0 := hq1.at he0
    have l46 : ρ1[46]? = some e0 := by rw [(hL.n (i := 46) (d := 0) (List.mem_cons_of_mem _ List.mem_cons_self) he0)]; exact congrArg some (by omega)
    have l47 : ρ1[47]? = some tk := by rw [(hL.n (i := 47) (d := 0) (List.mem_cons_of_mem _ (List.mem_cons_of_mem _ List.mem_cons_self)) htk)]; exact congrArg some (by omega)
    have l50 : ρ1[50]? = some (0 : Int) := by rw [(hL.n (i := 50) (d := 0) (List.mem_cons_of_mem _ (List.mem_cons_of_mem _ (List.mem_cons_of_mem _ (List.mem_cons_of_mem _ List.mem_cons_self)))) hcd)]; exact congrArg some (by omega)
    have l53 : ρ1[53]? = some (0 : Int) := (hL.l (i := 53) (z := 0) (List.mem_cons_of_mem _ (List.mem_cons_of_mem _ (List.mem_cons_of_mem _ (List.mem_cons_of_mem _ (List.mem_cons_of_mem _ (List.mem_cons_of_mem _ (List.mem_cons_of_mem _ List.mem_cons_self))))))))
    have l55 : ρ1[55]? = some (5 : Int) := (hL.l (i := 55) (z := 5) (List.mem_cons_of_mem _ (List.mem_cons_of_mem _ (List.mem_cons_of_mem _ (List.mem_cons_of_mem _ (List.mem_cons_of_mem _ (List.mem_cons_of_mem _ (List.mem_cons_of_mem _ (List.mem_cons_of_mem _ (List.mem_cons_of_mem _ List.mem_cons_self))))))))))
    refine qy_TP.pre (fc' := q_up fc 2 0 (Int32.ofInt 0)) (ρ' := ρ1) (g' := zQT_s_e0.1) (w' := zQT_s_e0.2.1) (lo' := zQT_RE.2.2.1) (st' := zQT_RE.2.2.2) ?_ (fun ws h => h.rf (c := 13) (t := 0) (N := 2) (κ := 2) (kn := []) (or := []) (a := .inl 0) (x := .inl 0) (z := 0) (y := 0) rfl (by decide +kernel) rfl rfl rfl rfl) (fun h => h) (fun _ _ h => h) (fun _ h => h)
    obtain ⟨hM, hcls, hrun⟩ := qs_vc (ex := ex) hT hA (k := 273) (pc := 32) rfl
    refine qy_TP.call (d := 11) (cs := [.inr (.inr (.inl (some 0)))]) (st := []) (av := [(0, .inr (.inr (.inl (some 0))))]) hM hcls hrun rfl rfl (by decide) (by decide +kernel) (Or.inr (Or.inr ⟨by decide, 0, 0, [], _, rfl, rfl⟩)) (zQee hT hA (fun f => zQh2 ex (qΓ1 f) D as tys hT hA) l1 l46 l47 htk0 l50 l53 hes) (fun f r o ho => ⟨ho.1, ⟨none, by rcases ho.2.2 with h | h; exact congrArg (fun x => x.2.2) h; exact congrArg (fun x => x.2.2) h.1⟩⟩) ?_
    intro fc2 ρ2 o rv ho hrv _ hg2
    obtain ⟨hq2, hfr, ho⟩ := ho
    have m55 := hq2.at l55
    have m5 := hq2.at l5
    have ht2 : ρ2.take 45 = ρ.take 45 := by obtain ⟨x2, hx2⟩ := hq1.tr hq2; rw [hx2, List.take_append_of_le_length (by omega)]
    rcases ho with ho | ⟨ho, M, e, e0x, m61, hw, hM2, h46, h57, hee⟩
    · rw [ho] at hrv hg2
      rw [ho]
      have hrv : (Sum.inl none : Option qV ⊕ (Nat × qL × List qV)) = Sum.inl rv := hrv
      cases hrv
      refine qy_TP.pre (ρ' := ρ2) (g' := zQT_s_r35_EF4.1) (w' := zQT_s_r35_EF4.2.1) (lo' := zQT_s_r35_EF4.2.2.1) (st' := zQT_s_r35_EF4.2.2.2) ?_ (fun ws h => h) (fun h => h.to0 [(55, 5, 5)] [] (by decide +kernel) rfl (by decide +kernel) (fa_ex m55 (Int.le_refl _) (Int.le_refl _) fa_nil) fa_nil) (fun _ _ h => h) (fun _ h => h)
      refine qs_lnkB (p := 45) fa_nil hT hA zQg_r35_EF4 (fa_cons (fun ρ3 ht3 hL hg3 _ => ⟨fun rv hrv => ?_, fun q hq => ?_⟩) fa_nil)
      · obtain ⟨y, hy, _⟩ := hg3.2.1 57 _ rfl
        exact ⟨by rw [ht3]; exact ht2, hfr, Or.inl ⟨rfl, y, hy⟩⟩
      · have hq : (Sum.inl _ : Option qV ⊕ (Nat × qL × List qV)) = Sum.inr q := hq
        cases hq
    · rw [ho] at hrv hg2
      rw [ho]
      have hrv : (Sum.inl none : Option qV ⊕ (Nat × qL × List qV)) = Sum.inl rv := hrv
      cases hrv
      have hee2 : e0 ≤ e := by rw [l46] at h46; cases h46; exact hee
      refine qy_TP.pre (ρ' := ρ2) (g' := zQT_s_r35_EO4.1) (w' := zQT_s_r35_EO4.2.1) (lo' := zQT_s_r35_EO4.2.2.1) (st' := zQT_s_r35_EO4.2.2.2) ?_ (fun ws h => h) (fun h => h.to0 [(55, 5, 5)] [((.ofNat 1), 57, (.negSucc 0), 5, (.ofNat 0))] (by decide +kernel) rfl (by decide +kernel) (fa_ex m55 (Int.le_refl _) (Int.le_refl _) fa_nil) (fa_cons ⟨e, e0, h57, m5, by show (0 : Int) ≤ 1 * e + (-1) * e0; omega⟩ fa_nil)) (fun _ _ h => h) (fun _ h => h)
      refine qs_lnkB (p := 45) fa_nil hT hA zQg_r35_EO4 (fa_cons (fun ρ3 ht3 hL hg3 _ => ⟨fun rv hrv => ?_, fun q hq => ?_⟩) fa_nil)
      · refine ⟨by rw [ht3]; exact ht2, hfr, Or.inr ⟨rfl, M, ?_, hw, hM2⟩⟩
        rw [(hL.n (i := 55) (d := 0) (List.mem_cons_of_mem _ (List.mem_cons_of_mem _ (List.mem_cons_of_mem _ (List.mem_cons_of_mem _ (List.mem_cons_of_mem _ (List.mem_cons_of_mem _ (List.mem_cons_of_mem _ (List.mem_cons_of_mem _ (List.mem_cons_of_mem _ List.mem_cons_self))))))))) m61)]; exact congrArg some (by omega)
      · have hq : (Sum.inl _ : Option qV ⊕ (Nat × qL × List qV)) = Sum.inr q := hq
        cases hq
def zQR4p0 : qO := ((zQk14.2.2.2.2.2.headD ((([], []), [], none))).1, (zQk14.2.2.2.2.2.headD ((([], []), [], none))).2.1, .inl none)
def zQR4p1 : qO := ((zQk14.2.2.2.2.2.tail.headD ((([], []), [], none))).1, (zQk14.2.2.2.2.2.tail.headD ((([], []), [], none))).2.1, .inl none)
theorem zQread4 (hT : zk_t) (hA : zk_a) (hΓ1 : ∀ fc fc', Γ.1 fc → hr_new 0 1 0 fc fc' → Γ.1 fc') (hΓ2 : ∀ κ, Γ.2 κ → κ ≤ 4) : qy_V ex Γ D as tys zQk14 := by
  refine qy_V.ofTP fun fc ρ hfc => qy_TP.intro fun _ hg => ?_
  have hl : ρ.length = 45 := hg.len rfl
  refine qy_TP.conv (P1 := hr_P 0 (zQT_EFp4.1, zQT_EFp4.2.1, .inl none) (zQT_EOp4.1, zQT_EOp4.2.1, .inl none) (q_up fc 2 0 (Int32.ofInt 0)) ρ) (zQrd4 hT hA) ?_
  intro fc1 ρ1 o ho hg1
  obtain ⟨htk, hfr, ho⟩ := ho
  have hγ : ∀ fc2, hr_new 0 1 0 fc fc2 → qγ Γ fc fc2 := fun fc2 hn => ⟨hΓ1 fc fc2 hfc hn, fun κ hκ => (hn.1 κ (hΓ2 κ hκ)).symm⟩
  rcases ho with ⟨ho, y, hy⟩ | ⟨ho, M, hy, hw, hM⟩
  · rw [ho] at hg1 ⊢
    have hl1 : ρ1.length = 58 := hg1.len rfl
    have hl2 : (ρ1.take 57).length = 57 := by rw [List.length_take]; omega
    have he : ρ1 = ρ1.take 57 ++ ρ1.drop 57 := (List.take_append_drop _ _).symm
    have hq : qe ρ (ρ1.take 57) := q_qe45 (n := 45) (by rw [List.take_take]; exact htk) hl
    refine ⟨rfl, hr_no fc fc1 0 (Int32.ofInt y), ρ1.take 57, zQR4p1.1, zQR4p1.2.1, ⟨?_, hq, hγ _ ?_⟩, fun ws h => ?_, ?_⟩
    · exact List.mem_cons_of_mem _ List.mem_cons_self
    · exact hr_no_new (by decide) hfr
    · have h2 := h.rf (c := 14) (t := 0) (N := 2) (κ := 3) (kn := []) (or := []) (a := .inl 0) (x := qa 57) (z := 0) (y := y) rfl (by decide +kernel) rfl (q_vs hy) rfl rfl
      have h3 := h2.ren (r := hr_rno) (fc' := hr_no fc fc1 0 (Int32.ofInt y)) (fun t N κ kn ov hm => hr_no_ren (q_ghs_ok (f := hr_f) (by decide +kernel) hm))
      rw [he] at h3
      exact qy_w.dn (by rw [hl2]; decide +kernel) h3
    · rw [he] at hg1
      exact qy_g.dn hg1 (by decide +kernel) (by rw [hl2]; rfl) (by decide +kernel) (by rw [hl2]; decide +kernel)
  · rw [ho] at hg1 ⊢
    have hl1 : ρ1.length = 56 := hg1.len rfl
    have hl2 : (ρ1.take 55).length = 55 := by rw [List.length_take]; omega
    have he : ρ1 = ρ1.take 55 ++ ρ1.drop 55 := (List.take_append_drop _ _).symm
    have hq : qe ρ (ρ1.take 55) := q_qe45 (n := 45) (by rw [List.take_take]; exact htk) hl
    refine ⟨rfl, hr_ok fc fc1 0 (Int32.ofInt ((0 + M : Nat) : Int)), ρ1.take 55, zQR4p0.1, zQR4p0.2.1, ⟨?_, hq, hγ _ ?_⟩, fun ws h => ?_, ?_⟩
    · exact List.mem_cons_self
    · exact hr_ok_new (by decide) hfr hw hM (by decide) (by rw [q_i32of (by omega) (by omega)]; omega)
    · have h2 := h.rf (c := 14) (t := 0) (N := 2) (κ := 3) (kn := []) (or := []) (a := .inl 0) (x := qa 55) (z := 0) (y := ((0 + M : Nat) : Int)) rfl (by decide +kernel) rfl (q_vs hy) rfl rfl
      have h3 := h2.ren (r := hr_rok) (fc' := hr_ok fc fc1 0 (Int32.ofInt ((0 + M : Nat) : Int))) (fun t N κ kn ov hm => hr_ok_ren (q_ghs_ok (f := hr_f) (by decide +kernel) hm))
      rw [he] at h3
      exact qy_w.dn (by rw [hl2]; decide +kernel) h3
    · rw [he] at hg1
      exact qy_g.dn hg1 (by decide +kernel) (by rw [hl2]; rfl) (by decide +kernel) (by rw [hl2]; decide +kernel)
theorem zQrd6 (hT : zk_t) (hA : zk_a) {fc : Nat → Nat → Int32} {ρ : List Int} : qy_TP ex D as tys 12 273 fc ρ zQT_s_r0_6.1 zQT_s_r0_6.2.1 zQT_s_r0_6.2.2.1 zQT_s_r0_6.2.2.2 0 (hr_P 0 (zQT_EFp6.1, zQT_EFp6.2.1, .inl none) (zQT_EOp6.1, zQT_EOp6.2.1, .inl none) (q_up fc 2 0 (Int32.ofInt 0)) ρ) := by
  refine qy_TP.intro fun _ hg => ?_
  have hl : ρ.length = 45 := hg.len rfl
  obtain ⟨sz, e0, hsz, he0, hes⟩ := hg.2.2 ((.ofNat 1), 1, (.negSucc 0), 5, (.ofNat 0)) (List.mem_cons_of_mem _ List.mem_cons_self)
  obtain ⟨tk, htk, htk0, _⟩ := hg.2.1 6 (0, 5) rfl
  obtain ⟨cd, hcd, hc1, hc2⟩ := hg.2.1 10 (0, 0) rfl
  have hes : e0 ≤ sz := by have h : (0 : Int) ≤ 1 * sz + (-1) * e0 := hes; omega
  have hc1 : (0 : Int) ≤ cd := hc1
  have hc2 : cd ≤ (0 : Int) := hc2
  have hc3 : cd = 0 := by omega
  rw [hc3] at hcd
  have htk0 : (0 : Int) ≤ tk := htk0
  have hsz : ρ[1]? = some sz := hsz
  have he0 : ρ[5]? = some e0 := he0
  refine qs_lnkB (p := 45) fa_nil hT hA zQg_r0_6 (fa_cons (fun ρ1 ht1 hL hg1 _ => ⟨fun rv hrv => ?_, fun q hq => ?_⟩) fa_nil)
  · have hrv : (Sum.inr _ : Option qV ⊕ (Nat × qL × List qV)) = Sum.inl rv := hrv
    cases hrv
  · have hq : (Sum.inr _ : Option qV ⊕ (Nat × qL × List qV)) = Sum.inr q := hq
    cases hq
    have hq1 : qe ρ ρ1 := q_qe45 ht1 hl
    have l1 : ρ1[1]? = some sz := hq1.at hsz
    have l5 : ρ1[5]? = some e0 := hq1.at he0
    have l46 : ρ1[46]? = some e0 := by rw [(hL.n (i := 46) (d := 0) (List.mem_cons_of_mem _ List.mem_cons_self) he0)]; exact congrArg some (by omega)
    have l47 : ρ1[47]? = some tk := by rw [(hL.n (i := 47) (d := 0) (List.mem_cons_of_mem _ (List.mem_cons_of_mem _ List.mem_cons_self)) htk)]; exact congrArg some (by omega)
    have l50 : ρ1[50]? = some (0 : Int) := by rw [(hL.n (i := 50) (d := 0) (List.mem_cons_of_mem _ (List.mem_cons_of_mem _ (List.mem_cons_of_mem _ (List.mem_cons_of_mem _ List.mem_cons_self)))) hcd)]; exact congrArg some (by omega)
    have l53 : ρ1[53]? = some (0 : Int) := (hL.l (i := 53) (z := 0) (List.mem_cons_of_mem _ (List.mem_cons_of_mem _ (List.mem_cons_of_mem _ (List.mem_cons_of_mem _ (List.mem_cons_of_mem _ (List.mem_cons_of_mem _ (List.mem_cons_of_mem _ List.mem_cons_self))))))))
    have l55 : ρ1[55]? = some (7 : Int) := (hL.l (i := 55) (z := 7) (List.mem_cons_of_mem _ (List.mem_cons_of_mem _ (List.mem_cons_of_mem _ (List.mem_cons_of_mem _ (List.mem_cons_of_mem _ (List.mem_cons_of_mem _ (List.mem_cons_of_mem _ (List.mem_cons_of_mem _ (List.mem_cons_of_mem _ List.mem_cons_self))))))))))
    refine qy_TP.pre (fc' := q_up fc 2 0 (Int32.ofInt 0)) (ρ' := ρ1) (g' := zQT_s_e0.1) (w' := zQT_s_e0.2.1) (lo' := zQT_RE.2.2.1) (st' := zQT_RE.2.2.2) ?_ (fun ws h => h.rf (c := 13) (t := 0) (N := 2) (κ := 2) (kn := []) (or := []) (a := .inl 0) (x := .inl 0) (z := 0) (y := 0) rfl (by decide +kernel) rfl rfl rfl rfl) (fun h => h) (fun _ _ h => h) (fun _ h => h)
    obtain ⟨hM, hcls, hrun⟩ := qs_vc (ex := ex) hT hA (k := 273) (pc := 32) rfl
    refine qy_TP.call (d := 11) (cs := [.inr (.inr (.inl (some 0)))]) (st := []) (av := [(0, .inr (.inr (.inl (some 0))))]) hM hcls hrun rfl rfl (by decide) (by decide +kernel) (Or.inr (Or.inr ⟨by decide, 0, 0, [], _, rfl, rfl⟩)) (zQee hT hA (fun f => zQh2 ex (qΓ1 f) D as tys hT hA) l1 l46 l47 htk0 l50 l53 hes) (fun f r o ho => ⟨ho.1, ⟨none, by rcases ho.2.2 with h | h; exact congrArg (fun x => x.2.2) h; exact congrArg (fun x => x.2.2) h.1⟩⟩) ?_
    intro fc2 ρ2 o rv ho hrv _ hg2
    obtain ⟨hq2, hfr, ho⟩ := ho
    have m55 := hq2.at l55
    have m5 := hq2.at l5
    have ht2 : ρ2.take 45 = ρ.take 45 := by obtain ⟨x2, hx2⟩ := hq1.tr hq2; rw [hx2, List.take_append_of_le_length (by omega)]
    rcases ho with ho | ⟨ho, M, e, e0x, m61, hw, hM2, h46, h57, hee⟩
    · rw [ho] at hrv hg2
      rw [ho]
      have hrv : (Sum.inl none : Option qV ⊕ (Nat × qL × List qV)) = Sum.inl rv := hrv
      cases hrv
      refine qy_TP.pre (ρ' := ρ2) (g' := zQT_s_r35_EF6.1) (w' := zQT_s_r35_EF6.2.1) (lo' := zQT_s_r35_EF6.2.2.1) (st' := zQT_s_r35_EF6.2.2.2) ?_ (fun ws h => h) (fun h => h.to0 [(55, 7, 7)] [] (by decide +kernel) rfl (by decide +kernel) (fa_ex m55 (Int.le_refl _) (Int.le_refl _) fa_nil) fa_nil) (fun _ _ h => h) (fun _ h => h)
      refine qs_lnkB (p := 45) fa_nil hT hA zQg_r35_EF6 (fa_cons (fun ρ3 ht3 hL hg3 _ => ⟨fun rv hrv => ?_, fun q hq => ?_⟩) fa_nil)
      · obtain ⟨y, hy, _⟩ := hg3.2.1 57 _ rfl
        exact ⟨by rw [ht3]; exact ht2, hfr, Or.inl ⟨rfl, y, hy⟩⟩
      · have hq : (Sum.inl _ : Option qV ⊕ (Nat × qL × List qV)) = Sum.inr q := hq
        cases hq
    · rw [ho] at hrv hg2
      rw [ho]
      have hrv : (Sum.inl none : Option qV ⊕ (Nat × qL × List qV)) = Sum.inl rv := hrv
      cases hrv
      have hee2 : e0 ≤ e := by rw [l46] at h46; cases h46; exact hee
      refine qy_TP.pre (ρ' := ρ2) (g' := zQT_s_r35_EO6.1) (w' := zQT_s_r35_EO6.2.1) (lo' := zQT_s_r35_EO6.2.2.1) (st' := zQT_s_r35_EO6.2.2.2) ?_ (fun ws h => h) (fun h => h.to0 [(55, 7, 7)] [((.ofNat 1), 57, (.negSucc 0), 5, (.ofNat 0))] (by decide +kernel) rfl (by decide +kernel) (fa_ex m55 (Int.le_refl _) (Int.le_refl _) fa_nil) (fa_cons ⟨e, e0, h57, m5, by show (0 : Int) ≤ 1 * e + (-1) * e0; omega⟩ fa_nil)) (fun _ _ h => h) (fun _ h => h)
      refine qs_lnkB (p := 45) fa_nil hT hA zQg_r35_EO6 (fa_cons (fun ρ3 ht3 hL hg3 _ => ⟨fun rv hrv => ?_, fun q hq => ?_⟩) fa_nil)
      · refine ⟨by rw [ht3]; exact ht2, hfr, Or.inr ⟨rfl, M, ?_, hw, hM2⟩⟩
        rw [(hL.n (i := 55) (d := 0) (List.mem_cons_of_mem _ (List.mem_cons_of_mem _ (List.mem_cons_of_mem _ (List.mem_cons_of_mem _ (List.mem_cons_of_mem _ (List.mem_cons_of_mem _ (List.mem_cons_of_mem _ (List.mem_cons_of_mem _ (List.mem_cons_of_mem _ List.mem_cons_self))))))))) m61)]; exact congrArg some (by omega)
      · have hq : (Sum.inl _ : Option qV ⊕ (Nat × qL × List qV)) = Sum.inr q := hq
        cases hq
def zQR6p0 : qO := ((zQk16.2.2.2.2.2.headD ((([], []), [], none))).1, (zQk16.2.2.2.2.2.headD ((([], []), [], none))).2.1, .inl none)
def zQR6p1 : qO := ((zQk16.2.2.2.2.2.tail.headD ((([], []), [], none))).1, (zQk16.2.2.2.2.2.tail.headD ((([], []), [], none))).2.1, .inl none)
theorem zQread6 (hT : zk_t) (hA : zk_a) (hΓ1 : ∀ fc fc', Γ.1 fc → hr_new 0 1 0 fc fc' → Γ.1 fc') (hΓ2 : ∀ κ, Γ.2 κ → κ ≤ 4) : qy_V ex Γ D as tys zQk16 := by
  refine qy_V.ofTP fun fc ρ hfc => qy_TP.intro fun _ hg => ?_
  have hl : ρ.length = 45 := hg.len rfl
  refine qy_TP.conv (P1 := hr_P 0 (zQT_EFp6.1, zQT_EFp6.2.1, .inl none) (zQT_EOp6.1, zQT_EOp6.2.1, .inl none) (q_up fc 2 0 (Int32.ofInt 0)) ρ) (zQrd6 hT hA) ?_
  intro fc1 ρ1 o ho hg1
  obtain ⟨htk, hfr, ho⟩ := ho
  have hγ : ∀ fc2, hr_new 0 1 0 fc fc2 → qγ Γ fc fc2 := fun fc2 hn => ⟨hΓ1 fc fc2 hfc hn, fun κ hκ => (hn.1 κ (hΓ2 κ hκ)).symm⟩
  rcases ho with ⟨ho, y, hy⟩ | ⟨ho, M, hy, hw, hM⟩
  · rw [ho] at hg1 ⊢
    have hl1 : ρ1.length = 58 := hg1.len rfl
    have hl2 : (ρ1.take 57).length = 57 := by rw [List.length_take]; omega
    have he : ρ1 = ρ1.take 57 ++ ρ1.drop 57 := (List.take_append_drop _ _).symm
    have hq : qe ρ (ρ1.take 57) := q_qe45 (n := 45) (by rw [List.take_take]; exact htk) hl
    refine ⟨rfl, hr_no fc fc1 0 (Int32.ofInt y), ρ1.take 57, zQR6p1.1, zQR6p1.2.1, ⟨?_, hq, hγ _ ?_⟩, fun ws h => ?_, ?_⟩
    · exact List.mem_cons_of_mem _ List.mem_cons_self
    · exact hr_no_new (by decide) hfr
    · have h2 := h.rf (c := 14) (t := 0) (N := 2) (κ := 3) (kn := []) (or := []) (a := .inl 0) (x := qa 57) (z := 0) (y := y) rfl (by decide +kernel) rfl (q_vs hy) rfl rfl
      have h3 := h2.ren (r := hr_rno) (fc' := hr_no fc fc1 0 (Int32.ofInt y)) (fun t N κ kn ov hm => hr_no_ren (q_ghs_ok (f := hr_f) (by decide +kernel) hm))
      rw [he] at h3
      exact qy_w.dn (by rw [hl2]; decide +kernel) h3
    · rw [he] at hg1
      exact qy_g.dn hg1 (by decide +kernel) (by rw [hl2]; rfl) (by decide +kernel) (by rw [hl2]; decide +kernel)
  · rw [ho] at hg1 ⊢
    have hl1 : ρ1.length = 56 := hg1.len rfl
    have hl2 : (ρ1.take 55).length = 55 := by rw [List.length_take]; omega
    have he : ρ1 = ρ1.take 55 ++ ρ1.drop 55 := (List.take_append_drop _ _).symm
    have hq : qe ρ (ρ1.take 55) := q_qe45 (n := 45) (by rw [List.take_take]; exact htk) hl
    refine ⟨rfl, hr_ok fc fc1 0 (Int32.ofInt ((0 + M : Nat) : Int)), ρ1.take 55, zQR6p0.1, zQR6p0.2.1, ⟨?_, hq, hγ _ ?_⟩, fun ws h => ?_, ?_⟩
    · exact List.mem_cons_self
    · exact hr_ok_new (by decide) hfr hw hM (by decide) (by rw [q_i32of (by omega) (by omega)]; omega)
    · have h2 := h.rf (c := 14) (t := 0) (N := 2) (κ := 3) (kn := []) (or := []) (a := .inl 0) (x := qa 55) (z := 0) (y := ((0 + M : Nat) : Int)) rfl (by decide +kernel) rfl (q_vs hy) rfl rfl
      have h3 := h2.ren (r := hr_rok) (fc' := hr_ok fc fc1 0 (Int32.ofInt ((0 + M : Nat) : Int))) (fun t N κ kn ov hm => hr_ok_ren (q_ghs_ok (f := hr_f) (by decide +kernel) hm))
      rw [he] at h3
      exact qy_w.dn (by rw [hl2]; decide +kernel) h3
    · rw [he] at hg1
      exact qy_g.dn hg1 (by decide +kernel) (by rw [hl2]; rfl) (by decide +kernel) (by rw [hl2]; decide +kernel)
theorem zQhand (hT : zk_t) (hA : zk_a) (hΓ1 : ∀ fc fc', Γ.1 fc → hr_new 0 1 0 fc fc' → Γ.1 fc') (hΓ2 : ∀ κ, Γ.2 κ → κ ≤ 4) : ∀ c ∈ zQ_hand, qy_V ex Γ D as tys c := fa_cons (zQread0 hT hA hΓ1 hΓ2) (fa_cons (zQread2 hT hA hΓ1 hΓ2) (fa_cons (zQread4 hT hA hΓ1 hΓ2) (fa_cons (zQread6 hT hA hΓ1 hΓ2) (fa_nil))))
end zQR
