/-! later() in class and reference (by program: wip/p44/emlater.py) -/
section HLL
variable {ex : Nat → Value} {D : va_G} {as : List Nat} {tys : List (ClassId × FieldType)}
theorem qy_g.one {ρ : List Int} {g : qG} (h : qy_g ρ g) {i : Nat} {t lo hi : Int} (hρ : ρ[i]? = some t) (h1 : lo ≤ t) (h2 : t ≤ hi) : qy_g ρ (g.1.set i (lo, hi), g.2) := by
  refine ⟨by rw [List.length_set]; exact h.1, fun j q hq => ?_, h.2.2⟩
  have hq : (g.1.set i (lo, hi))[j]? = some q := hq
  rw [List.getElem?_set] at hq
  by_cases e : i = j
  · rw [if_pos e] at hq
    split at hq
    · cases hq
      exact ⟨t, by rw [← e]; exact hρ, h1, h2⟩
    · cases hq
  · rw [if_neg e] at hq
    exact h.2.1 j q hq
/-- a run to one end, with what becomes of the time -/
theorem hl_one (hT : zk_t) (hA : zk_a) {fc : Nat → Nat → Int32} {ρ : List Int} {k d : Nat} {G : qG} {W : List qE} {lo : qL} {I : qG × List qE} {rv : qV} {lk : List (Nat × qV)} (h : q_lgk [] 1000 0 k d [] 0 G W lo [] [((I.1, I.2, .inl (some rv)), lk, [])] = true) : qy_TP ex D as tys d k fc ρ G W lo [] 0 (fun fc' ρ' o => fc' = fc ∧ o = (I.1, I.2, .inl (some rv)) ∧ ∀ q ∈ lk, ∀ z, q_val ρ q.2 = some z → ρ'[q.1]? = some z) := by
  refine (qs_lnk (Γ := qΓ1 fc) (ρ := ρ) qv_nil hT hA rfl h).post ?_
  rintro fc' ρ' o ⟨E, hE, e1, hγ, -, hL⟩
  rcases List.mem_cons.mp hE with e | e
  · rw [e] at e1 hL
    exact ⟨hγ.1, e1.symm, fun q hq z hz => hL.1 q hq z hz⟩
  · cases e
noncomputable def hl_latO (k : Nat) (I : qG × List qE) (ti : Nat) (lo hi : Int) : Bool := q_lgk [] 1000 0 k 8 [] 0 (I.1.1 ++ [(lo, hi)], I.1.2) I.2 [(0, .inr (.inr (.inl (some 0)))), (1, .inr (.inl (I.1.1.length, 1, 0)))] [] [((I.1, I.2, .inl (some (.inl (.negSucc 0)))), [(ti, .inr (.inl (ti, 1, 0)))], [])]
def hl_r (t z : Int) : Int := if 0 ≤ z ∧ z ≤ 1000 ∧ t + z ≤ 100000 then t + z else -1
def hl_t (t z : Int) : Int := if 0 ≤ z ∧ z ≤ 1000 ∧ t + z ≤ 100000 then t + z else t
theorem hl_laterO (hT : zk_t) (hA : zk_a) {k ti ci mx : Nat} {I : qG × List qE} {Φ : (Nat → Nat → Int32) → Prop} (hM : zk_m k 0 0 mx) (hpos : ∀ v : qV, q_isL v = false → q_pos mx [(0, .inr (.inr (.inl (some 0)))), (1, v)] 0 = true) (hroot : ∃ fs, I.2[0]? = some (.inr (.inl (ci, fs)))) {ax : Nat} (hax : as[0]? = some ax) (x : Int32) {t lo hi : Int} (a1 : lo ≤ x.toInt) (a2 : x.toInt ≤ hi) (hh : hl_latO k I ti lo hi = true) (hn : ¬ (0 ≤ x.toInt ∧ x.toInt ≤ 1000 ∧ t + x.toInt ≤ 100000)) :
    hl_M ex D as tys 69 ci k (hl_I ex as tys Φ I ti t) [.ref ax, .int x] (fun r ws => r.toInt = hl_r t x.toInt ∧ hl_I ex as tys Φ I ti (hl_t t x.toInt) ws) := by
  rintro ws ⟨fc, ρ, hΦ, h1, h2, h3⟩
  obtain ⟨fs, hfs⟩ := hroot
  have fin : ∀ {rv : qV} {z r : Int} {fc' : Nat → Nat → Int32} {ρ' : List Int} {o : qO}, fc' = fc ∧ o = (I.1, I.2, .inl (some rv)) ∧ ρ'[ti]? = some z → z = hl_t t x.toInt → (∀ v, qy_v ρ' ex as rv v → ∃ y : Int32, v = .int y ∧ y.toInt = hl_r t x.toInt) → ∃ rv, o.2.2 = .inl (some rv) ∧ ∀ ws' v, qy_w ρ' ex fc' tys as o.2.1 ws' → qy_g ρ' o.1 → qy_v ρ' ex as rv v → ∃ y, v = .int y ∧ (y.toInt = hl_r t x.toInt ∧ hl_I ex as tys Φ I ti (hl_t t x.toInt) ws') := by
    rintro rv z r fc' ρ' o ⟨e1, e2, e3⟩ hz hv
    refine ⟨rv, by rw [e2], fun ws' v k1 k2 k3 => ?_⟩
    obtain ⟨y, y1, y2⟩ := hv v k3
    rw [e2] at k1 k2
    exact ⟨y, y1, y2, fc', ρ', by rw [e1]; exact hΦ, k1, k2, by rw [e3, hz]⟩
  have he : qe ρ (ρ ++ [x.toInt]) := ⟨_, rfl⟩
  refine ⟨fc, ρ ++ [x.toInt], (I.1.1 ++ [(lo, hi)], I.1.2), I.2, [(0, .inr (.inr (.inl (some 0)))), (1, .inr (.inl (I.1.1.length, 1, 0)))], _, (hl_one (I := I) hT hA hh).dep (by decide), h1.mono he, qy_g.ext h2 rfl ?_, ⟨⟨ax, hax, rfl⟩, ⟨x, x.toInt, rfl, q_ap0 h2.1.symm, by show x.toInt = 1 * x.toInt + 0; omega⟩, trivial⟩, ⟨mx, hM, hpos _ rfl⟩, ⟨0, 0, _, fs, rfl, hfs⟩, fun fc' ρ' o ho => ?_⟩
  · intro j r hj
    match j, hj with
    | 0, hj => cases hj; exact ⟨_, rfl, a1, a2⟩
    | j + 1, hj => cases hj
  · refine fin (r := 0) ⟨ho.1, ho.2.1, ho.2.2 _ List.mem_cons_self t (q_vs (he.at h3))⟩ ?_ ?_
    · unfold hl_t; rw [if_neg hn]
    · rintro v ⟨y, y1, y2⟩
      exact ⟨y, y1, by unfold hl_r; rw [if_neg hn, y2]; rfl⟩
/-- two numbers are added -/
theorem qs_iadd {ρ : List Int} {fc : Nat → Nat → Int32} {d k pc N : Nat} {g g' : qG} {w : List qE} {lo : qL} {st : List qV} {a b : qV} {x y : Int} {P : qP} (hdec : decode (zx_bys k) pc = .ok (.iadd, 1)) (ha : q_val ρ a = some x) (hb : q_val ρ b = some y) (ia : q_isI a = true) (ib : q_isI b = true) (hlo : -2147483648 ≤ x + y) (hhi : x + y ≤ 2147483647) (hN : ρ.length = N) (h : qy_TP ex D as tys d k fc (ρ ++ [x + y]) g' w lo (.inr (.inl (N, 1, 0)) :: st) (pc + 1) P) (hg : qy_g ρ g → qy_g (ρ ++ [x + y]) g') : qy_TP ex D as tys d k fc ρ g w lo (b :: a :: st) pc P := by
  have val : ∀ {v : qV} {u : Int} {z : Value}, q_isI v = true → q_val ρ v = some u → qy_v ρ ex as v z → ∃ i : Int32, z = .int i ∧ i.toInt = u := by
    intro v u z hv hu hi
    match v, hv, hu, hi with
    | .inl m, _, hu, ⟨i', e1, e2⟩ => exact ⟨i', e1, by rw [e2]; exact Option.some.inj hu⟩
    | .inr (.inl (s, c, d)), _, hu, ⟨i', r, e1, e2, e3⟩ =>
      have e2 : ρ[s]? = some r := e2
      have hu : (ρ[s]?).map (fun r => c * r + d) = some u := hu
      rw [e2] at hu
      exact ⟨i', e1, by rw [e3]; exact Option.some.inj hu⟩
  intro _ p' l e R s m args below meth cd A ws H locs cs sl ls sv Q Cx Dy hl hs hret
  have he : qe ρ (ρ ++ [x + y]) := ⟨_, rfl⟩
  match sv, hs with
  | vb :: va :: sv', ⟨h1, h2, h3⟩ =>
    obtain ⟨i1, e1, e2⟩ := val ib hb h1
    obtain ⟨i2, e3, e4⟩ := val ia ha h2
    rw [e1, e3]
    refine lv_iadd Cx.1 Cx.2.1 hdec ?_
    refine h () Cx ⟨Dy.1, Dy.2.1, Dy.2.2.1, Dy.2.2.2.1, Dy.2.2.2.2.1.mono he, hg Dy.2.2.2.2.2⟩ (hl.mono he) ⟨⟨i2 + i1, x + y, rfl, q_ap0 hN, ?_⟩, h3.mono he⟩ hret
    rw [Int32.toInt_add, e4, e2]
    show (x + y).bmod (2 ^ 32) = 1 * (x + y) + 0
    rw [Int.bmod_eq_of_le (by omega) (by omega)]
    omega
theorem qs_dec (hA : zk_a) {k pc nx : Nat} {t : List Nat} (h : (zx_code.getD k [])[pc]? = some (.iadd, 1, nx, t)) : decode (zx_bys k) pc = .ok (.iadd, 1) := by
  have h0 := hA k pc _ h
  have hq : (decide (decode (zx_bys k) pc = .ok (.iadd, 1)) && zx_okI k pc .iadd 1 nx t) = true := h0
  exact of_decide_eq_true (Bool.and_eq_true_iff.mp hq).1
def q_sf (e : qE) (f : Nat) (v : qV) : qE := match e with
  | .inr (.inl (c, fs)) => .inr (.inl (c, fs.set f v))
  | e => e
theorem q_same {ρ ρ' : List Int} {n : Nat} (h : ρ'.take n = ρ.take n) (h1 : ρ.length = n) (h2 : ρ'.length = n) : ρ' = ρ := by
  rw [List.take_of_length_le (by omega), List.take_of_length_le (by omega)] at h
  exact h
end HLL
noncomputable def zLAg : qG := (zIA.1.1.set 42 (0, 100000) ++ [(0, 1000)], zIA.1.2)
noncomputable def zLAh : qG := (zLAg.1 ++ [(100001, 101000)], zLAg.2)
noncomputable def zLAk : qG := (zLAg.1 ++ [(0, 100000)], zLAg.2)
noncomputable def zLAm : qG := (zLAk.1 ++ [(0, 100000)], zLAk.2)
noncomputable def zLAw : List qE := zIA.2.set 64 (q_sf (zIA.2.getD 64 (.inl (0, []))) 1 (qa 47))
set_option maxRecDepth 100000 in
theorem zLAs1 : q_lgk [] 1000 46 79 6 [16] 0 zLAg zIA.2 [(0, qr 64), (1, qa 45)] [] [((zLAg, zIA.2, .inr (16, [(0, qr 64), (1, qa 45)], [qa 45, qa 42])), [], [])] = true := by decide +kernel
set_option maxRecDepth 100000 in
theorem zLAs2 : q_lgk [] 1000 47 79 6 [] 17 zLAh zIA.2 [(0, qr 64), (1, qa 45)] [qa 46] [((zLAh, zIA.2, .inl (some (.inl (.negSucc 0)))), [], [])] = true := by decide +kernel
set_option maxRecDepth 100000 in
theorem zLAs3 : q_lgk [] 1000 47 79 6 [30] 17 zLAk zIA.2 [(0, qr 64), (1, qa 45)] [qa 46] [((zLAk, zIA.2, .inr (30, [(0, qr 64), (1, qa 45)], [qa 45, qa 42, qr 64])), [], [])] = true := by decide +kernel
set_option maxRecDepth 100000 in
theorem zLAs4 : q_lgk [] 1000 48 79 6 [] 31 zLAm zIA.2 [(0, qr 64), (1, qa 45)] [qa 47, qr 64] [((zLAm, zLAw, .inl (some (qa 47))), [], [])] = true := by decide +kernel
set_option maxRecDepth 100000 in
theorem zLAo1 : q_lgk [] 1000 46 26 7 [5] 0 zLAg zIA.2 [(0, qr 0), (1, qa 45)] [] [((zLAg, zIA.2, .inr (5, [(0, qr 0), (1, qa 45)], [qa 45, qr 64])), [], [])] = true := by decide +kernel
set_option maxRecDepth 100000 in
theorem zLAo2 : q_lgk [] 1000 47 26 7 [] 8 zLAh zIA.2 [(0, qr 0), (1, qa 45)] [.inl (.negSucc 0)] [((zLAh, zIA.2, .inl (some (.inl (.negSucc 0)))), [], [])] = true := by decide +kernel
set_option maxRecDepth 100000 in
theorem zLAo3 : q_lgk [] 1000 48 26 7 [] 8 zLAm zLAw [(0, qr 0), (1, qa 45)] [qa 47] [((zLAm, zLAw, .inl (some (qa 47))), [], [])] = true := by decide +kernel
set_option maxRecDepth 100000 in
theorem zLAcv : (match q_lde 0 (zLAm, zLAw, .inl none) [((zIA.1, zIA.2, .inl none), [(42, qa 47)], [])] with | some _ => true | none => false) = true := by decide +kernel
set_option maxRecDepth 100000 in
theorem zLAcw : (match q_lde 0 (zLAh, zIA.2, .inl none) [((zIA.1, zIA.2, .inl none), [(42, qa 42)], [])] with | some _ => true | none => false) = true := by decide +kernel
set_option maxRecDepth 100000 in
theorem zLAn : hl_latO 26 zIA 42 (.negSucc 2147483647) (.negSucc 0) = true := by decide +kernel
set_option maxRecDepth 100000 in
theorem zLAp : hl_latO 26 zIA 42 1001 2147483647 = true := by decide +kernel
section ZLA
variable {ex : Nat → Value} {D : va_G} {as : List Nat} {tys : List (ClassId × FieldType)} {fc : Nat → Nat → Int32} {ρ : List Int} {t z : Int}
theorem zLAX (hT : zk_t) (hA : zk_a) (h3 : ρ[42]? = some t) (hz : ρ[45]? = some z) (hs : 100000 < t + z) : qy_TP ex D as tys 6 79 fc ρ zLAg zIA.2 [(0, qr 64), (1, qa 45)] [] 0 (fun fc' ρ' o => fc' = fc ∧ o = (zLAh, zIA.2, .inl (some (.inl (.negSucc 0)))) ∧ ρ' = ρ ++ [t + z]) := by
  refine qy_TP.intro fun _ hg => ?_
  have hl : ρ.length = 46 := hg.1.symm
  have r1 : (0 : Int) ≤ t ∧ t ≤ 100000 := hg.rng (i := 42) (r := (0, 100000)) rfl h3
  have r2 : (0 : Int) ≤ z ∧ z ≤ 1000 := hg.rng (i := 45) (r := (0, 1000)) rfl hz
  refine qs_lnkB (p := 46) fa_nil hT hA zLAs1 (fa_cons (fun ρ1 ht1 hL hg1 _ => ⟨fun rv hrv => ?r, fun q hq => ?c⟩) fa_nil)
  case r =>
    have hrv : (Sum.inr _ : Option qV ⊕ (Nat × qL × List qV)) = Sum.inl rv := hrv
    cases hrv
  have hq : (Sum.inr _ : Option qV ⊕ (Nat × qL × List qV)) = Sum.inr q := hq
  cases hq
  have e1 : ρ1 = ρ := q_same ht1 hl hg1.1.symm
  rw [e1]
  have hl2 : (ρ ++ [t + z]).length = 47 := by rw [List.length_append, hl]; rfl
  refine qs_iadd (g' := zLAh) (N := 46) (qs_dec hA rfl) (q_vs h3) (q_vs hz) rfl rfl (by omega) (by omega) hl ?_ (fun h => qy_g.ext h rfl (fun j r hj => by
    match j, hj with
    | 0, hj => cases hj; exact ⟨_, rfl, (by show (100001 : Int) ≤ t + z; omega), (by show t + z ≤ (101000 : Int); omega)⟩
    | j + 1, hj => cases hj))
  refine qs_lnkB (p := 47) fa_nil hT hA zLAs2 (fa_cons (fun ρ2 ht2 hL hg2 _ => ⟨fun rv hrv => ⟨rfl, rfl, q_same ht2 hl2 hg2.1.symm⟩, fun q hq => ?_⟩) fa_nil)
  have hq : (Sum.inl _ : Option qV ⊕ (Nat × qL × List qV)) = Sum.inr q := hq
  cases hq
theorem zLAY (hT : zk_t) (hA : zk_a) (h3 : ρ[42]? = some t) (hz : ρ[45]? = some z) (hs : t + z ≤ 100000) : qy_TP ex D as tys 6 79 fc ρ zLAg zIA.2 [(0, qr 64), (1, qa 45)] [] 0 (fun fc' ρ' o => fc' = fc ∧ o = (zLAm, zLAw, .inl (some (qa 47))) ∧ ρ' = ρ ++ [t + z] ++ [t + z]) := by
  refine qy_TP.intro fun _ hg => ?_
  have hl : ρ.length = 46 := hg.1.symm
  have r1 : (0 : Int) ≤ t ∧ t ≤ 100000 := hg.rng (i := 42) (r := (0, 100000)) rfl h3
  have r2 : (0 : Int) ≤ z ∧ z ≤ 1000 := hg.rng (i := 45) (r := (0, 1000)) rfl hz
  refine qs_lnkB (p := 46) fa_nil hT hA zLAs1 (fa_cons (fun ρ1 ht1 hL hg1 _ => ⟨fun rv hrv => ?r, fun q hq => ?c⟩) fa_nil)
  case r =>
    have hrv : (Sum.inr _ : Option qV ⊕ (Nat × qL × List qV)) = Sum.inl rv := hrv
    cases hrv
  have hq : (Sum.inr _ : Option qV ⊕ (Nat × qL × List qV)) = Sum.inr q := hq
  cases hq
  have e1 : ρ1 = ρ := q_same ht1 hl hg1.1.symm
  rw [e1]
  have hl2 : (ρ ++ [t + z]).length = 47 := by rw [List.length_append, hl]; rfl
  refine qs_iadd (g' := zLAk) (N := 46) (qs_dec hA rfl) (q_vs h3) (q_vs hz) rfl rfl (by omega) (by omega) hl ?_ (fun h => qy_g.ext h rfl (fun j r hj => by
    match j, hj with
    | 0, hj => cases hj; exact ⟨_, rfl, (by show (0 : Int) ≤ t + z; omega), (by show t + z ≤ (100000 : Int); omega)⟩
    | j + 1, hj => cases hj))
  refine qs_lnkB (p := 47) fa_nil hT hA zLAs3 (fa_cons (fun ρ2 ht2 hL hg2 _ => ⟨fun rv hrv => ?r3, fun q hq => ?c3⟩) fa_nil)
  case r3 =>
    have hrv : (Sum.inr _ : Option qV ⊕ (Nat × qL × List qV)) = Sum.inl rv := hrv
    cases hrv
  have hq : (Sum.inr _ : Option qV ⊕ (Nat × qL × List qV)) = Sum.inr q := hq
  cases hq
  have e2 : ρ2 = ρ ++ [t + z] := q_same ht2 hl2 hg2.1.symm
  rw [e2]
  have he : qe ρ (ρ ++ [t + z]) := ⟨_, rfl⟩
  have hl3 : (ρ ++ [t + z] ++ [t + z]).length = 48 := by rw [List.length_append, hl2]; rfl
  refine qs_iadd (g' := zLAm) (N := 47) (qs_dec hA rfl) (q_vs (he.at h3)) (q_vs (he.at hz)) rfl rfl (by omega) (by omega) hl2 ?_ (fun h => qy_g.ext h rfl (fun j r hj => by
    match j, hj with
    | 0, hj => cases hj; exact ⟨_, rfl, (by show (0 : Int) ≤ t + z; omega), (by show t + z ≤ (100000 : Int); omega)⟩
    | j + 1, hj => cases hj))
  refine qs_lnkB (p := 48) fa_nil hT hA zLAs4 (fa_cons (fun ρ3 ht3 hL hg3 _ => ⟨fun rv hrv => ⟨rfl, rfl, q_same ht3 hl3 hg3.1.symm⟩, fun q hq => ?_⟩) fa_nil)
  have hq : (Sum.inl _ : Option qV ⊕ (Nat × qL × List qV)) = Sum.inr q := hq
  cases hq
theorem zLAX2 (hT : zk_t) (hA : zk_a) (h3 : ρ[42]? = some t) (hz : ρ[45]? = some z) (hs : 100000 < t + z) : qy_TP ex D as tys 7 26 fc ρ zLAg zIA.2 [(0, qr 0), (1, qa 45)] [] 0 (fun fc' ρ' o => fc' = fc ∧ o = (zLAh, zIA.2, .inl (some (.inl (.negSucc 0)))) ∧ ρ' = ρ ++ [t + z]) := by
  refine qy_TP.intro fun _ hg => ?_
  have hl : ρ.length = 46 := hg.1.symm
  refine qs_lnkB (p := 46) fa_nil hT hA zLAo1 (fa_cons (fun ρ1 ht1 hL hg1 _ => ⟨fun rv hrv => ?r, fun q hq => ?c⟩) fa_nil)
  case r =>
    have hrv : (Sum.inr _ : Option qV ⊕ (Nat × qL × List qV)) = Sum.inl rv := hrv
    cases hrv
  have hq : (Sum.inr _ : Option qV ⊕ (Nat × qL × List qV)) = Sum.inr q := hq
  cases hq
  have e1 : ρ1 = ρ := q_same ht1 hl hg1.1.symm
  rw [e1]
  obtain ⟨hM, hcls, hrun⟩ := qs_vc (ex := ex) hT hA (k := 26) (pc := 5) rfl
  refine qy_TP.call (d := 6) (cs := [qa 45, qr 64]) (st := []) (av := [(0, qr 64), (1, qa 45)]) hM hcls hrun rfl rfl (by decide) (by decide +kernel) (Or.inr (Or.inr ⟨by decide, 0, 64, _, _, rfl, rfl⟩)) (zLAX hT hA h3 hz hs) (fun f r o ho => ⟨by rw [ho.2.2]; exact ⟨_, rfl⟩, ⟨_, congrArg (fun x => x.2.2) ho.2.1⟩⟩) ?_
  intro fc2 ρ2 o rv ho hrv _ hg2
  obtain ⟨e2, e3, e4⟩ := ho
  rw [e3] at hrv hg2
  rw [e2, e3]
  have hrv : (Sum.inl (some (.inl (.negSucc 0))) : Option qV ⊕ (Nat × qL × List qV)) = Sum.inl rv := hrv
  cases hrv
  refine qs_lnkB (p := 47) fa_nil hT hA zLAo2 (fa_cons (fun ρ3 ht3 hL hg3 _ => ⟨fun rv hrv => ⟨rfl, rfl, ?_⟩, fun q hq => ?_⟩) fa_nil)
  · rw [← e4]; exact q_same ht3 hg2.1.symm hg3.1.symm
  · have hq : (Sum.inl _ : Option qV ⊕ (Nat × qL × List qV)) = Sum.inr q := hq
    cases hq
theorem zLAY2 (hT : zk_t) (hA : zk_a) (h3 : ρ[42]? = some t) (hz : ρ[45]? = some z) (hs : t + z ≤ 100000) : qy_TP ex D as tys 7 26 fc ρ zLAg zIA.2 [(0, qr 0), (1, qa 45)] [] 0 (fun fc' ρ' o => fc' = fc ∧ o = (zLAm, zLAw, .inl (some (qa 47))) ∧ ρ' = ρ ++ [t + z] ++ [t + z]) := by
  refine qy_TP.intro fun _ hg => ?_
  have hl : ρ.length = 46 := hg.1.symm
  refine qs_lnkB (p := 46) fa_nil hT hA zLAo1 (fa_cons (fun ρ1 ht1 hL hg1 _ => ⟨fun rv hrv => ?r, fun q hq => ?c⟩) fa_nil)
  case r =>
    have hrv : (Sum.inr _ : Option qV ⊕ (Nat × qL × List qV)) = Sum.inl rv := hrv
    cases hrv
  have hq : (Sum.inr _ : Option qV ⊕ (Nat × qL × List qV)) = Sum.inr q := hq
  cases hq
  have e1 : ρ1 = ρ := q_same ht1 hl hg1.1.symm
  rw [e1]
  obtain ⟨hM, hcls, hrun⟩ := qs_vc (ex := ex) hT hA (k := 26) (pc := 5) rfl
  refine qy_TP.call (d := 6) (cs := [qa 45, qr 64]) (st := []) (av := [(0, qr 64), (1, qa 45)]) hM hcls hrun rfl rfl (by decide) (by decide +kernel) (Or.inr (Or.inr ⟨by decide, 0, 64, _, _, rfl, rfl⟩)) (zLAY hT hA h3 hz hs) (fun f r o ho => ⟨by rw [ho.2.2]; exact ⟨_, (List.append_assoc _ _ _)⟩, ⟨_, congrArg (fun x => x.2.2) ho.2.1⟩⟩) ?_
  intro fc2 ρ2 o rv ho hrv _ hg2
  obtain ⟨e2, e3, e4⟩ := ho
  rw [e3] at hrv hg2
  rw [e2, e3]
  have hrv : (Sum.inl (some (qa 47)) : Option qV ⊕ (Nat × qL × List qV)) = Sum.inl rv := hrv
  cases hrv
  refine qs_lnkB (p := 48) fa_nil hT hA zLAo3 (fa_cons (fun ρ3 ht3 hL hg3 _ => ⟨fun rv hrv => ⟨rfl, rfl, ?_⟩, fun q hq => ?_⟩) fa_nil)
  · rw [← e4]; exact q_same ht3 hg2.1.symm hg3.1.symm
  · have hq : (Sum.inl _ : Option qV ⊕ (Nat × qL × List qV)) = Sum.inr q := hq
    cases hq
set_option maxRecDepth 100000 in
theorem zMA_later (hT : zk_t) (hA : zk_a) (hex : ∀ j, ex j = .null ∨ ∃ a, ex j = .ref a) {ax : Nat} (hax : as[0]? = some ax) (x : Int32) (ht0 : 0 ≤ t) (ht1 : t ≤ 100000) : hl_M ex D as tys 69 11 26 (hl_I ex as tys zΦ zIA 42 t) [.ref ax, .int x] (fun r ws => r.toInt = hl_r t x.toInt ∧ hl_I ex as tys zΦ zIA 42 (hl_t t x.toInt) ws) := by
  obtain ⟨hM, -, -⟩ := qs_vc (ex := ex) hT hA (k := 0) (pc := 1282) rfl
  have hq : ∀ (mx : Nat), 1 < mx → ∀ v : qV, q_isL v = false → q_pos mx [(0, .inr (.inr (.inl (some 0)))), (1, v)] 0 = true := fun mx hm v hv => by
    show cond (q_isL v) (Nat.ble 3 mx) (Nat.ble 2 mx) = true
    rw [hv]
    exact Nat.ble_eq_true_of_le hm
  have b1 := q_i32bd x
  rcases Int.lt_or_le x.toInt 0 with c1 | c1
  · exact hl_laterO hT hA hM (hq _ (by decide)) ⟨_, rfl⟩ hax x (lo := .negSucc 2147483647) (hi := .negSucc 0) b1.1 (by show x.toInt ≤ -1; omega) zLAn (by omega)
  · rcases Int.lt_or_le 1000 x.toInt with c2 | c2
    · exact hl_laterO hT hA hM (hq _ (by decide)) ⟨_, rfl⟩ hax x (lo := 1001) (hi := 2147483647) (by omega) b1.2 zLAp (by omega)
    · rintro ws ⟨fc, ρ, hΦ, h1, h2, h3⟩
      have hN : ρ.length = 45 := h2.1.symm
      have he : qe ρ (ρ ++ [x.toInt]) := ⟨_, rfl⟩
      have hg : qy_g (ρ ++ [x.toInt]) zLAg := qy_g.ext (h2.one h3 ht0 ht1) rfl (fun j r hj => by
        match j, hj with
        | 0, hj => cases hj; exact ⟨_, rfl, c1, c2⟩
        | j + 1, hj => cases hj)
      have ha : qy_s (ρ ++ [x.toInt]) ex as [qr 0, qa 45] [.ref ax, .int x] := ⟨⟨ax, hax, rfl⟩, ⟨x, x.toInt, rfl, q_ap0 hN, by show x.toInt = 1 * x.toInt + 0; omega⟩, trivial⟩
      rcases Int.lt_or_le 100000 (t + x.toInt) with c3 | c3
      · refine ⟨fc, ρ ++ [x.toInt], zLAg, zIA.2, [(0, qr 0), (1, qa 45)], _, (zLAX2 hT hA (he.at h3) (q_ap0 hN) c3).dep (by decide), h1.mono he, hg, ha, ⟨_, hM, hq _ (by decide) _ rfl⟩, ⟨0, 0, _, _, rfl, rfl⟩, fun fc' ρ' o ho => ?_⟩
        obtain ⟨e1, e2, e3⟩ := ho
        refine ⟨_, by rw [e2], fun ws' v q1 q2 q3 => ?_⟩
        rw [e2] at q1 q2
        obtain ⟨y, y1, y2⟩ := q3
        obtain ⟨ρ2, hL, g2, w2⟩ := hl_conv (fc := fc') (tys := tys) (as := as) (I := zIA) (G := zLAh) (W := zIA.2) (lk := ([(42, qa 42)], [])) hex zLAcw q2
        refine ⟨y, y1, by unfold hl_r; rw [if_neg (by omega), y2]; rfl, fc', ρ2, by rw [e1]; exact hΦ, w2 ws' q1, g2, ?_⟩
        have h4 : ρ'[42]? = some t := by rw [e3]; exact (show qe (ρ ++ [x.toInt]) (ρ ++ [x.toInt] ++ [t + x.toInt]) from ⟨_, rfl⟩).at (he.at h3)
        rw [hL.n (i := 42) (s := 42) (d := 0) List.mem_cons_self h4]
        unfold hl_t; rw [if_neg (by omega)]; exact congrArg some (by omega)
      · refine ⟨fc, ρ ++ [x.toInt], zLAg, zIA.2, [(0, qr 0), (1, qa 45)], _, (zLAY2 hT hA (he.at h3) (q_ap0 hN) c3).dep (by decide), h1.mono he, hg, ha, ⟨_, hM, hq _ (by decide) _ rfl⟩, ⟨0, 0, _, _, rfl, rfl⟩, fun fc' ρ' o ho => ?_⟩
        obtain ⟨e1, e2, e3⟩ := ho
        refine ⟨_, by rw [e2], fun ws' v q1 q2 q3 => ?_⟩
        rw [e2] at q1 q2
        obtain ⟨y, r, y1, y2, y3⟩ := q3
        have hl2 : (ρ ++ [x.toInt] ++ [t + x.toInt]).length = 47 := by rw [List.length_append, List.length_append, hN]; rfl
        have h5 : ρ'[47]? = some (t + x.toInt) := by rw [e3]; exact q_ap0 hl2
        have y2 : ρ'[47]? = some r := y2
        rw [h5] at y2
        cases y2
        obtain ⟨ρ2, hL, g2, w2⟩ := hl_conv (fc := fc') (tys := tys) (as := as) (I := zIA) (G := zLAm) (W := zLAw) (lk := ([(42, qa 47)], [])) hex zLAcv q2
        refine ⟨y, y1, by unfold hl_r; rw [if_pos ⟨c1, c2, c3⟩, y3]; show 1 * (t + x.toInt) + 0 = _; omega, fc', ρ2, by rw [e1]; exact hΦ, w2 ws' q1, g2, ?_⟩
        rw [hL.n (i := 42) (s := 47) (d := 0) List.mem_cons_self h5]
        unfold hl_t; rw [if_pos ⟨c1, c2, c3⟩]; exact congrArg some (by omega)
end ZLA
noncomputable def zLBg : qG := (zIB.1.1.set 42 (0, 100000) ++ [(0, 1000)], zIB.1.2)
noncomputable def zLBh : qG := (zLBg.1 ++ [(100001, 101000)], zLBg.2)
noncomputable def zLBk : qG := (zLBg.1 ++ [(0, 100000)], zLBg.2)
noncomputable def zLBm : qG := (zLBk.1 ++ [(0, 100000)], zLBk.2)
noncomputable def zLBw : List qE := zIB.2.set 64 (q_sf (zIB.2.getD 64 (.inl (0, []))) 1 (qa 47))
set_option maxRecDepth 100000 in
theorem zLBs1 : q_lgk [] 1000 46 79 6 [16] 0 zLBg zIB.2 [(0, qr 64), (1, qa 45)] [] [((zLBg, zIB.2, .inr (16, [(0, qr 64), (1, qa 45)], [qa 45, qa 42])), [], [])] = true := by decide +kernel
set_option maxRecDepth 100000 in
theorem zLBs2 : q_lgk [] 1000 47 79 6 [] 17 zLBh zIB.2 [(0, qr 64), (1, qa 45)] [qa 46] [((zLBh, zIB.2, .inl (some (.inl (.negSucc 0)))), [], [])] = true := by decide +kernel
set_option maxRecDepth 100000 in
theorem zLBs3 : q_lgk [] 1000 47 79 6 [30] 17 zLBk zIB.2 [(0, qr 64), (1, qa 45)] [qa 46] [((zLBk, zIB.2, .inr (30, [(0, qr 64), (1, qa 45)], [qa 45, qa 42, qr 64])), [], [])] = true := by decide +kernel
set_option maxRecDepth 100000 in
theorem zLBs4 : q_lgk [] 1000 48 79 6 [] 31 zLBm zIB.2 [(0, qr 64), (1, qa 45)] [qa 47, qr 64] [((zLBm, zLBw, .inl (some (qa 47))), [], [])] = true := by decide +kernel
set_option maxRecDepth 100000 in
theorem zLBo1 : q_lgk [] 1000 46 26 7 [5] 0 zLBg zIB.2 [(0, qr 0), (1, qa 45)] [] [((zLBg, zIB.2, .inr (5, [(0, qr 0), (1, qa 45)], [qa 45, qr 64])), [], [])] = true := by decide +kernel
set_option maxRecDepth 100000 in
theorem zLBo2 : q_lgk [] 1000 47 26 7 [] 8 zLBh zIB.2 [(0, qr 0), (1, qa 45)] [.inl (.negSucc 0)] [((zLBh, zIB.2, .inl (some (.inl (.negSucc 0)))), [], [])] = true := by decide +kernel
set_option maxRecDepth 100000 in
theorem zLBo3 : q_lgk [] 1000 48 26 7 [] 8 zLBm zLBw [(0, qr 0), (1, qa 45)] [qa 47] [((zLBm, zLBw, .inl (some (qa 47))), [], [])] = true := by decide +kernel
set_option maxRecDepth 100000 in
theorem zLBcv : (match q_lde 0 (zLBm, zLBw, .inl none) [((zIB.1, zIB.2, .inl none), [(42, qa 47)], [])] with | some _ => true | none => false) = true := by decide +kernel
set_option maxRecDepth 100000 in
theorem zLBcw : (match q_lde 0 (zLBh, zIB.2, .inl none) [((zIB.1, zIB.2, .inl none), [(42, qa 42)], [])] with | some _ => true | none => false) = true := by decide +kernel
set_option maxRecDepth 100000 in
theorem zLBn : hl_latO 26 zIB 42 (.negSucc 2147483647) (.negSucc 0) = true := by decide +kernel
set_option maxRecDepth 100000 in
theorem zLBp : hl_latO 26 zIB 42 1001 2147483647 = true := by decide +kernel
section ZLB
variable {ex : Nat → Value} {D : va_G} {as : List Nat} {tys : List (ClassId × FieldType)} {fc : Nat → Nat → Int32} {ρ : List Int} {t z : Int}
theorem zLBX (hT : zk_t) (hA : zk_a) (h3 : ρ[42]? = some t) (hz : ρ[45]? = some z) (hs : 100000 < t + z) : qy_TP ex D as tys 6 79 fc ρ zLBg zIB.2 [(0, qr 64), (1, qa 45)] [] 0 (fun fc' ρ' o => fc' = fc ∧ o = (zLBh, zIB.2, .inl (some (.inl (.negSucc 0)))) ∧ ρ' = ρ ++ [t + z]) := by
  refine qy_TP.intro fun _ hg => ?_
  have hl : ρ.length = 46 := hg.1.symm
  have r1 : (0 : Int) ≤ t ∧ t ≤ 100000 := hg.rng (i := 42) (r := (0, 100000)) rfl h3
  have r2 : (0 : Int) ≤ z ∧ z ≤ 1000 := hg.rng (i := 45) (r := (0, 1000)) rfl hz
  refine qs_lnkB (p := 46) fa_nil hT hA zLBs1 (fa_cons (fun ρ1 ht1 hL hg1 _ => ⟨fun rv hrv => ?r, fun q hq => ?c⟩) fa_nil)
  case r =>
    have hrv : (Sum.inr _ : Option qV ⊕ (Nat × qL × List qV)) = Sum.inl rv := hrv
    cases hrv
  have hq : (Sum.inr _ : Option qV ⊕ (Nat × qL × List qV)) = Sum.inr q := hq
  cases hq
  have e1 : ρ1 = ρ := q_same ht1 hl hg1.1.symm
  rw [e1]
  have hl2 : (ρ ++ [t + z]).length = 47 := by rw [List.length_append, hl]; rfl
  refine qs_iadd (g' := zLBh) (N := 46) (qs_dec hA rfl) (q_vs h3) (q_vs hz) rfl rfl (by omega) (by omega) hl ?_ (fun h => qy_g.ext h rfl (fun j r hj => by
    match j, hj with
    | 0, hj => cases hj; exact ⟨_, rfl, (by show (100001 : Int) ≤ t + z; omega), (by show t + z ≤ (101000 : Int); omega)⟩
    | j + 1, hj => cases hj))
  refine qs_lnkB (p := 47) fa_nil hT hA zLBs2 (fa_cons (fun ρ2 ht2 hL hg2 _ => ⟨fun rv hrv => ⟨rfl, rfl, q_same ht2 hl2 hg2.1.symm⟩, fun q hq => ?_⟩) fa_nil)
  have hq : (Sum.inl _ : Option qV ⊕ (Nat × qL × List qV)) = Sum.inr q := hq
  cases hq
theorem zLBY (hT : zk_t) (hA : zk_a) (h3 : ρ[42]? = some t) (hz : ρ[45]? = some z) (hs : t + z ≤ 100000) : qy_TP ex D as tys 6 79 fc ρ zLBg zIB.2 [(0, qr 64), (1, qa 45)] [] 0 (fun fc' ρ' o => fc' = fc ∧ o = (zLBm, zLBw, .inl (some (qa 47))) ∧ ρ' = ρ ++ [t + z] ++ [t + z]) := by
  refine qy_TP.intro fun _ hg => ?_
  have hl : ρ.length = 46 := hg.1.symm
  have r1 : (0 : Int) ≤ t ∧ t ≤ 100000 := hg.rng (i := 42) (r := (0, 100000)) rfl h3
  have r2 : (0 : Int) ≤ z ∧ z ≤ 1000 := hg.rng (i := 45) (r := (0, 1000)) rfl hz
  refine qs_lnkB (p := 46) fa_nil hT hA zLBs1 (fa_cons (fun ρ1 ht1 hL hg1 _ => ⟨fun rv hrv => ?r, fun q hq => ?c⟩) fa_nil)
  case r =>
    have hrv : (Sum.inr _ : Option qV ⊕ (Nat × qL × List qV)) = Sum.inl rv := hrv
    cases hrv
  have hq : (Sum.inr _ : Option qV ⊕ (Nat × qL × List qV)) = Sum.inr q := hq
  cases hq
  have e1 : ρ1 = ρ := q_same ht1 hl hg1.1.symm
  rw [e1]
  have hl2 : (ρ ++ [t + z]).length = 47 := by rw [List.length_append, hl]; rfl
  refine qs_iadd (g' := zLBk) (N := 46) (qs_dec hA rfl) (q_vs h3) (q_vs hz) rfl rfl (by omega) (by omega) hl ?_ (fun h => qy_g.ext h rfl (fun j r hj => by
    match j, hj with
    | 0, hj => cases hj; exact ⟨_, rfl, (by show (0 : Int) ≤ t + z; omega), (by show t + z ≤ (100000 : Int); omega)⟩
    | j + 1, hj => cases hj))
  refine qs_lnkB (p := 47) fa_nil hT hA zLBs3 (fa_cons (fun ρ2 ht2 hL hg2 _ => ⟨fun rv hrv => ?r3, fun q hq => ?c3⟩) fa_nil)
  case r3 =>
    have hrv : (Sum.inr _ : Option qV ⊕ (Nat × qL × List qV)) = Sum.inl rv := hrv
    cases hrv
  have hq : (Sum.inr _ : Option qV ⊕ (Nat × qL × List qV)) = Sum.inr q := hq
  cases hq
  have e2 : ρ2 = ρ ++ [t + z] := q_same ht2 hl2 hg2.1.symm
  rw [e2]
  have he : qe ρ (ρ ++ [t + z]) := ⟨_, rfl⟩
  have hl3 : (ρ ++ [t + z] ++ [t + z]).length = 48 := by rw [List.length_append, hl2]; rfl
  refine qs_iadd (g' := zLBm) (N := 47) (qs_dec hA rfl) (q_vs (he.at h3)) (q_vs (he.at hz)) rfl rfl (by omega) (by omega) hl2 ?_ (fun h => qy_g.ext h rfl (fun j r hj => by
    match j, hj with
    | 0, hj => cases hj; exact ⟨_, rfl, (by show (0 : Int) ≤ t + z; omega), (by show t + z ≤ (100000 : Int); omega)⟩
    | j + 1, hj => cases hj))
  refine qs_lnkB (p := 48) fa_nil hT hA zLBs4 (fa_cons (fun ρ3 ht3 hL hg3 _ => ⟨fun rv hrv => ⟨rfl, rfl, q_same ht3 hl3 hg3.1.symm⟩, fun q hq => ?_⟩) fa_nil)
  have hq : (Sum.inl _ : Option qV ⊕ (Nat × qL × List qV)) = Sum.inr q := hq
  cases hq
theorem zLBX2 (hT : zk_t) (hA : zk_a) (h3 : ρ[42]? = some t) (hz : ρ[45]? = some z) (hs : 100000 < t + z) : qy_TP ex D as tys 7 26 fc ρ zLBg zIB.2 [(0, qr 0), (1, qa 45)] [] 0 (fun fc' ρ' o => fc' = fc ∧ o = (zLBh, zIB.2, .inl (some (.inl (.negSucc 0)))) ∧ ρ' = ρ ++ [t + z]) := by
  refine qy_TP.intro fun _ hg => ?_
  have hl : ρ.length = 46 := hg.1.symm
  refine qs_lnkB (p := 46) fa_nil hT hA zLBo1 (fa_cons (fun ρ1 ht1 hL hg1 _ => ⟨fun rv hrv => ?r, fun q hq => ?c⟩) fa_nil)
  case r =>
    have hrv : (Sum.inr _ : Option qV ⊕ (Nat × qL × List qV)) = Sum.inl rv := hrv
    cases hrv
  have hq : (Sum.inr _ : Option qV ⊕ (Nat × qL × List qV)) = Sum.inr q := hq
  cases hq
  have e1 : ρ1 = ρ := q_same ht1 hl hg1.1.symm
  rw [e1]
  obtain ⟨hM, hcls, hrun⟩ := qs_vc (ex := ex) hT hA (k := 26) (pc := 5) rfl
  refine qy_TP.call (d := 6) (cs := [qa 45, qr 64]) (st := []) (av := [(0, qr 64), (1, qa 45)]) hM hcls hrun rfl rfl (by decide) (by decide +kernel) (Or.inr (Or.inr ⟨by decide, 0, 64, _, _, rfl, rfl⟩)) (zLBX hT hA h3 hz hs) (fun f r o ho => ⟨by rw [ho.2.2]; exact ⟨_, rfl⟩, ⟨_, congrArg (fun x => x.2.2) ho.2.1⟩⟩) ?_
  intro fc2 ρ2 o rv ho hrv _ hg2
  obtain ⟨e2, e3, e4⟩ := ho
  rw [e3] at hrv hg2
  rw [e2, e3]
  have hrv : (Sum.inl (some (.inl (.negSucc 0))) : Option qV ⊕ (Nat × qL × List qV)) = Sum.inl rv := hrv
  cases hrv
  refine qs_lnkB (p := 47) fa_nil hT hA zLBo2 (fa_cons (fun ρ3 ht3 hL hg3 _ => ⟨fun rv hrv => ⟨rfl, rfl, ?_⟩, fun q hq => ?_⟩) fa_nil)
  · rw [← e4]; exact q_same ht3 hg2.1.symm hg3.1.symm
  · have hq : (Sum.inl _ : Option qV ⊕ (Nat × qL × List qV)) = Sum.inr q := hq
    cases hq
theorem zLBY2 (hT : zk_t) (hA : zk_a) (h3 : ρ[42]? = some t) (hz : ρ[45]? = some z) (hs : t + z ≤ 100000) : qy_TP ex D as tys 7 26 fc ρ zLBg zIB.2 [(0, qr 0), (1, qa 45)] [] 0 (fun fc' ρ' o => fc' = fc ∧ o = (zLBm, zLBw, .inl (some (qa 47))) ∧ ρ' = ρ ++ [t + z] ++ [t + z]) := by
  refine qy_TP.intro fun _ hg => ?_
  have hl : ρ.length = 46 := hg.1.symm
  refine qs_lnkB (p := 46) fa_nil hT hA zLBo1 (fa_cons (fun ρ1 ht1 hL hg1 _ => ⟨fun rv hrv => ?r, fun q hq => ?c⟩) fa_nil)
  case r =>
    have hrv : (Sum.inr _ : Option qV ⊕ (Nat × qL × List qV)) = Sum.inl rv := hrv
    cases hrv
  have hq : (Sum.inr _ : Option qV ⊕ (Nat × qL × List qV)) = Sum.inr q := hq
  cases hq
  have e1 : ρ1 = ρ := q_same ht1 hl hg1.1.symm
  rw [e1]
  obtain ⟨hM, hcls, hrun⟩ := qs_vc (ex := ex) hT hA (k := 26) (pc := 5) rfl
  refine qy_TP.call (d := 6) (cs := [qa 45, qr 64]) (st := []) (av := [(0, qr 64), (1, qa 45)]) hM hcls hrun rfl rfl (by decide) (by decide +kernel) (Or.inr (Or.inr ⟨by decide, 0, 64, _, _, rfl, rfl⟩)) (zLBY hT hA h3 hz hs) (fun f r o ho => ⟨by rw [ho.2.2]; exact ⟨_, (List.append_assoc _ _ _)⟩, ⟨_, congrArg (fun x => x.2.2) ho.2.1⟩⟩) ?_
  intro fc2 ρ2 o rv ho hrv _ hg2
  obtain ⟨e2, e3, e4⟩ := ho
  rw [e3] at hrv hg2
  rw [e2, e3]
  have hrv : (Sum.inl (some (qa 47)) : Option qV ⊕ (Nat × qL × List qV)) = Sum.inl rv := hrv
  cases hrv
  refine qs_lnkB (p := 48) fa_nil hT hA zLBo3 (fa_cons (fun ρ3 ht3 hL hg3 _ => ⟨fun rv hrv => ⟨rfl, rfl, ?_⟩, fun q hq => ?_⟩) fa_nil)
  · rw [← e4]; exact q_same ht3 hg2.1.symm hg3.1.symm
  · have hq : (Sum.inl _ : Option qV ⊕ (Nat × qL × List qV)) = Sum.inr q := hq
    cases hq
set_option maxRecDepth 100000 in
theorem zMB_later (hT : zk_t) (hA : zk_a) (hex : ∀ j, ex j = .null ∨ ∃ a, ex j = .ref a) {ax : Nat} (hax : as[0]? = some ax) (x : Int32) (ht0 : 0 ≤ t) (ht1 : t ≤ 100000) : hl_M ex D as tys 69 11 26 (hl_I ex as tys zΦ zIB 42 t) [.ref ax, .int x] (fun r ws => r.toInt = hl_r t x.toInt ∧ hl_I ex as tys zΦ zIB 42 (hl_t t x.toInt) ws) := by
  obtain ⟨hM, -, -⟩ := qs_vc (ex := ex) hT hA (k := 0) (pc := 1282) rfl
  have hq : ∀ (mx : Nat), 1 < mx → ∀ v : qV, q_isL v = false → q_pos mx [(0, .inr (.inr (.inl (some 0)))), (1, v)] 0 = true := fun mx hm v hv => by
    show cond (q_isL v) (Nat.ble 3 mx) (Nat.ble 2 mx) = true
    rw [hv]
    exact Nat.ble_eq_true_of_le hm
  have b1 := q_i32bd x
  rcases Int.lt_or_le x.toInt 0 with c1 | c1
  · exact hl_laterO hT hA hM (hq _ (by decide)) ⟨_, rfl⟩ hax x (lo := .negSucc 2147483647) (hi := .negSucc 0) b1.1 (by show x.toInt ≤ -1; omega) zLBn (by omega)
  · rcases Int.lt_or_le 1000 x.toInt with c2 | c2
    · exact hl_laterO hT hA hM (hq _ (by decide)) ⟨_, rfl⟩ hax x (lo := 1001) (hi := 2147483647) (by omega) b1.2 zLBp (by omega)
    · rintro ws ⟨fc, ρ, hΦ, h1, h2, h3⟩
      have hN : ρ.length = 45 := h2.1.symm
      have he : qe ρ (ρ ++ [x.toInt]) := ⟨_, rfl⟩
      have hg : qy_g (ρ ++ [x.toInt]) zLBg := qy_g.ext (h2.one h3 ht0 ht1) rfl (fun j r hj => by
        match j, hj with
        | 0, hj => cases hj; exact ⟨_, rfl, c1, c2⟩
        | j + 1, hj => cases hj)
      have ha : qy_s (ρ ++ [x.toInt]) ex as [qr 0, qa 45] [.ref ax, .int x] := ⟨⟨ax, hax, rfl⟩, ⟨x, x.toInt, rfl, q_ap0 hN, by show x.toInt = 1 * x.toInt + 0; omega⟩, trivial⟩
      rcases Int.lt_or_le 100000 (t + x.toInt) with c3 | c3
      · refine ⟨fc, ρ ++ [x.toInt], zLBg, zIB.2, [(0, qr 0), (1, qa 45)], _, (zLBX2 hT hA (he.at h3) (q_ap0 hN) c3).dep (by decide), h1.mono he, hg, ha, ⟨_, hM, hq _ (by decide) _ rfl⟩, ⟨0, 0, _, _, rfl, rfl⟩, fun fc' ρ' o ho => ?_⟩
        obtain ⟨e1, e2, e3⟩ := ho
        refine ⟨_, by rw [e2], fun ws' v q1 q2 q3 => ?_⟩
        rw [e2] at q1 q2
        obtain ⟨y, y1, y2⟩ := q3
        obtain ⟨ρ2, hL, g2, w2⟩ := hl_conv (fc := fc') (tys := tys) (as := as) (I := zIB) (G := zLBh) (W := zIB.2) (lk := ([(42, qa 42)], [])) hex zLBcw q2
        refine ⟨y, y1, by unfold hl_r; rw [if_neg (by omega), y2]; rfl, fc', ρ2, by rw [e1]; exact hΦ, w2 ws' q1, g2, ?_⟩
        have h4 : ρ'[42]? = some t := by rw [e3]; exact (show qe (ρ ++ [x.toInt]) (ρ ++ [x.toInt] ++ [t + x.toInt]) from ⟨_, rfl⟩).at (he.at h3)
        rw [hL.n (i := 42) (s := 42) (d := 0) List.mem_cons_self h4]
        unfold hl_t; rw [if_neg (by omega)]; exact congrArg some (by omega)
      · refine ⟨fc, ρ ++ [x.toInt], zLBg, zIB.2, [(0, qr 0), (1, qa 45)], _, (zLBY2 hT hA (he.at h3) (q_ap0 hN) c3).dep (by decide), h1.mono he, hg, ha, ⟨_, hM, hq _ (by decide) _ rfl⟩, ⟨0, 0, _, _, rfl, rfl⟩, fun fc' ρ' o ho => ?_⟩
        obtain ⟨e1, e2, e3⟩ := ho
        refine ⟨_, by rw [e2], fun ws' v q1 q2 q3 => ?_⟩
        rw [e2] at q1 q2
        obtain ⟨y, r, y1, y2, y3⟩ := q3
        have hl2 : (ρ ++ [x.toInt] ++ [t + x.toInt]).length = 47 := by rw [List.length_append, List.length_append, hN]; rfl
        have h5 : ρ'[47]? = some (t + x.toInt) := by rw [e3]; exact q_ap0 hl2
        have y2 : ρ'[47]? = some r := y2
        rw [h5] at y2
        cases y2
        obtain ⟨ρ2, hL, g2, w2⟩ := hl_conv (fc := fc') (tys := tys) (as := as) (I := zIB) (G := zLBm) (W := zLBw) (lk := ([(42, qa 47)], [])) hex zLBcv q2
        refine ⟨y, y1, by unfold hl_r; rw [if_pos ⟨c1, c2, c3⟩, y3]; show 1 * (t + x.toInt) + 0 = _; omega, fc', ρ2, by rw [e1]; exact hΦ, w2 ws' q1, g2, ?_⟩
        rw [hL.n (i := 42) (s := 47) (d := 0) List.mem_cons_self h5]
        unfold hl_t; rw [if_pos ⟨c1, c2, c3⟩]; exact congrArg some (by omega)
end ZLB
noncomputable def zL0g : qG := (zI0.1.1.set 23 (0, 100000) ++ [(0, 1000)], zI0.1.2)
noncomputable def zL0h : qG := (zL0g.1 ++ [(100001, 101000)], zL0g.2)
noncomputable def zL0k : qG := (zL0g.1 ++ [(0, 100000)], zL0g.2)
noncomputable def zL0m : qG := (zL0k.1 ++ [(0, 100000)], zL0k.2)
noncomputable def zL0w : List qE := zI0.2.set 0 (q_sf (zI0.2.getD 0 (.inl (0, []))) 57 (qa 46))
set_option maxRecDepth 100000 in
theorem zL0s1 : q_lgk [] 1000 45 246 6 [16] 0 zL0g zI0.2 [(0, qr 0), (1, qa 44)] [] [((zL0g, zI0.2, .inr (16, [(0, qr 0), (1, qa 44)], [qa 44, qa 23])), [], [])] = true := by decide +kernel
set_option maxRecDepth 100000 in
theorem zL0s2 : q_lgk [] 1000 46 246 6 [] 17 zL0h zI0.2 [(0, qr 0), (1, qa 44)] [qa 45] [((zL0h, zI0.2, .inl (some (.inl (.negSucc 0)))), [], [])] = true := by decide +kernel
set_option maxRecDepth 100000 in
theorem zL0s3 : q_lgk [] 1000 46 246 6 [31] 17 zL0k zI0.2 [(0, qr 0), (1, qa 44)] [qa 45] [((zL0k, zI0.2, .inr (31, [(0, qr 0), (1, qa 44)], [qa 44, qa 23, qr 0])), [], [])] = true := by decide +kernel
set_option maxRecDepth 100000 in
theorem zL0s4 : q_lgk [] 1000 47 246 6 [] 32 zL0m zI0.2 [(0, qr 0), (1, qa 44)] [qa 46, qr 0] [((zL0m, zL0w, .inl (some (qa 46))), [], [])] = true := by decide +kernel
set_option maxRecDepth 100000 in
theorem zL0cv : (match q_lde 0 (zL0m, zL0w, .inl none) [((zI0.1, zI0.2, .inl none), [(23, qa 46)], [])] with | some _ => true | none => false) = true := by decide +kernel
set_option maxRecDepth 100000 in
theorem zL0cw : (match q_lde 0 (zL0h, zI0.2, .inl none) [((zI0.1, zI0.2, .inl none), [(23, qa 23)], [])] with | some _ => true | none => false) = true := by decide +kernel
set_option maxRecDepth 100000 in
theorem zL0n : hl_latO 246 zI0 23 (.negSucc 2147483647) (.negSucc 0) = true := by decide +kernel
set_option maxRecDepth 100000 in
theorem zL0p : hl_latO 246 zI0 23 1001 2147483647 = true := by decide +kernel
section ZL0
variable {ex : Nat → Value} {D : va_G} {as : List Nat} {tys : List (ClassId × FieldType)} {fc : Nat → Nat → Int32} {ρ : List Int} {t z : Int}
theorem zL0X (hT : zk_t) (hA : zk_a) (h3 : ρ[23]? = some t) (hz : ρ[44]? = some z) (hs : 100000 < t + z) : qy_TP ex D as tys 6 246 fc ρ zL0g zI0.2 [(0, qr 0), (1, qa 44)] [] 0 (fun fc' ρ' o => fc' = fc ∧ o = (zL0h, zI0.2, .inl (some (.inl (.negSucc 0)))) ∧ ρ' = ρ ++ [t + z]) := by
  refine qy_TP.intro fun _ hg => ?_
  have hl : ρ.length = 45 := hg.1.symm
  have r1 : (0 : Int) ≤ t ∧ t ≤ 100000 := hg.rng (i := 23) (r := (0, 100000)) rfl h3
  have r2 : (0 : Int) ≤ z ∧ z ≤ 1000 := hg.rng (i := 44) (r := (0, 1000)) rfl hz
  refine qs_lnkB (p := 45) fa_nil hT hA zL0s1 (fa_cons (fun ρ1 ht1 hL hg1 _ => ⟨fun rv hrv => ?r, fun q hq => ?c⟩) fa_nil)
  case r =>
    have hrv : (Sum.inr _ : Option qV ⊕ (Nat × qL × List qV)) = Sum.inl rv := hrv
    cases hrv
  have hq : (Sum.inr _ : Option qV ⊕ (Nat × qL × List qV)) = Sum.inr q := hq
  cases hq
  have e1 : ρ1 = ρ := q_same ht1 hl hg1.1.symm
  rw [e1]
  have hl2 : (ρ ++ [t + z]).length = 46 := by rw [List.length_append, hl]; rfl
  refine qs_iadd (g' := zL0h) (N := 45) (qs_dec hA rfl) (q_vs h3) (q_vs hz) rfl rfl (by omega) (by omega) hl ?_ (fun h => qy_g.ext h rfl (fun j r hj => by
    match j, hj with
    | 0, hj => cases hj; exact ⟨_, rfl, (by show (100001 : Int) ≤ t + z; omega), (by show t + z ≤ (101000 : Int); omega)⟩
    | j + 1, hj => cases hj))
  refine qs_lnkB (p := 46) fa_nil hT hA zL0s2 (fa_cons (fun ρ2 ht2 hL hg2 _ => ⟨fun rv hrv => ⟨rfl, rfl, q_same ht2 hl2 hg2.1.symm⟩, fun q hq => ?_⟩) fa_nil)
  have hq : (Sum.inl _ : Option qV ⊕ (Nat × qL × List qV)) = Sum.inr q := hq
  cases hq
theorem zL0Y (hT : zk_t) (hA : zk_a) (h3 : ρ[23]? = some t) (hz : ρ[44]? = some z) (hs : t + z ≤ 100000) : qy_TP ex D as tys 6 246 fc ρ zL0g zI0.2 [(0, qr 0), (1, qa 44)] [] 0 (fun fc' ρ' o => fc' = fc ∧ o = (zL0m, zL0w, .inl (some (qa 46))) ∧ ρ' = ρ ++ [t + z] ++ [t + z]) := by
  refine qy_TP.intro fun _ hg => ?_
  have hl : ρ.length = 45 := hg.1.symm
  have r1 : (0 : Int) ≤ t ∧ t ≤ 100000 := hg.rng (i := 23) (r := (0, 100000)) rfl h3
  have r2 : (0 : Int) ≤ z ∧ z ≤ 1000 := hg.rng (i := 44) (r := (0, 1000)) rfl hz
  refine qs_lnkB (p := 45) fa_nil hT hA zL0s1 (fa_cons (fun ρ1 ht1 hL hg1 _ => ⟨fun rv hrv => ?r, fun q hq => ?c⟩) fa_nil)
  case r =>
    have hrv : (Sum.inr _ : Option qV ⊕ (Nat × qL × List qV)) = Sum.inl rv := hrv
    cases hrv
  have hq : (Sum.inr _ : Option qV ⊕ (Nat × qL × List qV)) = Sum.inr q := hq
  cases hq
  have e1 : ρ1 = ρ := q_same ht1 hl hg1.1.symm
  rw [e1]
  have hl2 : (ρ ++ [t + z]).length = 46 := by rw [List.length_append, hl]; rfl
  refine qs_iadd (g' := zL0k) (N := 45) (qs_dec hA rfl) (q_vs h3) (q_vs hz) rfl rfl (by omega) (by omega) hl ?_ (fun h => qy_g.ext h rfl (fun j r hj => by
    match j, hj with
    | 0, hj => cases hj; exact ⟨_, rfl, (by show (0 : Int) ≤ t + z; omega), (by show t + z ≤ (100000 : Int); omega)⟩
    | j + 1, hj => cases hj))
  refine qs_lnkB (p := 46) fa_nil hT hA zL0s3 (fa_cons (fun ρ2 ht2 hL hg2 _ => ⟨fun rv hrv => ?r3, fun q hq => ?c3⟩) fa_nil)
  case r3 =>
    have hrv : (Sum.inr _ : Option qV ⊕ (Nat × qL × List qV)) = Sum.inl rv := hrv
    cases hrv
  have hq : (Sum.inr _ : Option qV ⊕ (Nat × qL × List qV)) = Sum.inr q := hq
  cases hq
  have e2 : ρ2 = ρ ++ [t + z] := q_same ht2 hl2 hg2.1.symm
  rw [e2]
  have he : qe ρ (ρ ++ [t + z]) := ⟨_, rfl⟩
  have hl3 : (ρ ++ [t + z] ++ [t + z]).length = 47 := by rw [List.length_append, hl2]; rfl
  refine qs_iadd (g' := zL0m) (N := 46) (qs_dec hA rfl) (q_vs (he.at h3)) (q_vs (he.at hz)) rfl rfl (by omega) (by omega) hl2 ?_ (fun h => qy_g.ext h rfl (fun j r hj => by
    match j, hj with
    | 0, hj => cases hj; exact ⟨_, rfl, (by show (0 : Int) ≤ t + z; omega), (by show t + z ≤ (100000 : Int); omega)⟩
    | j + 1, hj => cases hj))
  refine qs_lnkB (p := 47) fa_nil hT hA zL0s4 (fa_cons (fun ρ3 ht3 hL hg3 _ => ⟨fun rv hrv => ⟨rfl, rfl, q_same ht3 hl3 hg3.1.symm⟩, fun q hq => ?_⟩) fa_nil)
  have hq : (Sum.inl _ : Option qV ⊕ (Nat × qL × List qV)) = Sum.inr q := hq
  cases hq
set_option maxRecDepth 100000 in
theorem zM0_later (hT : zk_t) (hA : zk_a) (hex : ∀ j, ex j = .null ∨ ∃ a, ex j = .ref a) {ax : Nat} (hax : as[0]? = some ax) (x : Int32) (ht0 : 0 ≤ t) (ht1 : t ≤ 100000) : hl_M ex D as tys 69 12 246 (hl_I ex as tys zΦ0 zI0 23 t) [.ref ax, .int x] (fun r ws => r.toInt = hl_r t x.toInt ∧ hl_I ex as tys zΦ0 zI0 23 (hl_t t x.toInt) ws) := by
  obtain ⟨hM, -, -⟩ := qs_vc (ex := ex) hT hA (k := 0) (pc := 1292) rfl
  have hq : ∀ (mx : Nat), 1 < mx → ∀ v : qV, q_isL v = false → q_pos mx [(0, .inr (.inr (.inl (some 0)))), (1, v)] 0 = true := fun mx hm v hv => by
    show cond (q_isL v) (Nat.ble 3 mx) (Nat.ble 2 mx) = true
    rw [hv]
    exact Nat.ble_eq_true_of_le hm
  have b1 := q_i32bd x
  rcases Int.lt_or_le x.toInt 0 with c1 | c1
  · exact hl_laterO hT hA hM (hq _ (by decide)) ⟨_, rfl⟩ hax x (lo := .negSucc 2147483647) (hi := .negSucc 0) b1.1 (by show x.toInt ≤ -1; omega) zL0n (by omega)
  · rcases Int.lt_or_le 1000 x.toInt with c2 | c2
    · exact hl_laterO hT hA hM (hq _ (by decide)) ⟨_, rfl⟩ hax x (lo := 1001) (hi := 2147483647) (by omega) b1.2 zL0p (by omega)
    · rintro ws ⟨fc, ρ, hΦ, h1, h2, h3⟩
      have hN : ρ.length = 44 := h2.1.symm
      have he : qe ρ (ρ ++ [x.toInt]) := ⟨_, rfl⟩
      have hg : qy_g (ρ ++ [x.toInt]) zL0g := qy_g.ext (h2.one h3 ht0 ht1) rfl (fun j r hj => by
        match j, hj with
        | 0, hj => cases hj; exact ⟨_, rfl, c1, c2⟩
        | j + 1, hj => cases hj)
      have ha : qy_s (ρ ++ [x.toInt]) ex as [qr 0, qa 44] [.ref ax, .int x] := ⟨⟨ax, hax, rfl⟩, ⟨x, x.toInt, rfl, q_ap0 hN, by show x.toInt = 1 * x.toInt + 0; omega⟩, trivial⟩
      rcases Int.lt_or_le 100000 (t + x.toInt) with c3 | c3
      · refine ⟨fc, ρ ++ [x.toInt], zL0g, zI0.2, [(0, qr 0), (1, qa 44)], _, (zL0X hT hA (he.at h3) (q_ap0 hN) c3).dep (by decide), h1.mono he, hg, ha, ⟨_, hM, hq _ (by decide) _ rfl⟩, ⟨0, 0, _, _, rfl, rfl⟩, fun fc' ρ' o ho => ?_⟩
        obtain ⟨e1, e2, e3⟩ := ho
        refine ⟨_, by rw [e2], fun ws' v q1 q2 q3 => ?_⟩
        rw [e2] at q1 q2
        obtain ⟨y, y1, y2⟩ := q3
        obtain ⟨ρ2, hL, g2, w2⟩ := hl_conv (fc := fc') (tys := tys) (as := as) (I := zI0) (G := zL0h) (W := zI0.2) (lk := ([(23, qa 23)], [])) hex zL0cw q2
        refine ⟨y, y1, by unfold hl_r; rw [if_neg (by omega), y2]; rfl, fc', ρ2, by rw [e1]; exact hΦ, w2 ws' q1, g2, ?_⟩
        have h4 : ρ'[23]? = some t := by rw [e3]; exact (show qe (ρ ++ [x.toInt]) (ρ ++ [x.toInt] ++ [t + x.toInt]) from ⟨_, rfl⟩).at (he.at h3)
        rw [hL.n (i := 23) (s := 23) (d := 0) List.mem_cons_self h4]
        unfold hl_t; rw [if_neg (by omega)]; exact congrArg some (by omega)
      · refine ⟨fc, ρ ++ [x.toInt], zL0g, zI0.2, [(0, qr 0), (1, qa 44)], _, (zL0Y hT hA (he.at h3) (q_ap0 hN) c3).dep (by decide), h1.mono he, hg, ha, ⟨_, hM, hq _ (by decide) _ rfl⟩, ⟨0, 0, _, _, rfl, rfl⟩, fun fc' ρ' o ho => ?_⟩
        obtain ⟨e1, e2, e3⟩ := ho
        refine ⟨_, by rw [e2], fun ws' v q1 q2 q3 => ?_⟩
        rw [e2] at q1 q2
        obtain ⟨y, r, y1, y2, y3⟩ := q3
        have hl2 : (ρ ++ [x.toInt] ++ [t + x.toInt]).length = 46 := by rw [List.length_append, List.length_append, hN]; rfl
        have h5 : ρ'[46]? = some (t + x.toInt) := by rw [e3]; exact q_ap0 hl2
        have y2 : ρ'[46]? = some r := y2
        rw [h5] at y2
        cases y2
        obtain ⟨ρ2, hL, g2, w2⟩ := hl_conv (fc := fc') (tys := tys) (as := as) (I := zI0) (G := zL0m) (W := zL0w) (lk := ([(23, qa 46)], [])) hex zL0cv q2
        refine ⟨y, y1, by unfold hl_r; rw [if_pos ⟨c1, c2, c3⟩, y3]; show 1 * (t + x.toInt) + 0 = _; omega, fc', ρ2, by rw [e1]; exact hΦ, w2 ws' q1, g2, ?_⟩
        rw [hL.n (i := 23) (s := 46) (d := 0) List.mem_cons_self h5]
        unfold hl_t; rw [if_pos ⟨c1, c2, c3⟩]; exact congrArg some (by omega)
end ZL0
noncomputable def zL1g : qG := (zI1.1.1.set 23 (0, 100000) ++ [(0, 1000)], zI1.1.2)
noncomputable def zL1h : qG := (zL1g.1 ++ [(100001, 101000)], zL1g.2)
noncomputable def zL1k : qG := (zL1g.1 ++ [(0, 100000)], zL1g.2)
noncomputable def zL1m : qG := (zL1k.1 ++ [(0, 100000)], zL1k.2)
noncomputable def zL1w : List qE := zI1.2.set 0 (q_sf (zI1.2.getD 0 (.inl (0, []))) 57 (qa 46))
set_option maxRecDepth 100000 in
theorem zL1s1 : q_lgk [] 1000 45 246 6 [16] 0 zL1g zI1.2 [(0, qr 0), (1, qa 44)] [] [((zL1g, zI1.2, .inr (16, [(0, qr 0), (1, qa 44)], [qa 44, qa 23])), [], [])] = true := by decide +kernel
set_option maxRecDepth 100000 in
theorem zL1s2 : q_lgk [] 1000 46 246 6 [] 17 zL1h zI1.2 [(0, qr 0), (1, qa 44)] [qa 45] [((zL1h, zI1.2, .inl (some (.inl (.negSucc 0)))), [], [])] = true := by decide +kernel
set_option maxRecDepth 100000 in
theorem zL1s3 : q_lgk [] 1000 46 246 6 [31] 17 zL1k zI1.2 [(0, qr 0), (1, qa 44)] [qa 45] [((zL1k, zI1.2, .inr (31, [(0, qr 0), (1, qa 44)], [qa 44, qa 23, qr 0])), [], [])] = true := by decide +kernel
set_option maxRecDepth 100000 in
theorem zL1s4 : q_lgk [] 1000 47 246 6 [] 32 zL1m zI1.2 [(0, qr 0), (1, qa 44)] [qa 46, qr 0] [((zL1m, zL1w, .inl (some (qa 46))), [], [])] = true := by decide +kernel
set_option maxRecDepth 100000 in
theorem zL1cv : (match q_lde 0 (zL1m, zL1w, .inl none) [((zI1.1, zI1.2, .inl none), [(23, qa 46)], [])] with | some _ => true | none => false) = true := by decide +kernel
set_option maxRecDepth 100000 in
theorem zL1cw : (match q_lde 0 (zL1h, zI1.2, .inl none) [((zI1.1, zI1.2, .inl none), [(23, qa 23)], [])] with | some _ => true | none => false) = true := by decide +kernel
set_option maxRecDepth 100000 in
theorem zL1n : hl_latO 246 zI1 23 (.negSucc 2147483647) (.negSucc 0) = true := by decide +kernel
set_option maxRecDepth 100000 in
theorem zL1p : hl_latO 246 zI1 23 1001 2147483647 = true := by decide +kernel
section ZL1
variable {ex : Nat → Value} {D : va_G} {as : List Nat} {tys : List (ClassId × FieldType)} {fc : Nat → Nat → Int32} {ρ : List Int} {t z : Int}
theorem zL1X (hT : zk_t) (hA : zk_a) (h3 : ρ[23]? = some t) (hz : ρ[44]? = some z) (hs : 100000 < t + z) : qy_TP ex D as tys 6 246 fc ρ zL1g zI1.2 [(0, qr 0), (1, qa 44)] [] 0 (fun fc' ρ' o => fc' = fc ∧ o = (zL1h, zI1.2, .inl (some (.inl (.negSucc 0)))) ∧ ρ' = ρ ++ [t + z]) := by
  refine qy_TP.intro fun _ hg => ?_
  have hl : ρ.length = 45 := hg.1.symm
  have r1 : (0 : Int) ≤ t ∧ t ≤ 100000 := hg.rng (i := 23) (r := (0, 100000)) rfl h3
  have r2 : (0 : Int) ≤ z ∧ z ≤ 1000 := hg.rng (i := 44) (r := (0, 1000)) rfl hz
  refine qs_lnkB (p := 45) fa_nil hT hA zL1s1 (fa_cons (fun ρ1 ht1 hL hg1 _ => ⟨fun rv hrv => ?r, fun q hq => ?c⟩) fa_nil)
  case r =>
    have hrv : (Sum.inr _ : Option qV ⊕ (Nat × qL × List qV)) = Sum.inl rv := hrv
    cases hrv
  have hq : (Sum.inr _ : Option qV ⊕ (Nat × qL × List qV)) = Sum.inr q := hq
  cases hq
  have e1 : ρ1 = ρ := q_same ht1 hl hg1.1.symm
  rw [e1]
  have hl2 : (ρ ++ [t + z]).length = 46 := by rw [List.length_append, hl]; rfl
  refine qs_iadd (g' := zL1h) (N := 45) (qs_dec hA rfl) (q_vs h3) (q_vs hz) rfl rfl (by omega) (by omega) hl ?_ (fun h => qy_g.ext h rfl (fun j r hj => by
    match j, hj with
    | 0, hj => cases hj; exact ⟨_, rfl, (by show (100001 : Int) ≤ t + z; omega), (by show t + z ≤ (101000 : Int); omega)⟩
    | j + 1, hj => cases hj))
  refine qs_lnkB (p := 46) fa_nil hT hA zL1s2 (fa_cons (fun ρ2 ht2 hL hg2 _ => ⟨fun rv hrv => ⟨rfl, rfl, q_same ht2 hl2 hg2.1.symm⟩, fun q hq => ?_⟩) fa_nil)
  have hq : (Sum.inl _ : Option qV ⊕ (Nat × qL × List qV)) = Sum.inr q := hq
  cases hq
theorem zL1Y (hT : zk_t) (hA : zk_a) (h3 : ρ[23]? = some t) (hz : ρ[44]? = some z) (hs : t + z ≤ 100000) : qy_TP ex D as tys 6 246 fc ρ zL1g zI1.2 [(0, qr 0), (1, qa 44)] [] 0 (fun fc' ρ' o => fc' = fc ∧ o = (zL1m, zL1w, .inl (some (qa 46))) ∧ ρ' = ρ ++ [t + z] ++ [t + z]) := by
  refine qy_TP.intro fun _ hg => ?_
  have hl : ρ.length = 45 := hg.1.symm
  have r1 : (0 : Int) ≤ t ∧ t ≤ 100000 := hg.rng (i := 23) (r := (0, 100000)) rfl h3
  have r2 : (0 : Int) ≤ z ∧ z ≤ 1000 := hg.rng (i := 44) (r := (0, 1000)) rfl hz
  refine qs_lnkB (p := 45) fa_nil hT hA zL1s1 (fa_cons (fun ρ1 ht1 hL hg1 _ => ⟨fun rv hrv => ?r, fun q hq => ?c⟩) fa_nil)
  case r =>
    have hrv : (Sum.inr _ : Option qV ⊕ (Nat × qL × List qV)) = Sum.inl rv := hrv
    cases hrv
  have hq : (Sum.inr _ : Option qV ⊕ (Nat × qL × List qV)) = Sum.inr q := hq
  cases hq
  have e1 : ρ1 = ρ := q_same ht1 hl hg1.1.symm
  rw [e1]
  have hl2 : (ρ ++ [t + z]).length = 46 := by rw [List.length_append, hl]; rfl
  refine qs_iadd (g' := zL1k) (N := 45) (qs_dec hA rfl) (q_vs h3) (q_vs hz) rfl rfl (by omega) (by omega) hl ?_ (fun h => qy_g.ext h rfl (fun j r hj => by
    match j, hj with
    | 0, hj => cases hj; exact ⟨_, rfl, (by show (0 : Int) ≤ t + z; omega), (by show t + z ≤ (100000 : Int); omega)⟩
    | j + 1, hj => cases hj))
  refine qs_lnkB (p := 46) fa_nil hT hA zL1s3 (fa_cons (fun ρ2 ht2 hL hg2 _ => ⟨fun rv hrv => ?r3, fun q hq => ?c3⟩) fa_nil)
  case r3 =>
    have hrv : (Sum.inr _ : Option qV ⊕ (Nat × qL × List qV)) = Sum.inl rv := hrv
    cases hrv
  have hq : (Sum.inr _ : Option qV ⊕ (Nat × qL × List qV)) = Sum.inr q := hq
  cases hq
  have e2 : ρ2 = ρ ++ [t + z] := q_same ht2 hl2 hg2.1.symm
  rw [e2]
  have he : qe ρ (ρ ++ [t + z]) := ⟨_, rfl⟩
  have hl3 : (ρ ++ [t + z] ++ [t + z]).length = 47 := by rw [List.length_append, hl2]; rfl
  refine qs_iadd (g' := zL1m) (N := 46) (qs_dec hA rfl) (q_vs (he.at h3)) (q_vs (he.at hz)) rfl rfl (by omega) (by omega) hl2 ?_ (fun h => qy_g.ext h rfl (fun j r hj => by
    match j, hj with
    | 0, hj => cases hj; exact ⟨_, rfl, (by show (0 : Int) ≤ t + z; omega), (by show t + z ≤ (100000 : Int); omega)⟩
    | j + 1, hj => cases hj))
  refine qs_lnkB (p := 47) fa_nil hT hA zL1s4 (fa_cons (fun ρ3 ht3 hL hg3 _ => ⟨fun rv hrv => ⟨rfl, rfl, q_same ht3 hl3 hg3.1.symm⟩, fun q hq => ?_⟩) fa_nil)
  have hq : (Sum.inl _ : Option qV ⊕ (Nat × qL × List qV)) = Sum.inr q := hq
  cases hq
set_option maxRecDepth 100000 in
theorem zM1_later (hT : zk_t) (hA : zk_a) (hex : ∀ j, ex j = .null ∨ ∃ a, ex j = .ref a) {ax : Nat} (hax : as[0]? = some ax) (x : Int32) (ht0 : 0 ≤ t) (ht1 : t ≤ 100000) : hl_M ex D as tys 69 12 246 (hl_I ex as tys zΦ1 zI1 23 t) [.ref ax, .int x] (fun r ws => r.toInt = hl_r t x.toInt ∧ hl_I ex as tys zΦ1 zI1 23 (hl_t t x.toInt) ws) := by
  obtain ⟨hM, -, -⟩ := qs_vc (ex := ex) hT hA (k := 0) (pc := 1292) rfl
  have hq : ∀ (mx : Nat), 1 < mx → ∀ v : qV, q_isL v = false → q_pos mx [(0, .inr (.inr (.inl (some 0)))), (1, v)] 0 = true := fun mx hm v hv => by
    show cond (q_isL v) (Nat.ble 3 mx) (Nat.ble 2 mx) = true
    rw [hv]
    exact Nat.ble_eq_true_of_le hm
  have b1 := q_i32bd x
  rcases Int.lt_or_le x.toInt 0 with c1 | c1
  · exact hl_laterO hT hA hM (hq _ (by decide)) ⟨_, rfl⟩ hax x (lo := .negSucc 2147483647) (hi := .negSucc 0) b1.1 (by show x.toInt ≤ -1; omega) zL1n (by omega)
  · rcases Int.lt_or_le 1000 x.toInt with c2 | c2
    · exact hl_laterO hT hA hM (hq _ (by decide)) ⟨_, rfl⟩ hax x (lo := 1001) (hi := 2147483647) (by omega) b1.2 zL1p (by omega)
    · rintro ws ⟨fc, ρ, hΦ, h1, h2, h3⟩
      have hN : ρ.length = 44 := h2.1.symm
      have he : qe ρ (ρ ++ [x.toInt]) := ⟨_, rfl⟩
      have hg : qy_g (ρ ++ [x.toInt]) zL1g := qy_g.ext (h2.one h3 ht0 ht1) rfl (fun j r hj => by
        match j, hj with
        | 0, hj => cases hj; exact ⟨_, rfl, c1, c2⟩
        | j + 1, hj => cases hj)
      have ha : qy_s (ρ ++ [x.toInt]) ex as [qr 0, qa 44] [.ref ax, .int x] := ⟨⟨ax, hax, rfl⟩, ⟨x, x.toInt, rfl, q_ap0 hN, by show x.toInt = 1 * x.toInt + 0; omega⟩, trivial⟩
      rcases Int.lt_or_le 100000 (t + x.toInt) with c3 | c3
      · refine ⟨fc, ρ ++ [x.toInt], zL1g, zI1.2, [(0, qr 0), (1, qa 44)], _, (zL1X hT hA (he.at h3) (q_ap0 hN) c3).dep (by decide), h1.mono he, hg, ha, ⟨_, hM, hq _ (by decide) _ rfl⟩, ⟨0, 0, _, _, rfl, rfl⟩, fun fc' ρ' o ho => ?_⟩
        obtain ⟨e1, e2, e3⟩ := ho
        refine ⟨_, by rw [e2], fun ws' v q1 q2 q3 => ?_⟩
        rw [e2] at q1 q2
        obtain ⟨y, y1, y2⟩ := q3
        obtain ⟨ρ2, hL, g2, w2⟩ := hl_conv (fc := fc') (tys := tys) (as := as) (I := zI1) (G := zL1h) (W := zI1.2) (lk := ([(23, qa 23)], [])) hex zL1cw q2
        refine ⟨y, y1, by unfold hl_r; rw [if_neg (by omega), y2]; rfl, fc', ρ2, by rw [e1]; exact hΦ, w2 ws' q1, g2, ?_⟩
        have h4 : ρ'[23]? = some t := by rw [e3]; exact (show qe (ρ ++ [x.toInt]) (ρ ++ [x.toInt] ++ [t + x.toInt]) from ⟨_, rfl⟩).at (he.at h3)
        rw [hL.n (i := 23) (s := 23) (d := 0) List.mem_cons_self h4]
        unfold hl_t; rw [if_neg (by omega)]; exact congrArg some (by omega)
      · refine ⟨fc, ρ ++ [x.toInt], zL1g, zI1.2, [(0, qr 0), (1, qa 44)], _, (zL1Y hT hA (he.at h3) (q_ap0 hN) c3).dep (by decide), h1.mono he, hg, ha, ⟨_, hM, hq _ (by decide) _ rfl⟩, ⟨0, 0, _, _, rfl, rfl⟩, fun fc' ρ' o ho => ?_⟩
        obtain ⟨e1, e2, e3⟩ := ho
        refine ⟨_, by rw [e2], fun ws' v q1 q2 q3 => ?_⟩
        rw [e2] at q1 q2
        obtain ⟨y, r, y1, y2, y3⟩ := q3
        have hl2 : (ρ ++ [x.toInt] ++ [t + x.toInt]).length = 46 := by rw [List.length_append, List.length_append, hN]; rfl
        have h5 : ρ'[46]? = some (t + x.toInt) := by rw [e3]; exact q_ap0 hl2
        have y2 : ρ'[46]? = some r := y2
        rw [h5] at y2
        cases y2
        obtain ⟨ρ2, hL, g2, w2⟩ := hl_conv (fc := fc') (tys := tys) (as := as) (I := zI1) (G := zL1m) (W := zL1w) (lk := ([(23, qa 46)], [])) hex zL1cv q2
        refine ⟨y, y1, by unfold hl_r; rw [if_pos ⟨c1, c2, c3⟩, y3]; show 1 * (t + x.toInt) + 0 = _; omega, fc', ρ2, by rw [e1]; exact hΦ, w2 ws' q1, g2, ?_⟩
        rw [hL.n (i := 23) (s := 46) (d := 0) List.mem_cons_self h5]
        unfold hl_t; rw [if_pos ⟨c1, c2, c3⟩]; exact congrArg some (by omega)
end ZL1
