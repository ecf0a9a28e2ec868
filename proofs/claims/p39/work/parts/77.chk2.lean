/-! a richer check: ranges by cases, at the start and at nodes; a measure that falls by a fact -/
abbrev qSp : Type := List (Nat × List Int)
noncomputable def q_spl (hi : Int) (ms : List Int) : Int → List (Int × Int) := List.rec (motive := fun _ => Int → List (Int × Int)) (fun lo => [(lo, hi)]) (fun m _ ih lo => (lo, m) :: zx_i (Int.add m 1) fun l => ih l) ms
noncomputable def q_se1 {α : Type} (v : α) (l : List α) : Nat → List α := List.rec (motive := fun _ => Nat → List α) (fun _ => []) (fun x t ih i => Nat.rec (motive := fun _ => List α) (v :: t) (fun j _ => x :: ih j) i) l
noncomputable def q_gi {α : Type} (l : List α) (no : α) : Nat → α := List.rec (motive := fun _ => Nat → α) (fun _ => no) (fun x _ ih i => Nat.rec (motive := fun _ => α) x (fun j _ => ih j) i) l
/-- f of every case -/
noncomputable def q_alt (f : List (Int × Int) → Bool) (sp : qSp) : List (Int × Int) → Bool := List.rec (motive := fun _ => List (Int × Int) → Bool) (fun g => f g) (fun s _ ih g => List.rec (motive := fun _ => Bool) true (fun q _ ih2 => cond (ih (q_se1 q g s.1)) ih2 false) (q_spl (q_gi g (0, 0) s.1).2 s.2 (q_gi g (0, 0) s.1).1)) sp
noncomputable def q_lwx (g : qG) (c : Int) (l : List (Int × Nat)) : qR := q_lw g.1 c l fun m => cond (q_le 1 m) (some []) (List.rec (motive := fun _ => qR) none (fun f _ ih => zx_i (Int.neg f.1) fun a => zx_i (Int.neg f.2.2.1) fun b => zx_i (Int.add c f.2.2.2.2) fun c2 => q_lw g.1 c2 (q_ad a f.2.1 (q_ad b f.2.2.2.1 l)) fun m => cond (q_le 1 m) (some []) ih) g.2)
noncomputable def q_fl2 (p : Nat) (g : qG) (sg : List qV) (ms mt : qM) : qR := q_lw g.1 ms.1 ms.2 fun m => cond (q_le 1 m) (q_dm p sg mt.2 (Int.sub ms.1 mt.1) ms.2 fun c l => q_lwx g c l) none
noncomputable def q_ln3 (p : Nat) (o : qO) (pc : Nat) (lo : qL) (st : List qV) (ms : Option qM) (l : List (qN × qSp)) : qR := List.rec (motive := fun _ => qR) none (fun c _ ih => cond (Nat.beq c.1.1 pc) (q_mt p c.1.2.1 c.1.2.2.1 c.1.2.2.2.1 c.1.2.2.2.2.1 none o.1 o.2.1 lo st none (fun sg => match ms with
  | none => some []
  | some m => q_fl2 p o.1 sg m c.1.2.2.2.2.2) ih) ih) l
noncomputable def q_land2 (p : Nat) (posts : List (qG × List qE × Option qV)) (nodes : List (qN × qSp)) (ms : Option qM) (o : qO) : qR := match o.2.2 with
  | .inl rv => q_lp p o rv posts
  | .inr (pc, lo, st) => q_ln3 p o pc lo st ms nodes
noncomputable def q_ch2 (ct : List qC) (fuel : Nat) (c : qC) (esp : qSp) (cuts : List Nat) (nodes : List (qN × qSp)) : Bool :=
  cond (q_alt (fun g1 => q_okR (q_land2 (zx_len c.2.2.1.1) c.2.2.2.2.2 nodes none) (q_run ct zx_xa0 fuel (c.2.1, c.1, cuts) (g1, c.2.2.1.2) c.2.2.2.1 c.2.2.2.2.1 [] 0)) esp c.2.2.1.1)
    (List.rec (motive := fun _ => Bool) true (fun n _ ih => cond (cond (q_ms (zx_len n.1.2.1.1) n.1.2.2.2.2.2.2) (q_alt (fun g1 => q_okR (q_land2 (zx_len c.2.2.1.1) c.2.2.2.2.2 nodes (some n.1.2.2.2.2.2)) (q_go ct zx_xa0 fuel (c.2.1, c.1, cuts) (g1, n.1.2.1.2) n.1.2.2.1 n.1.2.2.2.1 n.1.2.2.2.2.1 n.1.1)) n.2 n.1.2.1.1) false) ih false) nodes) false
theorem q_spl_ok {hi z : Int} : ∀ {ms : List Int} {lo : Int}, lo ≤ z → z ≤ hi → ∃ q ∈ q_spl hi ms lo, q.1 ≤ z ∧ z ≤ q.2
  | [], lo, h1, h2 => ⟨(lo, hi), List.mem_cons_self, h1, h2⟩
  | m :: ms, lo, h1, h2 => by
    have e : q_spl hi (m :: ms) lo = (lo, m) :: q_spl hi ms (m + 1) := by
      show (lo, m) :: zx_i (Int.add m 1) (fun l => q_spl hi ms l) = _
      rw [zx_i_eq]
      rfl
    rw [e]
    by_cases hm : z ≤ m
    · exact ⟨(lo, m), List.mem_cons_self, h1, hm⟩
    · obtain ⟨q, q1, q2⟩ := q_spl_ok (ms := ms) (lo := m + 1) (z := z) (by omega) h2
      exact ⟨q, List.mem_cons_of_mem _ q1, q2⟩
theorem q_se1_eq {α : Type} (v : α) : ∀ (l : List α) (i : Nat), q_se1 v l i = l.set i v
  | [], _ => rfl
  | x :: t, 0 => rfl
  | x :: t, i + 1 => by
    show x :: q_se1 v t i = x :: t.set i v
    rw [q_se1_eq v t i]
theorem q_gi_ok {α : Type} {no : α} : ∀ {l : List α} {i : Nat}, i < l.length → l[i]? = some (q_gi l no i)
  | x :: t, 0, _ => rfl
  | x :: t, i + 1, h => by
    rw [List.getElem?_cons_succ]
    exact q_gi_ok (l := t) (i := i) (by rw [List.length_cons] at h; omega)
theorem q_gi_no {α : Type} {no : α} : ∀ {l : List α} {i : Nat}, ¬ i < l.length → q_gi l no i = no
  | [], _, _ => rfl
  | x :: t, 0, h => absurd (Nat.succ_pos _) h
  | x :: t, i + 1, h => q_gi_no (l := t) (i := i) (fun hh => h (Nat.succ_lt_succ hh))
section QC2
variable {ρ : List Int} {ex : Nat → Value} {fc : Nat → Nat → Int32} {Γ : qΓ} {D : va_G} {as : List Nat} {tys : List (ClassId × FieldType)} {g : qG} {o : List qO} {p : Nat}
theorem q_alt_ok {f : List (Int × Int) → Bool} {fs : List qF} : ∀ {sp : qSp} {g1 : List (Int × Int)}, qy_g ρ (g1, fs) → q_alt f sp g1 = true → ∃ g2, qy_g ρ (g2, fs) ∧ f g2 = true
  | [], g1, hg, h => ⟨g1, hg, h⟩
  | s :: sp, g1, hg, h => by
    have h : List.rec (motive := fun _ => Bool) true (fun q _ ih2 => cond (q_alt f sp (q_se1 q g1 s.1)) ih2 false) (q_spl (q_gi g1 (0, 0) s.1).2 s.2 (q_gi g1 (0, 0) s.1).1) = true := h
    have all : ∀ {l : List (Int × Int)}, List.rec (motive := fun _ => Bool) true (fun q _ ih2 => cond (q_alt f sp (q_se1 q g1 s.1)) ih2 false) l = true → ∀ q ∈ l, q_alt f sp (q_se1 q g1 s.1) = true := by
      intro l
      induction l with
      | nil => intro _ q hq; cases hq
      | cons a l ih =>
        intro hh q hq
        have hh : cond (q_alt f sp (q_se1 a g1 s.1)) (List.rec (motive := fun _ => Bool) true (fun q _ ih2 => cond (q_alt f sp (q_se1 q g1 s.1)) ih2 false) l) false = true := hh
        cases hb : q_alt f sp (q_se1 a g1 s.1) with
        | false => rw [hb] at hh; cases hh
        | true =>
          rw [hb] at hh
          rcases List.mem_cons.mp hq with rfl | hq
          · exact hb
          · exact ih hh q hq
    by_cases hs : s.1 < g1.length
    · have e1 := q_gi_ok (no := ((0, 0) : Int × Int)) hs
      obtain ⟨r, r1, r2, r3⟩ := hg.2.1 _ _ e1
      obtain ⟨q, q1, q2, q3⟩ := q_spl_ok (ms := s.2) r2 r3
      have hq := all h q q1
      refine q_alt_ok (sp := sp) (g1 := q_se1 q g1 s.1) ⟨?_, fun j u hu => ?_, hg.2.2⟩ hq
      · show (q_se1 q g1 s.1).length = ρ.length
        rw [q_se1_eq, List.length_set]
        exact hg.1
      · have hu : (q_se1 q g1 s.1)[j]? = some u := hu
        rw [q_se1_eq, List.getElem?_set] at hu
        by_cases e : s.1 = j
        · subst e
          rw [if_pos rfl, if_pos hs] at hu
          cases hu
          exact ⟨r, r1, q2, q3⟩
        · rw [if_neg e] at hu
          exact hg.2.1 j u hu
    · have e0 : q_gi g1 ((0, 0) : Int × Int) s.1 = (0, 0) := q_gi_no hs
      obtain ⟨q, q1, -⟩ := q_spl_ok (hi := (q_gi g1 (0, 0) s.1).2) (ms := s.2) (lo := (q_gi g1 (0, 0) s.1).1) (z := 0) (by rw [e0]; exact Int.le_refl _) (by rw [e0]; exact Int.le_refl _)
      have hq := all h q q1
      rw [q_se1_eq, List.set_eq_of_length_le (by omega)] at hq
      exact q_alt_ok (sp := sp) hg hq
theorem q_lwx_ok (hg : qy_g ρ g) {c : Int} {l : List (Int × Nat)} (h : q_lwx g c l = some o) : 1 ≤ c + q_S ρ l := by
  obtain ⟨m, m1, m2⟩ := q_lw_ok hg h
  rcases q_if m1 with ⟨b1, -⟩ | ⟨-, m3⟩
  · have b1 := q_le_iff.mp b1
    omega
  · have go : ∀ {fs : List qF}, (∀ f ∈ fs, f ∈ g.2) → List.rec (motive := fun _ => qR) none (fun f _ ih => zx_i (Int.neg f.1) fun a => zx_i (Int.neg f.2.2.1) fun b => zx_i (Int.add c f.2.2.2.2) fun c2 => q_lw g.1 c2 (q_ad a f.2.1 (q_ad b f.2.2.2.1 l)) fun m => cond (q_le 1 m) (some []) ih) fs = some o → 1 ≤ c + q_S ρ l := by
      intro fs
      induction fs with
      | nil => intro _ hh; cases hh
      | cons f fs ih =>
        intro hm hh
        have hh : zx_i (Int.neg f.1) (fun a => zx_i (Int.neg f.2.2.1) fun b => zx_i (Int.add c f.2.2.2.2) fun c2 => q_lw g.1 c2 (q_ad a f.2.1 (q_ad b f.2.2.2.1 l)) fun m => cond (q_le 1 m) (some []) (List.rec (motive := fun _ => qR) none (fun f _ ih => zx_i (Int.neg f.1) fun a => zx_i (Int.neg f.2.2.1) fun b => zx_i (Int.add c f.2.2.2.2) fun c2 => q_lw g.1 c2 (q_ad a f.2.1 (q_ad b f.2.2.2.1 l)) fun m => cond (q_le 1 m) (some []) ih) fs)) = some o := hh
        rw [zx_i_eq, zx_i_eq, zx_i_eq] at hh
        obtain ⟨m', k1, k2⟩ := q_lw_ok hg hh
        rcases q_if k1 with ⟨b1, -⟩ | ⟨-, k3⟩
        · have b1 := q_le_iff.mp b1
          rw [q_ad_ok, q_ad_ok] at k2
          obtain ⟨r1, r2, x1, x2, x3⟩ := hg.2.2 f (hm f List.mem_cons_self)
          rw [List.getD_eq_getElem?_getD, List.getD_eq_getElem?_getD, x1, x2] at k2
          have k2 : m' ≤ c + f.2.2.2.2 + (q_S ρ l + -f.2.2.1 * r2 + -f.1 * r1) := k2
          rw [Int.neg_mul, Int.neg_mul] at k2
          omega
        · exact ih (fun f' hf' => hm f' (List.mem_cons_of_mem _ hf')) k3
    exact go (fun _ hf => hf) m3
theorem q_fl2_ok (hp : p ≤ ρ.length) (hg : qy_g ρ g) {sg : List qV} {vals : List Int} (hF : qM_fin ρ sg vals) {ms mt : qM} (h : q_fl2 p g sg ms mt = some o) : 1 ≤ ms.1 + q_S ρ ms.2 ∧ mt.1 + q_S (ρ.take p ++ vals) mt.2 + 1 ≤ ms.1 + q_S ρ ms.2 := by
  obtain ⟨m, m1, m2⟩ := q_lw_ok hg h
  obtain ⟨b1, m1⟩ := q_cond m1
  have b1 := q_le_iff.mp b1
  obtain ⟨c, l, d1, d2⟩ := q_dm_ok hp hF m1
  have e2 := q_lwx_ok hg d1
  have d2 : c + q_S ρ l = ms.1 - mt.1 + q_S ρ ms.2 - q_S (ρ.take p ++ vals) mt.2 := d2
  omega
theorem q_ln3_ok (hex : ∀ j, ex j = .null ∨ ∃ a, ex j = .ref a) (hp : p ≤ ρ.length) {z : qO} (hg : qy_g ρ z.1) {pc : Nat} {lo : qL} {st : List qV} {ms : Option qM} : ∀ {l : List (qN × qSp)} {x : List qO}, q_ln3 p z pc lo st ms l = some x → ∃ c ∈ l, c.1.1 = pc ∧ ∃ sg vals, qM_res ρ ex fc as tys p c.1.2.1 c.1.2.2.1 c.1.2.2.2.1 c.1.2.2.2.2.1 none z.2.1 lo st none sg vals ∧ ∀ m, ms = some m → 1 ≤ m.1 + q_S ρ m.2 ∧ c.1.2.2.2.2.2.1 + q_S (ρ.take p ++ vals) c.1.2.2.2.2.2.2 + 1 ≤ m.1 + q_S ρ m.2
  | [], x, h => by cases h
  | c :: l, x, h => by
    have rest : q_ln3 p z pc lo st ms l = some x → ∃ c' ∈ c :: l, c'.1.1 = pc ∧ ∃ sg vals, qM_res ρ ex fc as tys p c'.1.2.1 c'.1.2.2.1 c'.1.2.2.2.1 c'.1.2.2.2.2.1 none z.2.1 lo st none sg vals ∧ ∀ m, ms = some m → 1 ≤ m.1 + q_S ρ m.2 ∧ c'.1.2.2.2.2.2.1 + q_S (ρ.take p ++ vals) c'.1.2.2.2.2.2.2 + 1 ≤ m.1 + q_S ρ m.2 := fun hh => by
      obtain ⟨c', c1, c2⟩ := q_ln3_ok hex hp hg (l := l) hh
      exact ⟨c', List.mem_cons_of_mem _ c1, c2⟩
    cases ms with
    | none =>
      rcases q_if (show cond (Nat.beq c.1.1 pc) (q_mt p c.1.2.1 c.1.2.2.1 c.1.2.2.2.1 c.1.2.2.2.2.1 none z.1 z.2.1 lo st none (fun _ => some []) (q_ln3 p z pc lo st none l)) (q_ln3 p z pc lo st none l) = some x from h) with ⟨hb, h1⟩ | ⟨hb, h1⟩
      · rcases q_mt_ok (fc := fc) (tys := tys) (as := as) hex hp hg h1 with ⟨sg, vals, h2, h3⟩ | h2
        · exact ⟨c, List.mem_cons_self, Nat.eq_of_beq_eq_true hb, sg, vals, h2, fun m hm => by cases hm⟩
        · exact rest h2
      · exact rest h1
    | some m0 =>
      rcases q_if (show cond (Nat.beq c.1.1 pc) (q_mt p c.1.2.1 c.1.2.2.1 c.1.2.2.2.1 c.1.2.2.2.2.1 none z.1 z.2.1 lo st none (fun sg => q_fl2 p z.1 sg m0 c.1.2.2.2.2.2) (q_ln3 p z pc lo st (some m0) l)) (q_ln3 p z pc lo st (some m0) l) = some x from h) with ⟨hb, h1⟩ | ⟨hb, h1⟩
      · rcases q_mt_ok (fc := fc) (tys := tys) (as := as) hex hp hg h1 with ⟨sg, vals, h2, h3⟩ | h2
        · refine ⟨c, List.mem_cons_self, Nat.eq_of_beq_eq_true hb, sg, vals, h2, fun m hm => ?_⟩
          cases hm
          exact q_fl2_ok hp hg h2.1 h3
        · exact rest h2
      · exact rest h1
theorem qs_ch2 {ct : List qC} (hV : ∀ c ∈ ct, qy_V ex Γ D as tys c) (hT : zk_t) (hA : zk_a) {fuel : Nat} {c : qC} {esp : qSp} {cuts : List Nat} {nodes : List (qN × qSp)} (h : q_ch2 ct fuel c esp cuts nodes = true) : qy_V ex Γ D as tys c := by
  intro _ fc ρ0 p l e R s m args below meth cd A ws H locs cs sl ls sv Q Cx Dy hl hs hret
  have hex := Cx.2.2.2.2.2.2.1.1
  have hg0 := Dy.2.2.2.2.2
  have hlen : zx_len c.2.2.1.1 = ρ0.length := by rw [zx_len_eq]; exact hg0.1
  have Cc : qy_C ex p R s m args meth cd A (c.2.1, c.1, cuts) cs sl := Cx.le (Nat.le_refl _)
  unfold q_ch2 at h
  rw [hlen] at h
  cases hE : q_alt (fun g1 => q_okR (q_land2 ρ0.length c.2.2.2.2.2 nodes none) (q_run ct zx_xa0 fuel (c.2.1, c.1, cuts) (g1, c.2.2.1.2) c.2.2.2.1 c.2.2.2.2.1 [] 0)) esp c.2.2.1.1 with
  | false => rw [hE] at h; cases h
  | true =>
    rw [hE, cond_true] at h
    have hN : ∀ n ∈ nodes, cond (q_ms (zx_len n.1.2.1.1) n.1.2.2.2.2.2.2) (q_alt (fun g1 => q_okR (q_land2 ρ0.length c.2.2.2.2.2 nodes (some n.1.2.2.2.2.2)) (q_go ct zx_xa0 fuel (c.2.1, c.1, cuts) (g1, n.1.2.1.2) n.1.2.2.1 n.1.2.2.2.1 n.1.2.2.2.2.1 n.1.1)) n.2 n.1.2.1.1) false = true := by
      have all : ∀ {F : qN × qSp → Bool} {l : List (qN × qSp)}, List.rec (motive := fun _ => Bool) true (fun n _ ih => cond (F n) ih false) l = true → ∀ n ∈ l, F n = true := by
        intro F l
        induction l with
        | nil => intro _ n hn; cases hn
        | cons a l ih =>
          intro hh n hn
          have hh : cond (F a) (List.rec (motive := fun _ => Bool) true (fun n _ ih => cond (F n) ih false) l) false = true := hh
          cases hb : F a with
          | false => rw [hb] at hh; cases hh
          | true =>
            rw [hb] at hh
            rcases List.mem_cons.mp hn with rfl | hn
            · exact hb
            · exact ih hh n hn
      exact all h
    -- an end of the method
    have ends : ∀ {z : qO} {rv : Option qV} {x : List qO} {ρ' : List Int} {ws' : va_W} {H' : Heap} {locs' : List Loc} {pc' : Nat} {ls' : Array Slot} {st' : List Value} {fc1 : Nat → Nat → Int32}, qγ Γ fc fc1 → qe ρ0 ρ' → qy_D ρ' ex fc1 D s A z.1 z.2.1 as tys ws' H' locs' → q_lp ρ0.length z rv c.2.2.2.2.2 = some x → qy_rt ρ' ex as c.1 pc' rv st' → W p l e R s m args below meth cd H' locs' cs sl Q (F0 m pc' ls' st') := by
      intro z rv x ρ' ws' H' locs' pc' ls' st' fc1 hγ hq Dz hx hrt
      obtain ⟨t1, t2⟩ := q_take hq
      obtain ⟨t, tm, sg, vals, r1, r2, r3, r4, r5, r6⟩ := q_lp_ok (fc := fc1) (tys := tys) (as := as) hex t2 Dz.2.2.2.2.2 hx
      rw [t1] at r2 r3 r4 r5 r6
      refine (hret.2 (t.1, t.2.1, .inl t.2.2) fc1 (ρ0 ++ vals) ws' H' locs' ⟨List.mem_map.mpr ⟨t, tm, rfl⟩, ⟨vals, rfl⟩, hγ⟩ ⟨Dz.1, Dz.2.1, Dz.2.2.1, Dz.2.2.2.1, r3 _ Dz.2.2.2.2.1, r2⟩).1 t.2.2 rfl pc' ls' st' ?_
      rcases r6 with ⟨q1, q2⟩ | ⟨a, b, q1, q2, q3⟩
      · rw [q1]
        rw [q2] at hrt
        exact hrt
      · rw [q1]
        rw [q2] at hrt
        obtain ⟨v, v1, v2, v3⟩ := hrt
        exact ⟨v, v1, q3 v v2, v3⟩
    -- from every node
    have node : ∀ (N : Nat) (nd : qN × qSp), nd ∈ nodes → ∀ {ρ : List Int} {ws' : va_W} {H' : Heap} {locs' : List Loc} {ls' : Array Slot} {sv' : List Value} {fc1 : Nat → Nat → Int32}, qγ Γ fc fc1 → qe ρ0 ρ → (nd.1.2.2.2.2.2.1 + q_S ρ nd.1.2.2.2.2.2.2).toNat < N → qy_D ρ ex fc1 D s A nd.1.2.1 nd.1.2.2.1 as tys ws' H' locs' → qy_l ρ ex as ls' (zx_info c.1).1 nd.1.2.2.2.1 → qy_s ρ ex as nd.1.2.2.2.2.1 sv' → W p l e R s m args below meth cd H' locs' cs sl Q (F0 m nd.1.1 ls' sv') := by
      intro N
      induction N with
      | zero => intro nd _ ρ ws' H' locs' ls' sv' fc1 _ _ hz; omega
      | succ N ih =>
        intro nd hnd ρ ws' H' locs' ls' sv' fc1 hγ hq hm Dn hln hsn
        have hn := hN nd hnd
        cases hms : q_ms (zx_len nd.1.2.1.1) nd.1.2.2.2.2.2.2 with
        | false => rw [hms] at hn; cases hn
        | true =>
          rw [hms, cond_true] at hn
          rw [zx_len_eq, Dn.2.2.2.2.2.1] at hms
          obtain ⟨g2, hg2, hn⟩ := q_alt_ok (fs := nd.1.2.1.2) (g1 := nd.1.2.1.1) Dn.2.2.2.2.2 hn
          obtain ⟨outs, o1, o2⟩ := q_okR_ok hn
          refine qs_go hV hT hA fuel _ _ _ _ _ _ _ o1 () (ρ := ρ) Cc ⟨Dn.1, Dn.2.1, Dn.2.2.1, Dn.2.2.2.1, Dn.2.2.2.2.1, hg2⟩ hln hsn ?_
          refine ⟨hγ.1, ?_⟩
          intro z fc2 ρ' ws2 H2 locs2 ⟨hz, hq2, hγ2⟩ Dz
          obtain ⟨x, hx⟩ := o2 z hz
          refine ⟨fun rv hrv pc' ls2 st2 hrt => ?_, fun pc' lo' st2 hrv ls2 sv2 hl2 hs2 => ?_⟩
          · unfold q_land2 at hx
            rw [hrv] at hx
            exact ends (hγ.tr hγ2) (hq.tr hq2) Dz hx hrt
          · unfold q_land2 at hx
            rw [hrv] at hx
            obtain ⟨t1, t2⟩ := q_take (hq.tr hq2)
            obtain ⟨n2, n3, n4, sg, vals, ⟨r1, r2, r3, r4, r5, r6⟩, r7⟩ := q_ln3_ok (fc := fc2) (tys := tys) (as := as) hex t2 Dz.2.2.2.2.2 hx
            obtain ⟨f1, f2⟩ := r7 _ rfl
            rw [q_S_ext hq2 hms] at f1 f2
            rw [t1] at r2 r3 r4 r5 f2
            rw [← n4]
            exact ih n2 n3 (ρ := ρ0 ++ vals) (hγ.tr hγ2) ⟨vals, rfl⟩ (by omega) ⟨Dz.1, Dz.2.1, Dz.2.2.1, Dz.2.2.2.1, r3 _ Dz.2.2.2.2.1, r2⟩ (r4 _ _ hl2) (r5 _ hs2)
    -- from the entry
    obtain ⟨g2, hg2, hE2⟩ := q_alt_ok (fs := c.2.2.1.2) (g1 := c.2.2.1.1) hg0 hE
    obtain ⟨outs, o1, o2⟩ := q_okR_ok hE2
    refine qs_run hV hT hA fuel _ _ _ _ _ _ _ o1 () (ρ := ρ0) Cc ⟨Dy.1, Dy.2.1, Dy.2.2.1, Dy.2.2.2.1, Dy.2.2.2.2.1, hg2⟩ hl hs ?_
    refine ⟨hret.1, ?_⟩
    intro z fc2 ρ' ws2 H2 locs2 ⟨hz, hq2, hγ2⟩ Dz
    obtain ⟨x, hx⟩ := o2 z hz
    refine ⟨fun rv hrv pc' ls2 st2 hrt => ?_, fun pc' lo' st2 hrv ls2 sv2 hl2 hs2 => ?_⟩
    · unfold q_land2 at hx
      rw [hrv] at hx
      exact ends hγ2 hq2 Dz hx hrt
    · unfold q_land2 at hx
      rw [hrv] at hx
      obtain ⟨t1, t2⟩ := q_take hq2
      obtain ⟨n2, n3, n4, sg, vals, ⟨r1, r2, r3, r4, r5, r6⟩, r7⟩ := q_ln3_ok (fc := fc2) (tys := tys) (as := as) hex t2 Dz.2.2.2.2.2 hx
      rw [t1] at r2 r3 r4 r5
      rw [← n4]
      exact node _ n2 n3 (ρ := ρ0 ++ vals) hγ2 ⟨vals, rfl⟩ (Nat.lt_succ_self _) ⟨Dz.1, Dz.2.1, Dz.2.2.1, Dz.2.2.2.1, r3 _ Dz.2.2.2.2.1, r2⟩ (r4 _ _ hl2) (r5 _ hs2)
end QC2
