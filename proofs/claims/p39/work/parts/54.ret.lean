/-! copying, Math, the switch by keys, the ends of methods -/
section QW
variable {ex : Nat → Value} {fc : Nat → Nat → Int32} {Γ : qΓ} {D : va_G} {as : List Nat} {tys : List (ClassId × FieldType)} {k pc : Nat}
theorem q_se_ok : ∀ {a b : qS}, q_se a b = true → a = b
  | [], [], _ => rfl
  | x :: r, y :: t, h => by
    obtain ⟨h1, h⟩ := Bool.and_eq_true_iff.mp (show (Nat.beq x.1 y.1 && (q_eq x.2.1 y.2.1 && (q_eq x.2.2 y.2.2 && q_se r t))) = true from h)
    obtain ⟨h2, h⟩ := Bool.and_eq_true_iff.mp h
    obtain ⟨h3, h4⟩ := Bool.and_eq_true_iff.mp h
    obtain ⟨x1, x2, x3⟩ := x
    obtain ⟨y1, y2, y3⟩ := y
    have h1 : x1 = y1 := Nat.eq_of_beq_eq_true h1
    have h2 : x2 = y2 := q_eq_iff.mp h2
    have h3 : x3 = y3 := q_eq_iff.mp h3
    rw [h1, h2, h3, q_se_ok h4]
  | [], _ :: _, h => by cases h
  | _ :: _, [], h => by cases h
theorem q_cpw_ok {sa sb : qS} {sp dp : Nat} : ∀ {n i : Nat}, q_cpw sa sb sp dp n i = true → ∀ j, i ≤ j → j < i + n → q_fa (q_lo ((sp + j) % q_pd sa) ((sp + j) % q_pd sa) sa 0) (q_hi ((sp + j) % q_pd sa) ((sp + j) % q_pd sa) sa 0) ((dp + j) % q_pd sb) ((dp + j) % q_pd sb) sb 0 = true
  | 0, i, _, j, h1, h2 => by omega
  | n + 1, i, h, j, h1, h2 => by
    have h : cond (q_fa (q_lo ((sp + i) % q_pd sa) ((sp + i) % q_pd sa) sa 0) (q_hi ((sp + i) % q_pd sa) ((sp + i) % q_pd sa) sa 0) ((dp + i) % q_pd sb) ((dp + i) % q_pd sb) sb 0) (q_cpw sa sb sp dp n (Nat.succ i)) false = true := h
    cases hb : q_fa (q_lo ((sp + i) % q_pd sa) ((sp + i) % q_pd sa) sa 0) (q_hi ((sp + i) % q_pd sa) ((sp + i) % q_pd sa) sa 0) ((dp + i) % q_pd sb) ((dp + i) % q_pd sb) sb 0 with
    | false => rw [hb] at h; cases h
    | true =>
      rw [hb] at h
      by_cases e : j = i
      · subst e; exact hb
      · exact q_cpw_ok (n := n) (i := i + 1) h j (by omega) (by omega)
theorem qh_cpy {nx idx : Nat} (h1 : Jvm.Cond.methodLink (zx_name k).cls idx arraycopyName ∈ zx_tb) (h2 : Jvm.Cond.native arraycopyName ∈ zx_tb) (h3 : Jvm.Cond.static arraycopyName ∈ zx_tb) (h4 : Jvm.Cond.initialized "java/lang/System" ∈ zx_tb) (hd : decode (zx_bys k) pc = .ok (.invokestatic idx, 3)) (hn : nx = pc + 3) : qy_Hok ex Γ D as tys k pc (q_cpy nx) := by
  intro rec hr fr g w lo st outs hk h _ fc ρ p l e R s m args below meth cd A ws H locs cs sl ls sv Q Cx Dy hl hs hret
  subst hk; subst hn
  have hg := Dy.2.2.2.2.2
  have hw := Dy.2.2.2.2.1
  match st, sv, hs, h with
  | .inl n :: dp :: .inr (.inr (.inl (some d))) :: sp :: .inr (.inr (.inl (some s0))) :: r, vn :: vdp :: vd :: vsp :: vs0 :: t, ⟨⟨xn, e1, en⟩, e2, e3, e4, e5, e6⟩, h =>
    unfold q_cpy at h
    dsimp only at h
    obtain ⟨dp', e2, h⟩ := q_nm_ok hg e2 h
    obtain ⟨sp', e4, h⟩ := q_nm_ok hg e4 h
    obtain ⟨xd, dl, dh, rfl, bd1, bd2, h⟩ := q_rg_ok hg e2 h
    obtain ⟨xs, sl0, sh, rfl, bs1, bs2, h⟩ := q_rg_ok hg e4 h
    obtain ⟨z, k1, h⟩ := q_at_ok h
    obtain ⟨q, ea, rfl, hq, k6, k7⟩ := qy_arr hw k1 e5
    match z, k1, h, k7 with
    | .inr (.inr (.inl (ty, N, sg, kn))), k1, h, k7 =>
      obtain ⟨z2, k2, h⟩ := q_at_ok h
      obtain ⟨q2, eb, rfl, hq2, k8, k9⟩ := qy_arr hw k2 e3
      match z2, k2, h, k9 with
      | .inr (.inr (.inl (ty2, N2, sg2, kn2))), k2, h, k9 =>
        obtain ⟨hb, h⟩ := q_cond h
        simp only [Bool.and_eq_true] at hb
        obtain ⟨⟨⟨⟨⟨⟨⟨⟨b1, b2⟩, b3⟩, b4⟩, b5⟩, b6⟩, b7⟩, b8⟩, b9⟩ := hb
        have b1 : ty = 0 := Nat.eq_of_beq_eq_true b1
        have b2 : ty2 = 0 := Nat.eq_of_beq_eq_true b2
        have b3 := q_le_iff.mp b3
        have b4 := q_le_iff.mp b4
        have b5 := q_le_iff.mp b5
        have b6 : sh + n ≤ (N : Int) := q_le_iff.mp b6
        have b7 : dh + n ≤ (N2 : Int) := q_le_iff.mp b7
        have b8 := Nat.le_of_ble_eq_true b8
        have b9 := Nat.le_of_ble_eq_true b9
        subst b1
        subst b2
        obtain ⟨sa, sb, h, hP1, p1, p2⟩ := q_ri_ok e4 bs1 bs2 b5 h
        obtain ⟨da, db, h, hP2, p3, p4⟩ := q_ri_ok e2 bd1 bd2 b4 h
        obtain ⟨hc, h8⟩ := q_cond h
        clear h
        obtain ⟨-, h9⟩ := q_set_ok h8
        clear h8
        simp only [Bool.and_eq_true] at hc
        obtain ⟨⟨c1, c2⟩, c3⟩ := hc
        have c1 : sa = sb := Nat.eq_of_beq_eq_true c1
        have c2 : da = db := Nat.eq_of_beq_eq_true c2
        dsimp only at hP1 hP2 p1 p2 p3 p4 c3
        have rs : xs.toInt.toNat % q_pd sg = sa := by omega
        have rd : xd.toInt.toNat % q_pd sg2 = da := by omega
        match ea, k7, k6 with
        | .inl (cA, n0, .inr (.inl f)), ⟨z, _⟩, _ => exact absurd z (by omega)
        | .inl (cA, n0, .inl f), ⟨_, ⟨i0, a1⟩, a2, a3, a4⟩, k6 =>
          match eb, k9, k8 with
          | .inl (cB, n1, .inr (.inl g)), ⟨z, _⟩, _ => exact absurd z (by omega)
          | .inl (cB, n1, .inl gg), ⟨y0, ⟨i1, b1'⟩, b2', b3', b4'⟩, k8 =>
            subst a2
            subst b2'
            have hts := Cx.2.2.2.2.1
            have hdp := qy_dep Cx.2.2.2.2.2.2.1.1 e6
            have hR := Cx.2.2.2.2.2.2.2.2.1
            rw [e1]
            have nn : ∀ {x : Int32}, 0 ≤ x.toInt → ¬ x < 0 := fun {x} hx hz => by
              have := Int32.lt_iff_toInt_lt.mp hz
              have e : (0 : Int32).toInt = 0 := rfl
              omega
            have cn : xn.toNatClampNeg = xn.toInt.toNat := rfl
            have cs' : xs.toNatClampNeg = xs.toInt.toNat := rfl
            have cd' : xd.toNatClampNeg = xd.toInt.toNat := rfl
            refine va_copyi (own := (zx_name fr.2.1).cls) Cx.1 Cx.2.1 (by rw [Cx.2.2.1]; exact hl.1.symm) Cx.2.2.2.1 (hts _ h1) (hts _ h2) (hts _ h3) (hts _ h4) Dy.1 Dy.2.1 Dy.2.2.1 Dy.2.2.2.1 s0 d i0 i1 k6 k8 a1 b1' rfl (nn (by omega)) (nn (by omega)) (nn (by omega)) (by rw [cn, cs']; omega) (by rw [cn, cd']; omega) (fun _ _ => rfl) (Nat.le_trans b9 Cx.2.2.2.2.2.2.2.1) (by rw [hdp]; show _ + (7 + 11) ≤ _; have hR : 64 * fr.1 ≤ R.locals := hR; omega) hd (fun H1 locs1 pp dd ss => ?_)
            rw [cn, cs', cd'] at pp dd
            refine hr _ _ _ _ _ _ _ h9 () Cx ⟨Dy.1, pp, dd, ss, qy_wset hw hq2 ⟨y0, ⟨i1, b1'⟩, rfl, fun j hj => ?_, fun u hu => by cases hu⟩, hg⟩ hl e6 hret
            unfold va_cpy
            split
            · rename_i hin
              -- copied
              have hsrc := a3 (xs.toInt.toNat + (j - xd.toInt.toNat)) (by omega)
              unfold qy_i at hsrc ⊢
              have m1 : (xs.toInt.toNat + (j - xd.toInt.toNat)) % q_pd sg = (sa + (j - xd.toInt.toNat)) % q_pd sg := by rw [← rs, Nat.mod_add_mod]
              have m2 : j % q_pd sg2 = (da + (j - xd.toInt.toNat)) % q_pd sg2 := by
                rw [← rd, Nat.mod_add_mod]
                congr 1
                omega
              rw [m1] at hsrc
              rw [m2]
              cases hq : (q_se sg sg2 && Nat.beq sa da) with
              | true =>
                obtain ⟨t1, t2⟩ := Bool.and_eq_true_iff.mp hq
                have t1 := q_se_ok t1
                have t2 : sa = da := Nat.eq_of_beq_eq_true t2
                rw [← t1, ← t2]
                exact hsrc
              | false =>
                rw [hq] at c3
                obtain ⟨t1, t2⟩ := Bool.and_eq_true_iff.mp (show (Nat.ble (Int.toNat n) 64 && q_cpw sg sg2 sa da (Int.toNat n) 0) = true from c3)
                have hz := q_cpw_ok t2 (j - xd.toInt.toNat) (Nat.zero_le _) (by omega)
                obtain ⟨l1, l2⟩ := q_fa_lo (Nat.le_refl _) (Nat.le_refl _) hsrc (Nat.zero_le _) (by rw [Nat.zero_add]; exact Nat.mod_lt _ hP1)
                exact q_fa_in l1 l2 (Nat.le_refl _) (Nat.le_refl _) hz
            · exact b3' j hj
theorem qh_mmx {nx idx : Nat} (h1 : Jvm.Cond.methodLink (zx_name k).cls idx Lib.Math.max.name ∈ zx_tb) (h2 : Jvm.Cond.static Lib.Math.max.name ∈ zx_tb) (h3 : Jvm.Cond.code Lib.Math.max.name Lib.Math.max.code 2 (some .int) ∈ zx_tb) (h4 : Jvm.Cond.initialized "java/lang/Math" ∈ zx_tb) (hd : decode (zx_bys k) pc = .ok (.invokestatic idx, 3)) (hn : nx = pc + 3) : qy_Hok ex Γ D as tys k pc (q_mm q_mmx nx) := by
  intro rec hr fr g w lo st outs hk h _ fc ρ p l e R s m args below meth cd A ws H locs cs sl ls sv Q Cx Dy hl hs hret
  subst hk; subst hn
  match st, sv, hs, h with
  | b :: a :: r, vb :: va :: t, ⟨e1, e2, e3⟩, h =>
    obtain ⟨hb, h⟩ := q_cond h
    obtain ⟨hb1, hb2⟩ := Bool.and_eq_true_iff.mp hb
    have hb1 := Nat.le_of_ble_eq_true hb1
    have hb2 := Nat.le_of_ble_eq_true hb2
    obtain ⟨x, y, rfl, rfl, hm⟩ := q_mmx_ok Dy.2.2.2.2.2 e2 e1 h
    have hts := Cx.2.2.2.2.1
    have hdp := qy_dep Cx.2.2.2.2.2.2.1.1 e3
    have hR : 64 * fr.1 ≤ R.locals := Cx.2.2.2.2.2.2.2.2.1
    have hml : cd.maxLocals = ls.size := by rw [Cx.2.2.1]; exact hl.1.symm
    have hlo : (t.map fun v => v.category).sum + 13 ≤ R.locals := by rw [hdp]; omega
    refine va_mmax (own := (zx_name fr.2.1).cls) Cx.1 Cx.2.1 hml Cx.2.2.2.1 (hts _ h1) (hts _ h2) (hts _ h4) (hts _ h3) (Nat.le_trans hb2 Cx.2.2.2.2.2.2.2.1) hlo Cx.2.2.2.2.2.2.2.2.2.1 Cx.2.2.2.2.2.2.2.2.2.2.1 hd ?_
    obtain ⟨ρ', g', v, q1, q2, q3, q4⟩ := hm (if x < y then y else x) (by
      split
      · rename_i z; have := Int32.lt_iff_toInt_lt.mp z; omega
      · rename_i z; have : ¬ x.toInt < y.toInt := fun u => z (Int32.lt_iff_toInt_lt.mpr u); omega)
    exact hr _ _ _ _ _ _ _ q4 () Cx (Dy.g q1 q2) (hl.mono q1) ⟨q3, e3.mono q1⟩ (hret.mono q1 (fun _ z => z))
theorem qh_mmn {nx idx : Nat} (h1 : Jvm.Cond.methodLink (zx_name k).cls idx Lib.Math.min.name ∈ zx_tb) (h2 : Jvm.Cond.static Lib.Math.min.name ∈ zx_tb) (h3 : Jvm.Cond.code Lib.Math.min.name Lib.Math.min.code 2 (some .int) ∈ zx_tb) (h4 : Jvm.Cond.initialized "java/lang/Math" ∈ zx_tb) (hd : decode (zx_bys k) pc = .ok (.invokestatic idx, 3)) (hn : nx = pc + 3) : qy_Hok ex Γ D as tys k pc (q_mm q_mmn nx) := by
  intro rec hr fr g w lo st outs hk h _ fc ρ p l e R s m args below meth cd A ws H locs cs sl ls sv Q Cx Dy hl hs hret
  subst hk; subst hn
  match st, sv, hs, h with
  | b :: a :: r, vb :: va :: t, ⟨e1, e2, e3⟩, h =>
    obtain ⟨hb, h⟩ := q_cond h
    obtain ⟨hb1, hb2⟩ := Bool.and_eq_true_iff.mp hb
    have hb1 := Nat.le_of_ble_eq_true hb1
    have hb2 := Nat.le_of_ble_eq_true hb2
    obtain ⟨x, y, rfl, rfl, hm⟩ := q_mmn_ok Dy.2.2.2.2.2 e2 e1 h
    have hts := Cx.2.2.2.2.1
    have hdp := qy_dep Cx.2.2.2.2.2.2.1.1 e3
    have hR : 64 * fr.1 ≤ R.locals := Cx.2.2.2.2.2.2.2.2.1
    have hml : cd.maxLocals = ls.size := by rw [Cx.2.2.1]; exact hl.1.symm
    have hlo : (t.map fun v => v.category).sum + 13 ≤ R.locals := by rw [hdp]; omega
    refine va_mmin (own := (zx_name fr.2.1).cls) Cx.1 Cx.2.1 hml Cx.2.2.2.1 (hts _ h1) (hts _ h2) (hts _ h4) (hts _ h3) (Nat.le_trans hb2 Cx.2.2.2.2.2.2.2.1) hlo Cx.2.2.2.2.2.2.2.2.2.1 Cx.2.2.2.2.2.2.2.2.2.2.1 hd ?_
    obtain ⟨ρ', g', v, q1, q2, q3, q4⟩ := hm (if y < x then y else x) (by
      split
      · rename_i z; have := Int32.lt_iff_toInt_lt.mp z; omega
      · rename_i z; have : ¬ y.toInt < x.toInt := fun u => z (Int32.lt_iff_toInt_lt.mpr u); omega)
    exact hr _ _ _ _ _ _ _ q4 () Cx (Dy.g q1 q2) (hl.mono q1) ⟨q3, e3.mono q1⟩ (hret.mono q1 (fun _ z => z))
theorem qh_ret {t : Nat} (hd : decode (zx_bys k) pc = .ok (.ireturn, 1)) (ht : zx_rk (zx_info k).2.1 t) : qy_Hok ex Γ D as tys k pc (q_ret t) := by
  intro rec hr fr g w lo st outs hk h _ fc ρ p l e R s m args below meth cd A ws H locs cs sl ls sv Q Cx Dy hl hs hret
  subst hk
  match st, sv, hs, h with
  | [a], [v], ⟨h1, _⟩, h =>
    have hex := Cx.2.2.2.2.2.2.1.1
    have hg := Dy.2.2.2.2.2
    have h : q_fit t g a (some [(g, w, .inl (some a))]) = some outs := h
    have fin : ∀ (x : Int32) (ty : FieldType), v = .int x → (zx_info fr.2.1).2.1 = some ty → (ty = .int ∨ narrow ty (.int x) = .int x) → some [(g, w, .inl (some a))] = some outs → W p l e R s m args below meth cd H locs cs sl Q (F0 m pc ls [v]) := by
      intro x ty hv hty hn ho
      cases ho
      exact (hret.here (o := (g, w, .inl (some a))) List.mem_cons_self qe.rf Dy).1 (some a) rfl pc ls [v] ⟨v, rfl, h1, Or.inl ⟨hd, x, ty, hv, hty, hn⟩⟩
    rcases ht with ⟨rfl, h5⟩ | ⟨rfl, h5⟩ | ⟨rfl, h5⟩ | ⟨rfl, h5⟩
    · obtain ⟨h6, h7⟩ := q_cond h
      obtain ⟨x, hx⟩ := qy_isI h6 h1
      exact fin x .int hx h5 (Or.inl rfl) h7
    · obtain ⟨x, lo', hi', hx, -, -, -⟩ := q_rg_ok hg h1 (show q_rg g a (fun lo hi => cond (q_le 0 lo && q_le hi 1) (some [(g, w, .inl (some a))]) none) = some outs from h)
      obtain ⟨z1, z2, z3⟩ := q_fit_ok hex hg (ty := .boolean) (Or.inr (Or.inl ⟨rfl, rfl⟩)) h1 h
      rw [hx] at z1
      exact fin x .boolean hx h5 (Or.inr z1) z3
    · obtain ⟨x, lo', hi', hx, -, -, -⟩ := q_rg_ok hg h1 (show q_rg g a (fun lo hi => cond (q_le 0 lo && q_le hi 127) (some [(g, w, .inl (some a))]) none) = some outs from h)
      obtain ⟨z1, z2, z3⟩ := q_fit_ok hex hg (ty := .char) (Or.inr (Or.inr (Or.inr (Or.inr (Or.inl ⟨rfl, rfl⟩))))) h1 h
      rw [hx] at z1
      exact fin x .char hx h5 (Or.inr z1) z3
    · obtain ⟨x, lo', hi', hx, -, -, -⟩ := q_rg_ok hg h1 (show q_rg g a (fun lo hi => cond (q_le 0 lo && q_le hi 127) (some [(g, w, .inl (some a))]) none) = some outs from h)
      obtain ⟨z1, z2, z3⟩ := q_fit_ok hex hg (ty := .byte) (Or.inr (Or.inr (Or.inr (Or.inr (Or.inr ⟨rfl, rfl⟩))))) h1 h
      rw [hx] at z1
      exact fin x .byte hx h5 (Or.inr z1) z3
theorem qh_lret (hd : decode (zx_bys k) pc = .ok (.lreturn, 1)) (ht : (zx_info k).2.1 = some .long) : qy_Hok ex Γ D as tys k pc (q_ret 3) := by
  intro rec hr fr g w lo st outs hk h _ fc ρ p l e R s m args below meth cd A ws H locs cs sl ls sv Q Cx Dy hl hs hret
  subst hk
  match st, sv, hs, h with
  | [a], [v], ⟨h1, _⟩, h =>
    obtain ⟨h2, h3⟩ := q_cond (show cond (q_isL a) (some [(g, w, .inl (some a))]) none = some outs from h)
    cases h3
    exact (hret.here (o := (g, w, .inl (some a))) List.mem_cons_self qe.rf Dy).1 (some a) rfl pc ls [v] ⟨v, rfl, h1, Or.inr ⟨hd, ht, qy_isL h2 h1⟩⟩
theorem qh_vret (hd : decode (zx_bys k) pc = .ok (.return_, 1)) (ht : (zx_info k).2.1 = none) : qy_Hok ex Γ D as tys k pc q_vret := by
  intro rec hr fr g w lo st outs hk h _ fc ρ p l e R s m args below meth cd A ws H locs cs sl ls sv Q Cx Dy hl hs hret
  subst hk
  match st, sv, hs, h with
  | [], [], _, h =>
    have h : some [(g, w, .inl none)] = some outs := h
    cases h
    exact (hret.here (o := (g, w, .inl none)) List.mem_cons_self qe.rf Dy).1 none rfl pc ls [] ⟨rfl, hd, ht⟩
theorem q_b255 (x : Int32) (h1 : (-128 : Int) ≤ x.toInt) (h2 : x.toInt ≤ 127) : (x &&& 255).toInt = if 0 ≤ x.toInt then x.toInt else x.toInt + 256 := by
  have all : ∀ i : Fin 256, (Int32.ofInt ((i.val : Int) - 128) &&& 255).toInt = if 0 ≤ ((i.val : Int) - 128) then ((i.val : Int) - 128) else ((i.val : Int) - 128) + 256 := by decide +kernel
  have hx : x = Int32.ofInt x.toInt := (Int32.ofInt_toInt x).symm
  have := all ⟨(x.toInt + 128).toNat, by omega⟩
  have e : (((x.toInt + 128).toNat : Nat) : Int) - 128 = x.toInt := by omega
  dsimp only at this
  rw [e, ← hx] at this
  exact this
theorem qh_anb {nx : Nat} (hand : qy_Hok ex Γ D as tys k pc (q_bin q_and nx)) (row : ∀ {x y : Int32} {p : Program} {l : Launch} {e : Env} {R : Room} {s : State} {m : MethodId} {args : Array Value} {below : List Frame} {meth : Method} {c : Code} {H : Heap} {locs : List Loc} {cells slots : Nat} {Q : State → Prop} {ls : Array Slot} {rest : List Value}, p.tables.exec = Jvm.exec → c.code = zx_bys k →
      W p l e R s m args below meth c H locs cells slots Q (F0 m nx ls (.int (x &&& y) :: rest)) → W p l e R s m args below meth c H locs cells slots Q (F0 m pc ls (.int y :: .int x :: rest))) : qy_Hok ex Γ D as tys k pc (q_anb nx) := by
  intro rec hr fr g w lo st outs hk h _ fc ρ p l e R s m args below meth cd A ws H locs cs sl ls sv Q Cx Dy hl hs hret
  have old : q_bin q_and nx rec fr g w lo st pc = some outs → W p l e R s m args below meth cd H locs cs sl Q (F0 m pc ls sv) := fun hh => hand rec hr fr g w lo st outs hk hh () Cx Dy hl hs hret
  unfold q_anb at h
  split at h
  · rename_i z s0 c d r
    match sv, hs with
    | vb :: va :: t, ⟨h1, h2, h3⟩ =>
      obtain ⟨x, l0, h0, rfl, b1, b2, h4⟩ := q_rg_ok Dy.2.2.2.2.2 h2 h
      rcases q_if h4 with ⟨hb, h5⟩ | ⟨hb, h5⟩
      · simp only [Bool.and_eq_true] at hb
        obtain ⟨c1, c2, c3, c4, c5⟩ := hb
        have c1 := q_eq_iff.mp c1
        have c2 := q_eq_iff.mp c2
        have c3 := q_eq_iff.mp c3
        have c4 : (-128 : Int) ≤ l0 := q_le_iff.mp c4
        have c5 := q_le_iff.mp c5
        subst c1
        subst c2
        subst c3
        obtain ⟨y, rfl, hy⟩ := h1
        have hy : y = 255 := Int32.toInt_inj.mp hy
        subst hy
        obtain ⟨x', r', x1, x2, x3⟩ := h2
        cases x1
        have x2 : ρ[s0]? = some r' := x2
        have x3 : x.toInt = 1 * r' + 0 := x3
        have e255 := q_b255 x (by omega) (by omega)
        obtain ⟨o1, o2, p1, p2, p3, p4⟩ := q_app_ok h5
        have hbb : cd.code = zx_bys k := by rw [← hk]; exact Cx.2.1
        refine row Cx.1 hbb ?_
        by_cases hx : 0 ≤ x.toInt
        · rw [if_pos hx] at e255
          obtain ⟨g', g1, g2⟩ := q_lb_ok (ex := ex) (as := as) Dy.2.2.2.2.2 (show qy_v ρ ex as (.inr (.inl (s0, 1, 0))) (.int x) from ⟨x, r', rfl, x2, x3⟩) hx p1
          exact hr _ _ _ _ _ _ _ g2 () Cx (Dy.g qe.rf g1) hl ⟨⟨_, r', rfl, x2, by show _ = 1 * r' + 0; omega⟩, h3⟩ (hret.mono qe.rf p3)
        · rw [if_neg hx] at e255
          obtain ⟨g', g1, g2⟩ := q_ub_ok (ex := ex) (as := as) (u := .negSucc 0) Dy.2.2.2.2.2 (show qy_v ρ ex as (.inr (.inl (s0, 1, 0))) (.int x) from ⟨x, r', rfl, x2, x3⟩) (by show x.toInt ≤ -1; omega) p2
          exact hr _ _ _ _ _ _ _ g2 () Cx (Dy.g qe.rf g1) hl ⟨⟨_, r', rfl, x2, by show _ = 1 * r' + 256; omega⟩, h3⟩ (hret.mono qe.rf p4)
      · exact old h5
  · exact old h
end QW
