/-! longs, switches -/
section QI
variable {ex : Nat → Value} {fc : Nat → Nat → Int32} {Γ : qΓ} {D : va_G} {as : List Nat} {tys : List (ClassId × FieldType)} {k pc : Nat}
theorem q_i64 (x : Int64) : -9223372036854775808 ≤ x.toInt ∧ x.toInt ≤ 9223372036854775807 := ⟨Int64.le_toInt x, by have := Int64.toInt_lt x; omega⟩
theorem q_frL_ok {ρ : List Int} {g : qG} {o : List qO} {x : Int64} {kk : qG → qV → qR} (hg : qy_g ρ g) (h : q_frL g kk = some o) : ∃ ρ' g' v, qe ρ ρ' ∧ qy_g ρ' g' ∧ qy_v ρ' ex as v (.long x) ∧ kk g' v = some o := by
  unfold q_frL at h
  rw [zx_n_eq, q_snoc_eq, zx_len_eq] at h
  refine ⟨_, _, .inr (.inr (.inr (.inr (.inr (.inl g.1.length))))), qe.ap x.toInt, qy_gap hg (q_i64 x).1 (q_i64 x).2, ⟨x, x.toInt, rfl, ?_, rfl⟩, h⟩
  rw [hg.1, List.getElem?_append_right (Nat.le_refl _)]
  simp
theorem qh_lop {op : Int64 → Int64 → Int64} {nx : Nat}
    (row : ∀ {x y : Int64} {p : Program} {l : Launch} {e : Env} {R : Room} {s : State} {m : MethodId} {args : Array Value} {below : List Frame} {meth : Method} {c : Code} {H : Heap} {locs : List Loc} {cells slots : Nat} {Q : State → Prop} {ls : Array Slot} {rest : List Value}, p.tables.exec = Jvm.exec → c.code = zx_bys k →
      W p l e R s m args below meth c H locs cells slots Q (F0 m nx ls (.long (op x y) :: rest)) → W p l e R s m args below meth c H locs cells slots Q (F0 m pc ls (.long y :: .long x :: rest))) : qy_Hok ex Γ D as tys k pc (q_lop nx) := by
  intro rec hr fr g w lo st outs hk h _ fc ρ p l e R s m args below meth c A ws H locs cs sl ls sv Q C Dy hl hs hret
  match st, sv, hs, h with
  | b :: a :: r, vb :: va :: t, ⟨h1, h2, h3⟩, h =>
    obtain ⟨hb0, h⟩ := q_cond h
    obtain ⟨b1, b2⟩ := Bool.and_eq_true_iff.mp hb0
    obtain ⟨x, rfl⟩ := qy_isL b1 h2
    obtain ⟨y, rfl⟩ := qy_isL b2 h1
    obtain ⟨ρ', g', v, q1, q2, q3, q4⟩ := q_frL_ok (ex := ex) (as := as) (x := op x y) Dy.2.2.2.2.2 h
    have hb : c.code = zx_bys k := by rw [← hk]; exact C.2.1
    exact row C.1 hb (hr _ _ _ _ _ _ _ q4 () C (Dy.g q1 q2) (hl.mono q1) ⟨q3, h3.mono q1⟩ (hret.mono q1 (fun _ z => z)))
theorem qh_lsh {op : Int64 → Int32 → Int64} {nx : Nat}
    (row : ∀ {x : Int64} {y : Int32} {p : Program} {l : Launch} {e : Env} {R : Room} {s : State} {m : MethodId} {args : Array Value} {below : List Frame} {meth : Method} {c : Code} {H : Heap} {locs : List Loc} {cells slots : Nat} {Q : State → Prop} {ls : Array Slot} {rest : List Value}, p.tables.exec = Jvm.exec → c.code = zx_bys k →
      W p l e R s m args below meth c H locs cells slots Q (F0 m nx ls (.long (op x y) :: rest)) → W p l e R s m args below meth c H locs cells slots Q (F0 m pc ls (.int y :: .long x :: rest))) : qy_Hok ex Γ D as tys k pc (q_lsh nx) := by
  intro rec hr fr g w lo st outs hk h _ fc ρ p l e R s m args below meth c A ws H locs cs sl ls sv Q C Dy hl hs hret
  match st, sv, hs, h with
  | b :: a :: r, vb :: va :: t, ⟨h1, h2, h3⟩, h =>
    obtain ⟨hb0, h⟩ := q_cond h
    obtain ⟨b1, b2⟩ := Bool.and_eq_true_iff.mp hb0
    obtain ⟨x, rfl⟩ := qy_isL b1 h2
    obtain ⟨y, rfl⟩ := qy_isI b2 h1
    obtain ⟨ρ', g', v, q1, q2, q3, q4⟩ := q_frL_ok (ex := ex) (as := as) (x := op x y) Dy.2.2.2.2.2 h
    have hb : c.code = zx_bys k := by rw [← hk]; exact C.2.1
    exact row C.1 hb (hr _ _ _ _ _ _ _ q4 () C (Dy.g q1 q2) (hl.mono q1) ⟨q3, h3.mono q1⟩ (hret.mono q1 (fun _ z => z)))
theorem qh_i2l {op : Int32 → Int64} {nx : Nat}
    (row : ∀ {x : Int32} {p : Program} {l : Launch} {e : Env} {R : Room} {s : State} {m : MethodId} {args : Array Value} {below : List Frame} {meth : Method} {c : Code} {H : Heap} {locs : List Loc} {cells slots : Nat} {Q : State → Prop} {ls : Array Slot} {rest : List Value}, p.tables.exec = Jvm.exec → c.code = zx_bys k →
      W p l e R s m args below meth c H locs cells slots Q (F0 m nx ls (.long (op x) :: rest)) → W p l e R s m args below meth c H locs cells slots Q (F0 m pc ls (.int x :: rest))) : qy_Hok ex Γ D as tys k pc (q_i2l nx) := by
  intro rec hr fr g w lo st outs hk h _ fc ρ p l e R s m args below meth c A ws H locs cs sl ls sv Q C Dy hl hs hret
  match st, sv, hs, h with
  | a :: r, va :: t, ⟨h2, h3⟩, h =>
    obtain ⟨hb0, h⟩ := q_cond h
    obtain ⟨x, rfl⟩ := qy_isI hb0 h2
    obtain ⟨ρ', g', v, q1, q2, q3, q4⟩ := q_frL_ok (ex := ex) (as := as) (x := op x) Dy.2.2.2.2.2 h
    have hb : c.code = zx_bys k := by rw [← hk]; exact C.2.1
    exact row C.1 hb (hr _ _ _ _ _ _ _ q4 () C (Dy.g q1 q2) (hl.mono q1) ⟨q3, h3.mono q1⟩ (hret.mono q1 (fun _ z => z)))
theorem qh_l2i {op : Int64 → Int32} {nx : Nat}
    (row : ∀ {x : Int64} {p : Program} {l : Launch} {e : Env} {R : Room} {s : State} {m : MethodId} {args : Array Value} {below : List Frame} {meth : Method} {c : Code} {H : Heap} {locs : List Loc} {cells slots : Nat} {Q : State → Prop} {ls : Array Slot} {rest : List Value}, p.tables.exec = Jvm.exec → c.code = zx_bys k →
      W p l e R s m args below meth c H locs cells slots Q (F0 m nx ls (.int (op x) :: rest)) → W p l e R s m args below meth c H locs cells slots Q (F0 m pc ls (.long x :: rest))) : qy_Hok ex Γ D as tys k pc (q_l2i nx) := by
  intro rec hr fr g w lo st outs hk h _ fc ρ p l e R s m args below meth c A ws H locs cs sl ls sv Q C Dy hl hs hret
  match st, sv, hs, h with
  | a :: r, va :: t, ⟨h2, h3⟩, h =>
    obtain ⟨hb0, h⟩ := q_cond h
    obtain ⟨x, rfl⟩ := qy_isL hb0 h2
    obtain ⟨ρ', g', v, q1, q2, q3, q4⟩ := q_ff_ok (ex := ex) (as := as) (x := op x) Dy.2.2.2.2.2 h
    have hb : c.code = zx_bys k := by rw [← hk]; exact C.2.1
    exact row C.1 hb (hr _ _ _ _ _ _ _ q4 () C (Dy.g q1 q2) (hl.mono q1) ⟨q3, h3.mono q1⟩ (hret.mono q1 (fun _ z => z)))
def q_c64 (x y : Int64) : Int32 := if x = y then 0 else if x < y then -1 else 1
theorem qh_lcmp {nx : Nat}
    (row : ∀ {x y : Int64} {p : Program} {l : Launch} {e : Env} {R : Room} {s : State} {m : MethodId} {args : Array Value} {below : List Frame} {meth : Method} {c : Code} {H : Heap} {locs : List Loc} {cells slots : Nat} {Q : State → Prop} {ls : Array Slot} {rest : List Value}, p.tables.exec = Jvm.exec → c.code = zx_bys k →
      W p l e R s m args below meth c H locs cells slots Q (F0 m nx ls (.int (q_c64 x y) :: rest)) → W p l e R s m args below meth c H locs cells slots Q (F0 m pc ls (.long y :: .long x :: rest))) : qy_Hok ex Γ D as tys k pc (q_lcmp nx) := by
  intro rec hr fr g w lo st outs hk h _ fc ρ p l e R s m args below meth c A ws H locs cs sl ls sv Q C Dy hl hs hret
  have hb : c.code = zx_bys k := by rw [← hk]; exact C.2.1
  have hg := Dy.2.2.2.2.2
  have bnd : ∀ x y : Int64, (-1 : Int) ≤ (q_c64 x y).toInt ∧ (q_c64 x y).toInt ≤ 1 := by
    intro x y
    unfold q_c64
    split
    · exact ⟨by decide, by decide⟩
    · split <;> exact ⟨by decide, by decide⟩
  have any : ∀ {x y : Int64} {r : List qV} {t : List Value}, qy_s ρ ex as r t → (q_fr g (.negSucc 0) 1 fun g v => rec fr g w lo (v :: r) nx) = some outs → W p l e R s m args below meth c H locs cs sl Q (F0 m pc ls (.long y :: .long x :: t)) := by
    intro x y r t h3 h
    obtain ⟨ρ', g', v, q1, q2, q3, q4⟩ := q_fr_ok (ex := ex) (as := as) (x := q_c64 x y) hg (bnd x y).1 (bnd x y).2 h
    exact row C.1 hb (hr _ _ _ _ _ _ _ q4 () C (Dy.g q1 q2) (hl.mono q1) ⟨q3, h3.mono q1⟩ (hret.mono q1 (fun _ z => z)))
  match st, sv, hs, h with
  | b :: .inr (.inr (.inr (.inr (.inl z1)))) :: r, vb :: va :: t, ⟨h1, ⟨x, h2, _⟩, h3⟩, h =>
    obtain ⟨hb0, h⟩ := q_cond h
    obtain ⟨y, rfl⟩ := qy_isL hb0 h1
    rw [h2]
    exact any h3 h
  | .inr (.inr (.inr (.inr (.inr (.inl s2))))) :: .inr (.inr (.inr (.inr (.inr (.inl s1))))) :: r, vb :: va :: t, ⟨⟨y, r2, h1, _, _⟩, ⟨x, r1, h2, _, _⟩, h3⟩, h =>
    rw [h1, h2]
    exact any h3 h
  | .inr (.inr (.inr (.inr (.inl z)))) :: .inr (.inr (.inr (.inr (.inr (.inl s1))))) :: r, vb :: va :: t, ⟨⟨y, h1, h4⟩, ⟨x, r1, h2, h5, h6⟩, h3⟩, h =>
    rw [h1, h2]
    obtain ⟨q, k1, k2⟩ := q_at_ok h
    obtain ⟨r', k3, k4, k5⟩ := hg.2.1 s1 q k1
    rw [h5] at k3
    cases k3
    obtain ⟨l1, m1, p1, p2, p3, p4⟩ := q_app_ok k2
    obtain ⟨l2, m2, u1, u2, u3, u4⟩ := q_app_ok p2
    refine row C.1 hb ?_
    rcases Int.lt_or_le x.toInt y.toInt with hlt | hle
    · have e : q_c64 x y = -1 := by
        unfold q_c64
        rw [if_neg (fun z => by rw [z] at hlt; omega), if_pos (Int64.lt_iff_toInt_lt.mpr hlt)]
      rw [e]
      rcases q_if p1 with ⟨hq, k6⟩ | ⟨hq, k6⟩
      · have := q_le_iff.mp hq; omega
      · rw [zx_i_eq, q_mni_eq] at k6
        obtain ⟨-, k7⟩ := q_set_ok k6
        exact hr _ _ _ _ _ _ _ k7 () C (Dy.g qe.rf (qy_gset (q := (q.1, min q.2 (Int.sub z 1))) hg h5 k4 (by show _ ≤ min q.2 (z - 1); omega))) hl ⟨qy_lit rfl, h3⟩ (hret.mono qe.rf p3)
    · rcases Int.lt_or_le y.toInt x.toInt with hlt2 | hle2
      · have e : q_c64 x y = 1 := by
          unfold q_c64
          rw [if_neg (fun z => by rw [z] at hlt2; omega), if_neg (fun z => by have := Int64.lt_iff_toInt_lt.mp z; omega)]
        rw [e]
        rcases q_if u2 with ⟨hq, k6⟩ | ⟨hq, k6⟩
        · have := q_le_iff.mp hq; omega
        · rw [zx_i_eq, q_mxi_eq] at k6
          obtain ⟨-, k7⟩ := q_set_ok k6
          exact hr _ _ _ _ _ _ _ k7 () C (Dy.g qe.rf (qy_gset (q := (max q.1 (Int.add z 1), q.2)) hg h5 (by show max q.1 (z + 1) ≤ _; omega) k5)) hl ⟨qy_lit rfl, h3⟩ (hret.mono qe.rf (fun o ho => p4 o (u4 o ho)))
      · have exy : x = y := Int64.toInt_inj.mp (by omega)
        have e : q_c64 x y = 0 := by
          unfold q_c64
          rw [if_pos exy]
        rw [e]
        rcases q_if u1 with ⟨hq, k6⟩ | ⟨hq, k6⟩
        · obtain ⟨-, k7⟩ := q_set_ok k6
          exact hr _ _ _ _ _ _ _ k7 () C (Dy.g qe.rf (qy_gset (q := (z, z)) hg h5 (by show z ≤ _; omega) (by show _ ≤ z; omega))) hl ⟨qy_lit rfl, h3⟩ (hret.mono qe.rf (fun o ho => p4 o (u3 o ho)))
        · exfalso
          have : q_le q.1 z = true ∧ q_le z q.2 = true := ⟨q_le_iff.mpr (by omega), q_le_iff.mpr (by omega)⟩
          rw [this.1, this.2] at hq
          cases hq
theorem q_cs_ok {ρ : List Int} {g : qG} {v : qV} {x : Int32} {kk : qG → Nat → qR} (hg : qy_g ρ g) (hv : qy_v ρ ex as v (.int x)) : ∀ {ks : List (Int × Nat)} {o : List qO}, q_cs g v kk ks = some o → (∀ q ∈ ks, ∃ y : Int32, y.toInt = q.1) → ∀ q ∈ ks, x.toInt = q.1 → qy_go ρ (fun g => kk g q.2) o
  | [], o, h, _, q, hq, _ => by cases hq
  | a :: ks, o, h, hy, q, hq, hx => by
    obtain ⟨l, m, p1, p2, p3, p4⟩ := q_app_ok (show q_app (q_as .eq g v (.inl a.1) fun g => kk g a.2) (q_cs g v kk ks) = some o from h)
    rcases List.mem_cons.mp hq with rfl | hq
    · obtain ⟨y, hy⟩ := hy q List.mem_cons_self
      have e : x = y := Int32.toInt_inj.mp (by omega)
      exact (q_as_ok (c := .eq) hg hv (qy_lit (ρ := ρ) (ex := ex) (as := as) hy) e p1).sub p3
    · exact (q_cs_ok hg hv p2 (fun q hq => hy q (List.mem_cons_of_mem _ hq)) q hq hx).sub p4
theorem q_num_ok : ∀ {ts : List Nat} {lo : Int} {kk : List (Int × Nat) → qR} {o : List qO}, q_num ts lo kk = some o → ∃ ks, kk ks = some o ∧ ks.length = ts.length ∧ (∀ (j t : Nat), ts[j]? = some t → ks[j]? = some (lo + j, t)) ∧ ∀ q ∈ ks, ∃ j : Nat, j < ts.length ∧ q.1 = lo + j
  | [], lo, kk, o, h => ⟨[], h, rfl, fun j t ht => by simp at ht, fun q hq => by cases hq⟩
  | a :: ts, lo, kk, o, h => by
    have h : zx_i (Int.add lo 1) (fun lo2 => q_num ts lo2 fun r => kk ((lo, a) :: r)) = some o := h
    rw [zx_i_eq] at h
    obtain ⟨ks, k1, k2, k3, k4⟩ := q_num_ok (ts := ts) h
    refine ⟨(lo, a) :: ks, k1, by simp [k2], fun j t ht => ?_, fun q hq => ?_⟩
    · cases j with
      | zero => cases ht; simp
      | succ j =>
        have := k3 j t ht
        rw [List.getElem?_cons_succ, this]
        congr 2
        show Int.add lo 1 + (j : Int) = lo + ((j + 1 : Nat) : Int)
        have : Int.add lo 1 = lo + 1 := rfl
        omega
    · rcases List.mem_cons.mp hq with rfl | hq
      · exact ⟨0, by simp, by simp⟩
      · obtain ⟨j, j1, j2⟩ := k4 q hq
        refine ⟨j + 1, by simp [j1], ?_⟩
        have : Int.add lo 1 = lo + 1 := rfl
        omega
theorem qh_tsw {dflt lo hi : Int} {offs : Array Int} {len d : Nat} {ts : List Nat} (hd : decode (zx_bys k) pc = .ok (.tableswitch dflt lo hi offs, len)) (h1 : (pc : Int) + dflt = (d : Int)) (h2 : hi = lo + ts.length - 1) (h3 : ∀ (j t : Nat), ts[j]? = some t → ∃ off, offs[j]? = some off ∧ (pc : Int) + off = (t : Int)) (hlo : -2147483648 ≤ lo) (hhi : hi ≤ 2147483647) (hlo2 : lo ≤ 2147483647) (hhi2 : -2147483648 ≤ hi) : qy_Hok ex Γ D as tys k pc (q_tsw lo hi (d :: ts)) := by
  intro rec hr fr g w lo2 st outs hk h _ fc ρ p l e R s m args below meth cd A ws H locs cs sl ls sv Q Cx Dy hl hs hret
  subst hk
  have hg := Dy.2.2.2.2.2
  match st, sv, hs, h with
  | a :: r, v :: t, ⟨e1, e2⟩, h =>
    have h : q_nm g a (fun v => q_num ts lo fun ks => q_app (q_cs g v (fun g t => rec fr g w lo2 r t) ks) (q_app (q_as .lt g v (.inl lo) fun g => rec fr g w lo2 r d) (q_as .gt g v (.inl hi) fun g => rec fr g w lo2 r d))) = some outs := h
    obtain ⟨a', e1, h⟩ := q_nm_ok hg e1 h
    obtain ⟨ks, k1, k2, k3, k4⟩ := q_num_ok h
    obtain ⟨l1, m1, p1, p2, p3, p4⟩ := q_app_ok k1
    obtain ⟨l2, m2, u1, u2, u3, u4⟩ := q_app_ok p2
    have lit : ∀ z : Int, -2147483648 ≤ z → z ≤ 2147483647 → ∃ y : Int32, y.toInt = z := fun z a b => ⟨Int32.ofInt z, by rw [Int32.toInt_ofInt]; exact q_bm_in a b⟩
    obtain ⟨yl, hyl⟩ := lit lo hlo hlo2
    obtain ⟨yh, hyh⟩ := lit hi hhi2 hhi
    obtain ⟨x, -, rfl, -⟩ := q_as_int hg e1 (qy_lit (ρ := ρ) (ex := ex) (as := as) hyl) u1
    by_cases hin : x.toInt < lo ∨ hi < x.toInt
    · refine lv_tableOut Cx.1 Cx.2.1 hd hin h1 ?_
      rcases hin with hz | hz
      · obtain ⟨g', o', f1, f2, f3⟩ := q_as_ok hg e1 (qy_lit (ρ := ρ) (ex := ex) (as := as) hyl) (c := .lt) (Int32.lt_iff_toInt_lt.mpr (by omega)) u1
        exact hr _ _ _ _ _ _ _ f2 () Cx (Dy.g qe.rf f1) hl e2 (hret.mono qe.rf (fun o ho => p4 o (u3 o (f3 o ho))))
      · obtain ⟨g', o', f1, f2, f3⟩ := q_as_ok hg e1 (qy_lit (ρ := ρ) (ex := ex) (as := as) hyh) (c := .gt) (Int32.lt_iff_toInt_lt.mpr (by omega)) u2
        exact hr _ _ _ _ _ _ _ f2 () Cx (Dy.g qe.rf f1) hl e2 (hret.mono qe.rf (fun o ho => p4 o (u4 o (f3 o ho))))
    · have hj : ∃ j : Nat, x.toInt = lo + j := ⟨(x.toInt - lo).toNat, by omega⟩
      obtain ⟨j, hj⟩ := hj
      have hjl : j < ts.length := by omega
      have htj : ts[j]? = some ts[j] := List.getElem?_eq_getElem hjl
      obtain ⟨off, o1, o2⟩ := h3 j _ htj
      have hm := List.mem_of_getElem? (k3 j _ htj)
      obtain ⟨g', o', f1, f2, f3⟩ := q_cs_ok (ex := ex) (as := as) hg e1 p1 (fun q hq => by obtain ⟨i, i1, i2⟩ := k4 q hq; exact lit _ (by omega) (by omega)) _ hm hj
      exact lv_tableIn Cx.1 Cx.2.1 hd (by omega) (by omega) (by rw [show (x.toInt - lo).toNat = j by omega]; exact o1) o2 (hr _ _ _ _ _ _ _ f2 () Cx (Dy.g qe.rf f1) hl e2 (hret.mono qe.rf (fun o ho => p3 o (f3 o ho))))
end QI
