/-! branches, switches, the stack, fields, arrays -/
section ZB
variable {xa : List (Nat × Nat × List zx_V)} {ρ : Nat → Int32} {ex : Nat → Value} {D : va_G} {k pc : Nat}
theorem zx_nm_ok {as : List Nat} {g : zx_G} {a : zx_V} {v : Value} {kk : zx_V → zx_R} {o : List zx_O} (hg : zy_g ρ g) (hv : zy_v ρ ex as a v) (h : zx_nm g a kk = some o) : ∃ b, zy_v ρ ex as b v ∧ kk b = some o := by
  match a, hv, h with
  | .inl _, hv, h => exact ⟨_, hv, h⟩
  | .inr (.inl _), hv, h => exact ⟨_, hv, h⟩
  | .inr (.inr (.inl _)), hv, h => exact ⟨_, hv, h⟩
  | .inr (.inr (.inr (.inl i))), hv, h =>
    obtain ⟨q, h1, h2⟩ := zx_at_ok h
    have hq := hg i q h1
    by_cases he : q.1 = q.2
    · rw [decide_eq_true he] at h2
      have h2 : zx_n (zx_u q.1) (fun n => kk (.inl n)) = some o := h2
      rw [zx_n_eq] at h2
      refine ⟨_, ?_, h2⟩
      show v = .int (Int32.ofNat (zx_u q.1))
      rw [show v = .int (ρ i) from hv]
      congr 1
      apply Int32.toInt_inj.mp
      rw [zy_toInt]
      have b1 := Int32.le_toInt (ρ i)
      have b2 := Int32.toInt_lt (ρ i)
      unfold zx_s zx_bs zx_u
      simp only [Int.ofNat_eq_natCast]
      omega
    · rw [decide_eq_false he] at h2
      exact ⟨_, hv, h2⟩
  | .inr (.inr (.inr (.inr (.inl _)))), hv, h => exact ⟨_, hv, h⟩
  | .inr (.inr (.inr (.inr (.inr _)))), hv, h => exact ⟨_, hv, h⟩
theorem zx_two_ok {p q : Bool} {x y : zx_R} {o : List zx_O} (h : zx_two p q x y = some o) : (p = true → ∃ l, x = some l ∧ ∀ z ∈ l, z ∈ o) ∧ (q = true → ∃ l, y = some l ∧ ∀ z ∈ l, z ∈ o) := by
  cases p <;> cases q
  · exact ⟨fun h => (by cases h), fun h => (by cases h)⟩
  · exact ⟨fun h => (by cases h), fun _ => ⟨o, h, fun _ z => z⟩⟩
  · exact ⟨fun _ => ⟨o, h, fun _ z => z⟩, fun h => (by cases h)⟩
  · cases x with
    | none => cases h
    | some l =>
      cases y with
      | none => cases h
      | some l2 =>
        cases h
        exact ⟨fun _ => ⟨l, rfl, fun z hz => List.mem_append_left _ hz⟩, fun _ => ⟨l2, rfl, fun z hz => List.mem_append_right _ hz⟩⟩
theorem zy_gset {g : zx_G} {i : Nat} {q : Int × Int} (hg : zy_g ρ g) (h1 : q.1 ≤ (ρ i).toInt) (h2 : (ρ i).toInt ≤ q.2) : zy_g ρ (g.set i q) := by
  intro j r hr
  rw [List.getElem?_set] at hr
  split at hr
  · rename_i e
    subst e
    split at hr
    · cases hr; exact ⟨h1, h2⟩
    · cases hr
  · exact hg j r hr
theorem zx_fork_ok {c : ClassFile.Cond} {i : Nat} {y : Int32} {g : zx_G} {kt kf : zx_G → zx_R} {o : List zx_O} (hg : zy_g ρ g) (h : zx_fork c i y.toInt g kt kf = some o) :
    (zy_cp c (ρ i) y → ∃ g' o', zy_g ρ g' ∧ kt g' = some o' ∧ ∀ z ∈ o', z ∈ o) ∧ (¬ zy_cp c (ρ i) y → ∃ g' o', zy_g ρ g' ∧ kf g' = some o' ∧ ∀ z ∈ o', z ∈ o) := by
  obtain ⟨q, h1, h2⟩ := zx_at_ok h
  simp only [zx_i_eq] at h2
  obtain ⟨h3, h4⟩ := zx_two_ok h2
  obtain ⟨b1, b2⟩ := hg i q h1
  refine ⟨fun hc => ?_, fun hc => ?_⟩
  · have hr := zy_ref b1 b2 hc
    obtain ⟨l, e1, e2⟩ := h3 (decide_eq_true (Int.le_trans hr.1 hr.2))
    obtain ⟨-, e3⟩ := zx_set_ok e1
    exact ⟨_, l, zy_gset hg hr.1 hr.2, e3, e2⟩
  · have hr := zy_ref b1 b2 ((zy_neg c (ρ i) y).mpr hc)
    obtain ⟨l, e1, e2⟩ := h4 (decide_eq_true (Int.le_trans hr.1 hr.2))
    obtain ⟨-, e3⟩ := zx_set_ok e1
    exact ⟨_, l, zy_gset hg hr.1 hr.2, e3, e2⟩
set_option maxRecDepth 100000 in
theorem zx_br_ok {as : List Nat} {c : ClassFile.Cond} {a b : zx_V} {va vb : Value} {g : zx_G} {kt kf : zx_G → zx_R} {o : List zx_O} (hg : zy_g ρ g) (ha : zy_v ρ ex as a va) (hb : zy_v ρ ex as b vb) (h : zx_br c a b g kt kf = some o) :
    ∃ x y, va = .int x ∧ vb = .int y ∧ (zy_cp c x y → ∃ g' o', zy_g ρ g' ∧ kt g' = some o' ∧ ∀ z ∈ o', z ∈ o) ∧ (¬ zy_cp c x y → ∃ g' o', zy_g ρ g' ∧ kf g' = some o' ∧ ∀ z ∈ o', z ∈ o) := by
  have dec : ∀ {x y : Int32} {t : Bool}, (t = true ↔ zy_cp c x y) → cond t (kt g) (kf g) = some o → (zy_cp c x y → ∃ g' o', zy_g ρ g' ∧ kt g' = some o' ∧ ∀ z ∈ o', z ∈ o) ∧ (¬ zy_cp c x y → ∃ g' o', zy_g ρ g' ∧ kf g' = some o' ∧ ∀ z ∈ o', z ∈ o) := by
    intro x y t ht h
    cases t with
    | true => exact ⟨fun _ => ⟨g, o, hg, h, fun _ z => z⟩, fun n => absurd (ht.mp rfl) n⟩
    | false => exact ⟨fun n => absurd (ht.mpr n) (by simp), fun _ => ⟨g, o, hg, h, fun _ z => z⟩⟩
  obtain ⟨a', ha', h⟩ := zx_nm_ok hg ha h
  obtain ⟨b', hb', h⟩ := zx_nm_ok hg hb h
  have f1 : ∀ (x i : Nat), va = .int (Int32.ofNat x) → vb = .int (ρ i) → zx_i (zx_s x) (fun t => zx_fork (zx_mir c) i t g kt kf) = some o → ∃ x y, va = .int x ∧ vb = .int y ∧ (zy_cp c x y → ∃ g' o', zy_g ρ g' ∧ kt g' = some o' ∧ ∀ z ∈ o', z ∈ o) ∧ (¬ zy_cp c x y → ∃ g' o', zy_g ρ g' ∧ kf g' = some o' ∧ ∀ z ∈ o', z ∈ o) := by
    intro x i ha hb h
    rw [zx_i_eq, ← zy_toInt] at h
    obtain ⟨h1, h2⟩ := zx_fork_ok hg h
    exact ⟨_, _, ha, hb, fun q => h1 ((zy_mir c _ _).mpr q), fun q => h2 (fun z => q ((zy_mir c _ _).mp z))⟩
  have f2 : ∀ (y i : Nat), va = .int (ρ i) → vb = .int (Int32.ofNat y) → zx_i (zx_s y) (fun t => zx_fork c i t g kt kf) = some o → ∃ x y, va = .int x ∧ vb = .int y ∧ (zy_cp c x y → ∃ g' o', zy_g ρ g' ∧ kt g' = some o' ∧ ∀ z ∈ o', z ∈ o) ∧ (¬ zy_cp c x y → ∃ g' o', zy_g ρ g' ∧ kf g' = some o' ∧ ∀ z ∈ o', z ∈ o) := by
    intro y i ha hb h
    rw [zx_i_eq, ← zy_toInt] at h
    obtain ⟨h1, h2⟩ := zx_fork_ok hg h
    exact ⟨_, _, ha, hb, h1, h2⟩
  rcases a' with x | _ | _ | i | _ | _
  · rcases b' with y | _ | _ | i | _ | _
    · exact ⟨_, _, ha', hb', dec (zy_cmp c x y) h⟩
    · cases h
    · cases h
    · exact f1 x i ha' hb' h
    · cases h
    · cases h
  · cases h
  · cases h
  · rcases b' with y | _ | _ | j | _ | _
    · exact f2 y i ha' hb' h
    · cases h
    · cases h
    · obtain ⟨h1, h2⟩ := zx_cond h
      have e := Nat.eq_of_beq_eq_true h1
      subst e
      refine ⟨_, _, ha', hb', dec ?_ h2⟩
      rw [zy_cmp, zy_cpI, zy_cpI]
      cases c <;> simp
    · cases h
    · cases h
  · cases h
  · cases h
theorem zy_D.g {s : State} {A : Nat → Prop} {fr : zx_Fr} {g g' : zx_G} {w : zx_Wd} {cs sl : Nat} {as : List Nat} {tys : List (ClassId × FieldType)} {ws : va_W} {H : Heap} {locs : List Loc} (h : zy_D ρ ex D s A fr g w cs sl as tys ws H locs) (hg : zy_g ρ g') : zy_D ρ ex D s A fr g' w cs sl as tys ws H locs :=
  ⟨h.1, h.2.1, h.2.2.1, h.2.2.2.1, h.2.2.2.2.1, hg, h.2.2.2.2.2.2⟩
theorem zh_if2 {c : ClassFile.Cond} {tgt nx : Nat} (row : ∀ {x y : Int32} {p : Program} {l : Launch} {e : Env} {R : Room} {s : State} {m : MethodId} {args : Array Value} {below : List Frame} {meth : Method} {cd : Code} {H : Heap} {locs : List Loc} {cells slots : Nat} {Q : State → Prop} {ls : Array Slot} {rest : List Value}, p.tables.exec = Jvm.exec → cd.code = zx_bys k →
      (zy_cp c x y → W p l e R s m args below meth cd H locs cells slots Q (F0 m tgt ls rest)) → (¬ zy_cp c x y → W p l e R s m args below meth cd H locs cells slots Q (F0 m nx ls rest)) → W p l e R s m args below meth cd H locs cells slots Q (F0 m pc ls (.int y :: .int x :: rest))) : zy_Hok xa ρ ex D k pc (zx_if2 c tgt nx) := by
  intro rec hr fr g w cs sl lo st outs hk h p l e R s m args below meth cd A as tys ws H locs ls sv Q C Dy hl hs hret
  have hb : cd.code = zx_bys k := by rw [← hk]; exact C.2.1
  match st, sv, hs, h with
  | b :: a :: r, vb :: va :: t, ⟨h1, h2, h3⟩, h =>
    have h : zx_br c a b g (fun g => rec fr g w cs sl lo r tgt) (fun g => rec fr g w cs sl lo r nx) = some outs := h
    obtain ⟨x, y, rfl, rfl, h4, h5⟩ := zx_br_ok Dy.2.2.2.2.2.1 h2 h1 h
    refine row C.1 hb (fun q => ?_) (fun q => ?_)
    · obtain ⟨g', o', e1, e2, e3⟩ := h4 q
      exact hr _ _ _ _ _ _ _ _ _ e2 C (Dy.g e1) hl h3 (hret.mono zy_p.rf e3)
    · obtain ⟨g', o', e1, e2, e3⟩ := h5 q
      exact hr _ _ _ _ _ _ _ _ _ e2 C (Dy.g e1) hl h3 (hret.mono zy_p.rf e3)
theorem zh_if1 {c : ClassFile.Cond} {tgt nx : Nat} (row : ∀ {x : Int32} {p : Program} {l : Launch} {e : Env} {R : Room} {s : State} {m : MethodId} {args : Array Value} {below : List Frame} {meth : Method} {cd : Code} {H : Heap} {locs : List Loc} {cells slots : Nat} {Q : State → Prop} {ls : Array Slot} {rest : List Value}, p.tables.exec = Jvm.exec → cd.code = zx_bys k →
      (zy_cp c x 0 → W p l e R s m args below meth cd H locs cells slots Q (F0 m tgt ls rest)) → (¬ zy_cp c x 0 → W p l e R s m args below meth cd H locs cells slots Q (F0 m nx ls rest)) → W p l e R s m args below meth cd H locs cells slots Q (F0 m pc ls (.int x :: rest))) : zy_Hok xa ρ ex D k pc (zx_if1 c tgt nx) := by
  intro rec hr fr g w cs sl lo st outs hk h p l e R s m args below meth cd A as tys ws H locs ls sv Q C Dy hl hs hret
  have hb : cd.code = zx_bys k := by rw [← hk]; exact C.2.1
  match st, sv, hs, h with
  | a :: r, va :: t, ⟨h2, h3⟩, h =>
    have h : zx_br c a (.inl 0) g (fun g => rec fr g w cs sl lo r tgt) (fun g => rec fr g w cs sl lo r nx) = some outs := h
    obtain ⟨x, y, rfl, hy, h4, h5⟩ := zx_br_ok Dy.2.2.2.2.2.1 h2 (show zy_v ρ ex as (.inl 0) (.int 0) from rfl) h
    cases hy
    refine row C.1 hb (fun q => ?_) (fun q => ?_)
    · obtain ⟨g', o', e1, e2, e3⟩ := h4 q
      exact hr _ _ _ _ _ _ _ _ _ e2 C (Dy.g e1) hl h3 (hret.mono zy_p.rf e3)
    · obtain ⟨g', o', e1, e2, e3⟩ := h5 q
      exact hr _ _ _ _ _ _ _ _ _ e2 C (Dy.g e1) hl h3 (hret.mono zy_p.rf e3)
theorem zh_stk {f : List zx_V → Option (List zx_V)} {nx : Nat} (row : ∀ {as : List Nat} {st s2 : List zx_V} {sv : List Value}, (∀ j, ex j = .null ∨ ∃ a, ex j = .ref a) → f st = some s2 → zy_s ρ ex as st sv → ∀ {p : Program} {l : Launch} {e : Env} {R : Room} {s : State} {m : MethodId} {args : Array Value} {below : List Frame} {meth : Method} {cd : Code} {H : Heap} {locs : List Loc} {cells slots : Nat} {Q : State → Prop} {ls : Array Slot}, p.tables.exec = Jvm.exec → cd.code = zx_bys k →
      (∀ sv2, zy_s ρ ex as s2 sv2 → W p l e R s m args below meth cd H locs cells slots Q (F0 m nx ls sv2)) → W p l e R s m args below meth cd H locs cells slots Q (F0 m pc ls sv)) : zy_Hok xa ρ ex D k pc (zx_stk f nx) := by
  intro rec hr fr g w cs sl lo st outs hk h p l e R s m args below meth cd A as tys ws H locs ls sv Q C Dy hl hs hret
  have hb : cd.code = zx_bys k := by rw [← hk]; exact C.2.1
  cases hf : f st with
  | none =>
    have h : (match f st with | some s2 => rec fr g w cs sl lo s2 nx | none => none) = some outs := h
    rw [hf] at h; cases h
  | some s2 =>
    have h : (match f st with | some s2 => rec fr g w cs sl lo s2 nx | none => none) = some outs := h
    rw [hf] at h
    exact row C.2.2.2.2.2.2.1.1 hf hs C.1 hb (fun sv2 h2 => hr _ _ _ _ _ _ _ _ _ h C Dy hl h2 hret)
/-- a cell of the picture is a cell of the world -/
theorem zy_obj {tys : List (ClassId × FieldType)} {as : List Nat} {w : zx_Wd} {ws : va_W} {a ci : Nat} {fs : List zx_V} {v : Value} (hw : zy_w ρ ex tys as w ws) (h : w[a]? = some (.inr (ci, fs))) (hv : zy_v ρ ex as (.inr (.inl (some a))) v) : ∃ (q : Nat) (gs : List Value), v = .ref q ∧ as[a]? = some q ∧ ws[a]? = some (q, .inr (ci, gs)) ∧ zy_s ρ ex as fs gs := by
  obtain ⟨q, h1, h2⟩ := hv
  obtain ⟨e, b, h3, h4, h5⟩ := hw.2.2 a _ h
  rw [h1] at h3
  cases h3
  match e, h5, h4 with
  | .inr (cj, gs), ⟨e1, e2⟩, h4 => cases e1; exact ⟨q, gs, h2, h1, h4, e2⟩
theorem zy_arr {tys : List (ClassId × FieldType)} {as : List Nat} {w : zx_Wd} {ws : va_W} {a t : Nat} {vs : List zx_V} {v : Value} (hw : zy_w ρ ex tys as w ws) (h : w[a]? = some (.inl (t, vs))) (hv : zy_v ρ ex as (.inr (.inl (some a))) v) : ∃ (q : Nat) (e : va_E), v = .ref q ∧ as[a]? = some q ∧ ws[a]? = some (q, e) ∧ zy_e ρ ex tys as (.inl (t, vs)) e := by
  obtain ⟨q, h1, h2⟩ := hv
  obtain ⟨e, b, h3, h4, h5⟩ := hw.2.2 a _ h
  rw [h1] at h3
  cases h3
  exact ⟨q, e, h2, h1, h4, h5⟩
theorem zy_wset {tys : List (ClassId × FieldType)} {as : List Nat} {w : zx_Wd} {ws : va_W} {a q : Nat} {e : zx_E} {f : va_E} (hw : zy_w ρ ex tys as w ws) (ha : as[a]? = some q) (he : zy_e ρ ex tys as e f) : zy_w ρ ex tys as (w.set a e) (ws.set a (q, f)) := by
  obtain ⟨h1, h2, h3⟩ := hw
  refine ⟨by rw [List.length_set]; exact h1, by rw [List.length_set, List.length_set]; exact h2, fun k e' hk => ?_⟩
  rw [List.getElem?_set] at hk
  split at hk
  · rename_i e1
    subst e1
    split at hk
    · rename_i hlt
      cases hk
      refine ⟨f, q, ha, ?_, he⟩
      rw [List.getElem?_set_self (by omega)]
    · cases hk
  · rename_i hne
    obtain ⟨x, b, e1, e2, e3⟩ := h3 k e' hk
    refine ⟨x, b, e1, ?_, e3⟩
    rw [List.getElem?_set_ne hne]
    exact e2
theorem zy_wpush {tys tys2 : List (ClassId × FieldType)} {as : List Nat} {w : zx_Wd} {ws : va_W} {q : Nat} {e : zx_E} {f : va_E} (hw : zy_w ρ ex tys as w ws) (ht : ∀ (i : Nat) (q : ClassId × FieldType), tys[i]? = some q → ∃ j : Nat, tys2[j]? = some q) (he : zy_e ρ ex tys2 (as ++ [q]) e f) : zy_w ρ ex tys2 (as ++ [q]) (w ++ [e]) (ws ++ [(q, f)]) := by
  obtain ⟨h1, h2, h3⟩ := hw
  refine ⟨by simp [h1], by simp [h2], fun k e' hk => ?_⟩
  by_cases hlt : k < w.length
  · rw [List.getElem?_append_left hlt] at hk
    obtain ⟨x, b, e1, e2, e3⟩ := h3 k e' hk
    exact ⟨x, b, zy_p.ap q _ _ e1, by rw [List.getElem?_append_left (by omega)]; exact e2, e3.mono (zy_p.ap q) ht⟩
  · have hk2 : k = w.length := by
      have := (List.getElem?_eq_some_iff.mp hk).1
      simp at this
      omega
    subst hk2
    rw [List.getElem?_append_right (Nat.le_refl _)] at hk
    simp at hk
    subst hk
    refine ⟨f, q, ?_, ?_, he⟩
    · rw [List.getElem?_append_right (by omega), h1]; simp
    · rw [List.getElem?_append_right (by omega), h2]; simp
/-- what the tables say of a class -/
def zk_cl (ci : Nat) : Prop := ∀ (C : String) (T : u_T) (N : Nat), zx_cl[ci]? = some (C, T, N) → (∀ w ∈ u_ws C T N, w ∈ zx_tb) ∧ (∀ a, a < N → ∀ b, b < N → a ≠ b → (T a).2.1 ≠ (T b).2.1) ∧ ∃ ty : Nat → FieldType, (∀ j, j < N → parseFieldDescriptor (T j).2.2.1 = some (ty j)) ∧ ∃ gs : List Value, (∀ j, j < N → defaultValue (ty j) = vp_V gs j) ∧ ∀ ρ ex as, zy_s ρ ex as (zx_dfl.getD ci []) gs
theorem zh_gf {ci j nx idx : Nat} {C : String} {T : u_T} {N : Nat} (hc : zx_cl[ci]? = some (C, T, N)) (hK0 : zk_cl ci) (hj : j < N) (hlink : Jvm.Cond.fieldLink (zx_name k).cls idx (T j).1 (T j).2.1 (T j).2.2.1 ∈ zx_tb) (hd : decode (zx_bys k) pc = .ok (.getfield idx, 3)) (hn : nx = pc + 3) : zy_Hok xa ρ ex D k pc (zx_gf ci j nx) := by
  intro rec hr fr g w cs sl lo st outs hk h p l e R s m args below meth cd A as tys ws H locs ls sv Q Cx Dy hl hs hret
  subst hk; subst hn
  match st, sv, hs, h with
  | .inr (.inl (some a)) :: r, v :: t, ⟨h1, h2⟩, h =>
    obtain ⟨x, h3, h4⟩ := zx_at_ok h
    match x, h3, h4 with
    | .inr (cj, fs), h3, h4 =>
      obtain ⟨h5, h6⟩ := zx_cond h4
      have e := Nat.eq_of_beq_eq_true h5
      have e : cj = ci := e
      subst e
      obtain ⟨u, h7, h8⟩ := zx_at_ok h6
      obtain ⟨q, gs, rfl, -, h9, h10⟩ := zy_obj Dy.2.2.2.2.1 h3 h1
      obtain ⟨v', h11, h12⟩ := h10.at j u h7
      exact va_get (own := (zx_name fr.2.1).cls) Cx.1 Cx.2.1 Cx.2.2.2.2.1 (hK0 C T N hc).1 Cx.2.2.2.1 Dy.1 Dy.2.1 a h9 hc j hj (Cx.2.2.2.2.1 _ hlink) (fun _ z => z) h11 hd (hr _ _ _ _ _ _ _ _ _ h8 Cx Dy hl ⟨h12, h2⟩ hret)
  | .inl _ :: r, _, _, h => cases h
  | .inr (.inl none) :: r, _, _, h => cases h
  | .inr (.inr _) :: r, _, _, h => cases h
def zx_tk (ty : FieldType) (t : Nat) : Prop := (t = 0 ∧ ty = .int) ∨ (t = 1 ∧ ty = .boolean) ∨ (t = 2 ∧ ((∃ n, ty = .object n) ∨ ∃ n, ty = .array n)) ∨ (t = 3 ∧ ty = .long) ∨ (t = 4 ∧ ty = .char) ∨ (t = 5 ∧ ty = .byte)
theorem zy_small : ∀ n, n < 128 → narrow .char (.int (Int32.ofNat n)) = .int (Int32.ofNat n) ∧ narrow .byte (.int (Int32.ofNat n)) = .int (Int32.ofNat n) ∧ fits .char (.int (Int32.ofNat n)) = true ∧ fits .byte (.int (Int32.ofNat n)) = true := by decide +kernel
theorem zy_fit (hex : ∀ j, ex j = .null ∨ ∃ a, ex j = .ref a) {as : List Nat} {ty : FieldType} {t : Nat} {a : zx_V} {v : Value} (ht : zx_tk ty t) (hf : zx_fit t a = true) (hv : zy_v ρ ex as a v) : narrow ty v = v ∧ fits ty v = true := by
  rcases ht with ⟨rfl, rfl⟩ | ⟨rfl, rfl⟩ | ⟨rfl, ht⟩ | ⟨rfl, rfl⟩ | ⟨rfl, rfl⟩ | ⟨rfl, rfl⟩
  · obtain ⟨x, rfl⟩ := zy_isI hf hv
    exact ⟨rfl, rfl⟩
  · match a, hf, hv with
    | .inl n, hf, hv =>
      have hn : n ≤ 1 := Nat.le_of_ble_eq_true hf
      rw [show v = _ from hv]
      rcases Nat.le_one_iff_eq_zero_or_eq_one.mp hn with rfl | rfl <;> exact ⟨by decide, by decide⟩
  · rcases zy_isA hex hf hv with rfl | ⟨q, rfl⟩ <;> rcases ht with ⟨n, rfl⟩ | ⟨n, rfl⟩ <;> exact ⟨rfl, rfl⟩
  · obtain ⟨x, rfl⟩ := zy_isL hf hv
    exact ⟨rfl, rfl⟩
  · match a, hf, hv with
    | .inl n, hf, hv =>
      have hn : n ≤ 127 := Nat.le_of_ble_eq_true hf
      rw [show v = _ from hv]
      have z := zy_small n (by omega)
      exact ⟨z.1, z.2.2.1⟩
  · match a, hf, hv with
    | .inl n, hf, hv =>
      have hn : n ≤ 127 := Nat.le_of_ble_eq_true hf
      rw [show v = _ from hv]
      have z := zy_small n (by omega)
      exact ⟨z.2.1, z.2.2.2⟩
theorem zh_pf {ci j t nx idx : Nat} {C : String} {T : u_T} {N : Nat} {ty : FieldType} (hc : zx_cl[ci]? = some (C, T, N)) (hK0 : zk_cl ci) (hj : j < N) (hlink : Jvm.Cond.fieldLink (zx_name k).cls idx (T j).1 (T j).2.1 (T j).2.2.1 ∈ zx_tb) (hty : parseFieldDescriptor (T j).2.2.1 = some ty) (htk : zx_tk ty t) (hfin : (T j).2.2.2 = false ∨ ((T j).2.2.2 = true ∧ (zx_name k).name = "<init>" ∧ (T j).1 = (zx_name k).cls)) (hd : decode (zx_bys k) pc = .ok (.putfield idx, 3)) (hn : nx = pc + 3) : zy_Hok xa ρ ex D k pc (zx_pf ci j t nx) := by
  intro rec hr fr g w cs sl lo st outs hk h p l e R s m args below meth cd A as tys ws H locs ls sv Q Cx Dy hl hs hret
  subst hk; subst hn
  match st, sv, hs, h with
  | x :: .inr (.inl (some a)) :: r, vx :: v :: tt, ⟨h0, h1, h2⟩, h =>
    obtain ⟨hfit, h⟩ := zx_cond h
    obtain ⟨z, h3, h4⟩ := zx_at_ok h
    match z, h3, h4 with
    | .inr (cj, fs), h3, h4 =>
      obtain ⟨h5, h6⟩ := zx_cond h4
      have e : cj = ci := Nat.eq_of_beq_eq_true h5
      subst e
      obtain ⟨h7, h8⟩ := zx_set_ok h6
      obtain ⟨-, h8⟩ := zx_set_ok h8
      obtain ⟨q, gs, rfl, haq, h9, h10⟩ := zy_obj Dy.2.2.2.2.1 h3 h1
      obtain ⟨k1, k2, ty0, k3, -⟩ := hK0 C T N hc
      obtain ⟨hnr, hfi⟩ := zy_fit Cx.2.2.2.2.2.2.1.1 htk hfit h0
      have hlen : j < gs.length := by rw [h10.len]; exact h7
      have fin : ∀ (H1 : Heap) (locs1 : List Loc), va_P D zx_cl (ws.set a (q, .inr (cj, gs.set j vx))) H1 → va_D A (ws.set a (q, .inr (cj, gs.set j vx))) → va_S A s.heap H1 locs1 → W p l e R s m args below meth cd H1 locs1 cs sl Q (F0 m (pc + 3) ls tt) := fun H1 locs1 p1 d1 s1 =>
        hr _ _ _ _ _ _ _ _ _ h8 Cx ⟨Dy.1, p1, d1, s1, zy_wset Dy.2.2.2.2.1 haq ⟨rfl, h10.set j h0⟩, Dy.2.2.2.2.2⟩ hl h2 hret
      rcases hfin with hf | ⟨hf, hi, ho⟩
      · exact va_put (own := (zx_name fr.2.1).cls) (ty := ty) Cx.1 Cx.2.1 Cx.2.2.2.2.1 k1 ty0 k3 k2 Cx.2.2.2.1 Dy.1 Dy.2.1 Dy.2.2.1 Dy.2.2.2.1 a h9 hc j hj (Cx.2.2.2.2.1 _ hlink) (fun _ z => z) hf hty hnr hfi hlen hd fin
      · exact va_putF (own := (zx_name fr.2.1).cls) (ty := ty) Cx.1 Cx.2.1 Cx.2.2.2.2.1 k1 ty0 k3 k2 Cx.2.2.2.1 Dy.1 Dy.2.1 Dy.2.2.1 Dy.2.2.2.1 a h9 hc j hj (Cx.2.2.2.2.1 _ hlink) (fun _ z => z) hf (Cx.2.2.2.2.2.2.2.2.2.2.2 hi) ho hty hnr hfi hlen hd fin
  | x :: .inl _ :: r, _, _, h => cases h
  | x :: .inr (.inl none) :: r, _, _, h => cases h
  | x :: .inr (.inr _) :: r, _, _, h => cases h
theorem zh_new {ci N nx idx : Nat} {C : String} {T : u_T} (hc : zx_cl[ci]? = some (C, T, N)) (hK0 : zk_cl ci) (h1 : Jvm.Cond.classLink (zx_name k).cls idx C ∈ zx_tb) (h2 : Jvm.Cond.instantiable C N ∈ zx_tb) (h3 : Jvm.Cond.initialized C ∈ zx_tb) (hd : decode (zx_bys k) pc = .ok (.new idx, 3)) (hn : nx = pc + 3) : zy_Hok xa ρ ex D k pc (zx_new ci N (zx_dfl.getD ci []) nx) := by
  intro rec hr fr g w cs sl lo st outs hk h p l e R s m args below meth cd A as tys ws H locs ls sv Q Cx Dy hl hs hret
  subst hk; subst hn
  have h : zx_n (cs + 1) _ = some outs := h
  rw [zx_n_eq, zx_n_eq] at h
  obtain ⟨hb, h⟩ := zx_cond h
  rw [zx_n_eq, zx_snoc_eq, zx_len_eq] at h
  obtain ⟨hb1, hb2⟩ := Bool.and_eq_true_iff.mp hb
  have hb1 := Nat.le_of_ble_eq_true hb1
  have hb2 := Nat.le_of_ble_eq_true hb2
  obtain ⟨k1, k2, ty0, k3, gs, k4, k5⟩ := hK0 C T N hc
  have hts := Cx.2.2.2.2.1
  have hw := Dy.2.2.2.2.1
  refine va_new (own := (zx_name fr.2.1).cls) (D := D) (cl := zx_cl) (ws := ws) (tys := tys) (A := A) (H0 := s.heap) (fs := gs) Cx.1 Cx.2.1 hts k1 ty0 k3 Cx.2.2.2.1 (hts _ h1) (hts _ h2) (hts _ h3) Dy.1 Dy.2.1 Dy.2.2.1 Dy.2.2.2.1 Cx.2.2.2.2.2.1 hc k4 (Nat.le_trans hb1 Cx.2.2.2.2.2.2.2.2.2.1) (Nat.le_trans hb2 Cx.2.2.2.2.2.2.2.2.2.2.1) hd (fun q H1 p1 d1 s1 => ?_)
  refine hr _ _ _ _ _ _ _ _ _ h Cx (as := as ++ [q]) ⟨Dy.1, p1, d1, s1, zy_wpush hw (fun i q hq => ⟨i, hq⟩) ⟨rfl, k5 _ _ _⟩, Dy.2.2.2.2.2.1, hb1, hb2⟩ (hl.mono (zy_p.ap q)) ⟨⟨q, ?_, rfl⟩, hs.mono (zy_p.ap q)⟩ (hret.mono (zy_p.ap q) (fun _ z => z))
  rw [List.getElem?_append_right (by rw [hw.1]; exact Nat.le_refl _), hw.1]
  simp
end ZB
