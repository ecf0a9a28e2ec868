/-! instructions that leave the heap as it is -/
section ZH
variable {xa : List (Nat × Nat × List zx_V)} {ρ : Nat → Int32} {ex : Nat → Value} {D : va_G} {k pc : Nat}
theorem zy_beq (a b : Nat) : (a == b) = Nat.beq a b := by
  cases h : Nat.beq a b with
  | true => exact beq_iff_eq.mpr (Nat.eq_of_beq_eq_true h)
  | false => exact beq_eq_false_iff_ne.mpr (Nat.ne_of_beq_eq_false h)
def zy_fl (ls : Array Slot) : List (Nat × Value) := (List.range ls.size).filterMap (fun i => match (ls[i]? : Option Slot) with
  | some (Slot.val v) => some (i, v)
  | _ => none)
theorem zy_fl_mem {ls : Array Slot} {i : Nat} {v : Value} (h : ls[i]? = some (.val v)) : (i, v) ∈ zy_fl ls := by
  refine List.mem_filterMap.mpr ⟨i, List.mem_range.mpr (Array.getElem?_eq_some_iff.mp h).1, ?_⟩
  rw [h]
theorem zy_fl_has {ls : Array Slot} {nL : Nat} (hs : ls.size = nL) (hw : lv_wf ls) : lv_has ls nL (zy_fl ls) := by
  refine ⟨hs, hw, fun q hq => ?_⟩
  obtain ⟨i, -, hi⟩ := List.mem_filterMap.mp hq
  cases h : ls[i]? with
  | none => rw [h] at hi; cases hi
  | some z =>
    rw [h] at hi
    cases z with
    | val v => cases hi; exact h
    | _ => cases hi
theorem zy_st1 (hex : ∀ j, ex j = .null ∨ ∃ a, ex j = .ref a) {as : List Nat} {ls ls' : Array Slot} {nL i : Nat} {lo : zx_L} {a : zx_V} {x : Value} (hl : zy_l ρ ex as ls nL lo) (hv : zy_v ρ ex as a x)
    (h : lv_has ls' nL ((i, x) :: (zy_fl ls).filter (fun q => !(q.1 == i) && !(q.1 + 1 == i && q.2.category == 2)))) :
    zy_l ρ ex as ls' nL ((i, a) :: lo.filter fun q => !(Nat.beq q.1 i || (Nat.beq (Nat.succ q.1) i && zx_isL q.2))) := by
  refine ⟨h.1, h.2.1, fun q hq => ?_⟩
  rcases List.mem_cons.mp hq with rfl | hq
  · exact ⟨x, h.2.2 (i, x) List.mem_cons_self, hv⟩
  · obtain ⟨hm, hb⟩ := List.mem_filter.mp hq
    obtain ⟨v, h1, h2⟩ := hl.2.2 q hm
    refine ⟨v, h.2.2 (q.1, v) (List.mem_cons_of_mem _ (List.mem_filter.mpr ⟨zy_fl_mem h1, ?_⟩)), h2⟩
    have hc := zy_cat hex h2
    have e1 : (q.1 == i) = Nat.beq q.1 i := zy_beq _ _
    have e2 : (q.1 + 1 == i) = Nat.beq (Nat.succ q.1) i := zy_beq _ _
    show (!(q.1 == i) && !(q.1 + 1 == i && v.category == 2)) = true
    rw [e1, e2, hc]
    revert hb
    cases Nat.beq q.1 i <;> cases Nat.beq (Nat.succ q.1) i <;> cases zx_isL q.2 <;> simp
theorem zy_st2 (hex : ∀ j, ex j = .null ∨ ∃ a, ex j = .ref a) {as : List Nat} {ls ls' : Array Slot} {nL i : Nat} {lo : zx_L} {a : zx_V} {x : Value} (hl : zy_l ρ ex as ls nL lo) (hv : zy_v ρ ex as a x)
    (h : lv_has ls' nL ((i, x) :: (zy_fl ls).filter (fun q => !(q.1 == i) && (!(q.1 == i + 1) && !(q.1 + 1 == i && q.2.category == 2))))) :
    zy_l ρ ex as ls' nL ((i, a) :: lo.filter fun q => !(Nat.beq q.1 i || (Nat.beq q.1 (Nat.succ i) || (Nat.beq (Nat.succ q.1) i && zx_isL q.2)))) := by
  refine ⟨h.1, h.2.1, fun q hq => ?_⟩
  rcases List.mem_cons.mp hq with rfl | hq
  · exact ⟨x, h.2.2 (i, x) List.mem_cons_self, hv⟩
  · obtain ⟨hm, hb⟩ := List.mem_filter.mp hq
    obtain ⟨v, h1, h2⟩ := hl.2.2 q hm
    refine ⟨v, h.2.2 (q.1, v) (List.mem_cons_of_mem _ (List.mem_filter.mpr ⟨zy_fl_mem h1, ?_⟩)), h2⟩
    have hc := zy_cat hex h2
    have e1 : (q.1 == i) = Nat.beq q.1 i := zy_beq _ _
    have e2 : (q.1 + 1 == i) = Nat.beq (Nat.succ q.1) i := zy_beq _ _
    have e3 : (q.1 == i + 1) = Nat.beq q.1 (Nat.succ i) := zy_beq _ _
    show (!(q.1 == i) && (!(q.1 == i + 1) && !(q.1 + 1 == i && v.category == 2))) = true
    rw [e1, e2, e3, hc]
    revert hb
    cases Nat.beq q.1 i <;> cases Nat.beq (Nat.succ q.1) i <;> cases zx_isL q.2 <;> cases Nat.beq q.1 (Nat.succ i) <;> simp
/-- a row that pushes a value that is known beforehand -/
theorem zh_push {a : zx_V} {v : Value} {nx : Nat} (hv : ∀ as, zy_v ρ ex as a v)
    (row : ∀ {p : Program} {l : Launch} {e : Env} {R : Room} {s : State} {m : MethodId} {args : Array Value} {below : List Frame} {meth : Method} {c : Code} {A : Nat → Prop} {H : Heap} {locs : List Loc} {cells slots : Nat} {Q : State → Prop} {ls : Array Slot} {rest : List Value} {fr : zx_Fr}, fr.2.1 = k → zy_C xa ρ ex p R s m args meth c A fr → va_S A s.heap H locs →
      W p l e R s m args below meth c H locs cells slots Q (F0 m nx ls (v :: rest)) → W p l e R s m args below meth c H locs cells slots Q (F0 m pc ls rest)) : zy_Hok xa ρ ex D k pc (zx_push a nx) := by
  intro rec hr fr g w cs sl lo st outs hk h p l e R s m args below meth c A as tys ws H locs ls sv Q C Dy hl hs hret
  refine row hk C Dy.2.2.2.1 ?_
  exact hr _ _ _ _ _ _ _ _ _ h C Dy hl ⟨hv as, hs⟩ hret
theorem zh_load {ok : zx_V → Bool} {i nx : Nat} (row : ∀ {as : List Nat} {a : zx_V} {v : Value}, (∀ j, ex j = .null ∨ ∃ a, ex j = .ref a) → ok a = true → zy_v ρ ex as a v → ∀ {p : Program} {l : Launch} {e : Env} {R : Room} {s : State} {m : MethodId} {args : Array Value} {below : List Frame} {meth : Method} {c : Code} {H : Heap} {locs : List Loc} {cells slots : Nat} {Q : State → Prop} {ls : Array Slot} {rest : List Value}, p.tables.exec = Jvm.exec → c.code = zx_bys k → ls[i]? = some (.val v) →
      W p l e R s m args below meth c H locs cells slots Q (F0 m nx ls (v :: rest)) → W p l e R s m args below meth c H locs cells slots Q (F0 m pc ls rest)) : zy_Hok xa ρ ex D k pc (zx_load ok i nx) := by
  intro rec hr fr g w cs sl lo st outs hk h p l e R s m args below meth c A as tys ws H locs ls sv Q C Dy hl hs hret
  obtain ⟨a, h1, h2⟩ := zx_get_ok h
  obtain ⟨h3, h4⟩ := zx_cond h2
  obtain ⟨v, h5, h6⟩ := hl.2.2 _ h1
  have hb : c.code = zx_bys k := by rw [← hk]; exact C.2.1
  exact row C.2.2.2.2.2.2.1.1 h3 h6 C.1 hb h5 (hr _ _ _ _ _ _ _ _ _ h4 C Dy hl ⟨h6, hs⟩ hret)
theorem zh_sto1 {ok : zx_V → Bool} {i nx : Nat} (row : ∀ {as : List Nat} {a : zx_V} {v : Value}, (∀ j, ex j = .null ∨ ∃ a, ex j = .ref a) → ok a = true → zy_v ρ ex as a v → ∀ {p : Program} {l : Launch} {e : Env} {R : Room} {s : State} {m : MethodId} {args : Array Value} {below : List Frame} {meth : Method} {c : Code} {H : Heap} {locs : List Loc} {cells slots : Nat} {Q : State → Prop} {ls : Array Slot} {rest : List Value}, p.tables.exec = Jvm.exec → c.code = zx_bys k → lv_has ls (zx_info k).1 (zy_fl ls) →
      (∀ ls' : Array Slot, lv_has ls' (zx_info k).1 ((i, v) :: (zy_fl ls).filter (fun q => !(q.1 == i) && !(q.1 + 1 == i && q.2.category == 2))) → W p l e R s m args below meth c H locs cells slots Q (F0 m nx ls' rest)) → W p l e R s m args below meth c H locs cells slots Q (F0 m pc ls (v :: rest))) : zy_Hok xa ρ ex D k pc (zx_sto1 ok i nx) := by
  intro rec hr fr g w cs sl lo st outs hk h p l e R s m args below meth c A as tys ws H locs ls sv Q C Dy hl hs hret
  match st, sv, hs, h with
  | a :: r, v :: t, ⟨h1, h2⟩, h =>
    obtain ⟨h3, h4⟩ := zx_cond h
    rw [zx_fil_eq] at h4
    have hb : c.code = zx_bys k := by rw [← hk]; exact C.2.1
    have hex := C.2.2.2.2.2.2.1.1
    subst hk
    exact row hex h3 h1 C.1 hb (zy_fl_has hl.1 hl.2.1) (fun ls' h' => hr _ _ _ _ _ _ _ _ _ h4 C Dy (zy_st1 hex hl h1 h') h2 hret)
theorem zh_sto2 {i nx : Nat} (row : ∀ {v : Int64} {p : Program} {l : Launch} {e : Env} {R : Room} {s : State} {m : MethodId} {args : Array Value} {below : List Frame} {meth : Method} {c : Code} {H : Heap} {locs : List Loc} {cells slots : Nat} {Q : State → Prop} {ls : Array Slot} {rest : List Value}, p.tables.exec = Jvm.exec → c.code = zx_bys k → lv_has ls (zx_info k).1 (zy_fl ls) →
      (∀ ls' : Array Slot, lv_has ls' (zx_info k).1 ((i, .long v) :: (zy_fl ls).filter (fun q => !(q.1 == i) && (!(q.1 == i + 1) && !(q.1 + 1 == i && q.2.category == 2)))) → W p l e R s m args below meth c H locs cells slots Q (F0 m nx ls' rest)) → W p l e R s m args below meth c H locs cells slots Q (F0 m pc ls (.long v :: rest))) : zy_Hok xa ρ ex D k pc (zx_sto2 i nx) := by
  intro rec hr fr g w cs sl lo st outs hk h p l e R s m args below meth c A as tys ws H locs ls sv Q C Dy hl hs hret
  match st, sv, hs, h with
  | a :: r, v :: t, ⟨h1, h2⟩, h =>
    obtain ⟨h3, h4⟩ := zx_cond h
    rw [zx_fil_eq] at h4
    have hb : c.code = zx_bys k := by rw [← hk]; exact C.2.1
    have hex := C.2.2.2.2.2.2.1.1
    subst hk
    obtain ⟨x, rfl⟩ := zy_isL h3 h1
    exact row C.1 hb (zy_fl_has hl.1 hl.2.1) (fun ls' h' => hr _ _ _ _ _ _ _ _ _ h4 C Dy (zy_st2 hex hl h1 h') h2 hret)
/-- what a sum of two values is -/
theorem zx_add_ok {as : List Nat} {a b : zx_V} {va vb : Value} {kk : zx_V → zx_R} {o : List zx_O} (ha : zy_v ρ ex as a va) (hb : zy_v ρ ex as b vb) (h : zx_add a b kk = some o) : ∃ (x y : Int32) (v : zx_V), va = .int x ∧ vb = .int y ∧ zy_v ρ ex as v (.int (x + y)) ∧ kk v = some o := by
  have hz : ∀ {n : Nat}, Nat.beq n 0 = true → Int32.ofNat n = 0 := fun {n} hn => by rw [Nat.eq_of_beq_eq_true hn]; rfl
  have key : ∀ {u v : zx_V} {vu vv : Value}, zy_v ρ ex as u vu → zy_v ρ ex as v vv → cond (zx_isI u && zx_isI v) (kk zx_top) none = some o → ∃ (x y : Int32) (r : zx_V), vu = .int x ∧ vv = .int y ∧ zy_v ρ ex as r (.int (x + y)) ∧ kk r = some o := by
    intro u v vu vv hu hv h
    obtain ⟨h1, h2⟩ := zx_cond h
    obtain ⟨x, rfl⟩ := zy_isI (Bool.and_eq_true_iff.mp h1).1 hu
    obtain ⟨y, rfl⟩ := zy_isI (Bool.and_eq_true_iff.mp h1).2 hv
    exact ⟨x, y, zx_top, rfl, rfl, ⟨_, rfl⟩, h2⟩
  have left : ∀ {n : Nat} {v : zx_V} {vv : Value}, zy_v ρ ex as v vv → cond (zx_isI v) (cond (Nat.beq n 0) (kk v) (kk zx_top)) none = some o → ∃ (x y : Int32) (r : zx_V), Value.int (Int32.ofNat n) = .int x ∧ vv = .int y ∧ zy_v ρ ex as r (.int (x + y)) ∧ kk r = some o := by
    intro n v vv hv h
    obtain ⟨h1, h2⟩ := zx_cond h
    obtain ⟨y, rfl⟩ := zy_isI h1 hv
    cases hn : Nat.beq n 0 with
    | true =>
      rw [hn] at h2
      exact ⟨_, y, v, rfl, rfl, by rw [hz hn, Int32.zero_add]; exact hv, h2⟩
    | false =>
      rw [hn] at h2
      exact ⟨_, y, zx_top, rfl, rfl, ⟨_, rfl⟩, h2⟩
  have right : ∀ {n : Nat} {v : zx_V} {vv : Value}, zy_v ρ ex as v vv → cond (zx_isI v) (cond (Nat.beq n 0) (kk v) (kk zx_top)) none = some o → ∃ (x y : Int32) (r : zx_V), vv = .int x ∧ Value.int (Int32.ofNat n) = .int y ∧ zy_v ρ ex as r (.int (x + y)) ∧ kk r = some o := by
    intro n v vv hv h
    obtain ⟨x, y, r, h1, h2, h3, h4⟩ := left hv h
    exact ⟨y, x, r, h2, h1, by rw [Int32.add_comm]; exact h3, h4⟩
  match a, b, ha, hb, h with
  | .inl x, .inl y, ha, hb, h =>
    have h : zx_n ((x + y) % 4294967296) (fun n => kk (.inl n)) = some o := h
    rw [zx_n_eq] at h
    exact ⟨_, _, _, ha, hb, by rw [← zy_add]; exact rfl, h⟩
  | .inl x, .inr (.inl v), ha, hb, h => cases h
  | .inl x, .inr (.inr (.inl v)), ha, hb, h => cases h
  | .inl x, .inr (.inr (.inr (.inl v))), ha, hb, h => rw [show va = _ from ha]; exact left hb h
  | .inl x, .inr (.inr (.inr (.inr (.inl v)))), ha, hb, h => cases h
  | .inl x, .inr (.inr (.inr (.inr (.inr v)))), ha, hb, h => rw [show va = _ from ha]; exact left hb h
  | .inr (.inl u), .inl y, ha, hb, h => cases h
  | .inr (.inr (.inl u)), .inl y, ha, hb, h => cases h
  | .inr (.inr (.inr (.inl u))), .inl y, ha, hb, h => rw [show vb = _ from hb]; exact right ha h
  | .inr (.inr (.inr (.inr (.inl u)))), .inl y, ha, hb, h => cases h
  | .inr (.inr (.inr (.inr (.inr u)))), .inl y, ha, hb, h => rw [show vb = _ from hb]; exact right ha h
  | .inr u, .inr v, ha, hb, h => exact key ha hb h
theorem zx_bop_ok {f : Nat → Nat → Nat} {op : Int32 → Int32 → Int32} (hf : ∀ a b, Int32.ofNat (f a b) = op (Int32.ofNat a) (Int32.ofNat b)) {as : List Nat} {a b : zx_V} {va vb : Value} {kk : zx_V → zx_R} {o : List zx_O} (ha : zy_v ρ ex as a va) (hb : zy_v ρ ex as b vb) (h : zx_bop f a b kk = some o) : ∃ (x y : Int32) (v : zx_V), va = .int x ∧ vb = .int y ∧ zy_v ρ ex as v (.int (op x y)) ∧ kk v = some o := by
  match a, b, ha, hb, h with
  | .inl x, .inl y, ha, hb, h =>
    have h : zx_n (f x y) (fun n => kk (.inl n)) = some o := h
    rw [zx_n_eq] at h
    exact ⟨_, _, _, ha, hb, by rw [← hf]; exact rfl, h⟩
  | .inl x, .inr v, ha, hb, h =>
    obtain ⟨h1, h2⟩ := zx_cond (show cond (zx_isI (.inr v)) (kk zx_top) none = some o from h)
    obtain ⟨y, rfl⟩ := zy_isI h1 hb
    exact ⟨_, y, zx_top, ha, rfl, ⟨_, rfl⟩, h2⟩
  | .inr u, b, ha, hb, h =>
    obtain ⟨h1, h2⟩ := zx_cond (show cond (zx_isI (.inr u) && zx_isI b) (kk zx_top) none = some o from h)
    obtain ⟨x, rfl⟩ := zy_isI (Bool.and_eq_true_iff.mp h1).1 ha
    obtain ⟨y, rfl⟩ := zy_isI (Bool.and_eq_true_iff.mp h1).2 hb
    exact ⟨x, y, zx_top, rfl, rfl, ⟨_, rfl⟩, h2⟩
theorem zx_div_ok {f : Nat → Nat → Nat} {op : Int32 → Int32 → Int32} (hf : ∀ a b, Int32.ofNat (f a b) = op (Int32.ofNat a) (Int32.ofNat b)) {as : List Nat} {a b : zx_V} {va vb : Value} {kk : zx_V → zx_R} {o : List zx_O} (ha : zy_v ρ ex as a va) (hb : zy_v ρ ex as b vb) (h : zx_div f a b kk = some o) : ∃ (x y : Int32) (v : zx_V), va = .int x ∧ vb = .int y ∧ ¬ y = 0 ∧ zy_v ρ ex as v (.int (op x y)) ∧ kk v = some o := by
  match a, b, ha, hb, h with
  | .inl x, .inl y, ha, hb, h =>
    have h : cond (Nat.beq (y % 4294967296) 0) none (zx_n (f x y) (fun n => kk (.inl n))) = some o := h
    cases hn : Nat.beq (y % 4294967296) 0 with
    | true => rw [hn] at h; cases h
    | false =>
      rw [hn] at h
      have h : zx_n (f x y) (fun n => kk (.inl n)) = some o := h
      rw [zx_n_eq] at h
      refine ⟨_, _, _, ha, hb, ?_, by rw [← hf]; exact rfl, h⟩
      intro q
      have q2 : (Int32.ofNat y).toInt = 0 := by rw [q]; rfl
      rw [zy_toInt] at q2
      unfold zx_s zx_bs at q2
      simp only [Int.ofNat_eq_natCast] at q2
      have : y % 4294967296 = 0 := by omega
      rw [this] at hn
      cases hn
  | .inl x, .inr v, ha, hb, h => cases h
  | .inr u, b, ha, hb, h => cases h
/-- a row over two ints -/
theorem zh_bin {f : zx_V → zx_V → (zx_V → zx_R) → zx_R} {op : Int32 → Int32 → Int32} {S : Int32 → Prop} {nx : Nat}
    (hf : ∀ {as : List Nat} {a b : zx_V} {va vb : Value} {kk : zx_V → zx_R} {o : List zx_O}, zy_v ρ ex as a va → zy_v ρ ex as b vb → f a b kk = some o → ∃ (x y : Int32) (v : zx_V), va = .int x ∧ vb = .int y ∧ S y ∧ zy_v ρ ex as v (.int (op x y)) ∧ kk v = some o)
    (row : ∀ {x y : Int32} {p : Program} {l : Launch} {e : Env} {R : Room} {s : State} {m : MethodId} {args : Array Value} {below : List Frame} {meth : Method} {c : Code} {H : Heap} {locs : List Loc} {cells slots : Nat} {Q : State → Prop} {ls : Array Slot} {rest : List Value}, p.tables.exec = Jvm.exec → c.code = zx_bys k → S y →
      W p l e R s m args below meth c H locs cells slots Q (F0 m nx ls (.int (op x y) :: rest)) → W p l e R s m args below meth c H locs cells slots Q (F0 m pc ls (.int y :: .int x :: rest))) : zy_Hok xa ρ ex D k pc (zx_bin f nx) := by
  intro rec hr fr g w cs sl lo st outs hk h p l e R s m args below meth c A as tys ws H locs ls sv Q C Dy hl hs hret
  match st, sv, hs, h with
  | b :: a :: r, vb :: va :: t, ⟨h1, h2, h3⟩, h =>
    obtain ⟨x, y, v, rfl, rfl, hS, h4, h5⟩ := hf h2 h1 h
    have hb : c.code = zx_bys k := by rw [← hk]; exact C.2.1
    exact row C.1 hb hS (hr _ _ _ _ _ _ _ _ _ h5 C Dy hl ⟨h4, h3⟩ hret)
theorem zh_lop {f : Nat → Nat → Nat} {op : Int64 → Int64 → Int64} {nx : Nat} (hf : ∀ a b, Int64.ofNat (f a b) = op (Int64.ofNat a) (Int64.ofNat b))
    (row : ∀ {x y : Int64} {p : Program} {l : Launch} {e : Env} {R : Room} {s : State} {m : MethodId} {args : Array Value} {below : List Frame} {meth : Method} {c : Code} {H : Heap} {locs : List Loc} {cells slots : Nat} {Q : State → Prop} {ls : Array Slot} {rest : List Value}, p.tables.exec = Jvm.exec → c.code = zx_bys k →
      W p l e R s m args below meth c H locs cells slots Q (F0 m nx ls (.long (op x y) :: rest)) → W p l e R s m args below meth c H locs cells slots Q (F0 m pc ls (.long y :: .long x :: rest))) : zy_Hok xa ρ ex D k pc (zx_bin (zx_lop f) nx) := by
  intro rec hr fr g w cs sl lo st outs hk h p l e R s m args below meth c A as tys ws H locs ls sv Q C Dy hl hs hret
  match st, sv, hs, h with
  | .inr (.inr (.inl y)) :: .inr (.inr (.inl x)) :: r, vb :: va :: t, ⟨h1, h2, h3⟩, h =>
    have h : zx_n (f x y) (fun n => rec fr g w cs sl lo (.inr (.inr (.inl n)) :: r) nx) = some outs := h
    rw [zx_n_eq] at h
    have hb : c.code = zx_bys k := by rw [← hk]; exact C.2.1
    rw [show vb = _ from h1, show va = _ from h2]
    exact row C.1 hb (hr _ _ _ _ _ _ _ _ _ h C Dy hl ⟨by rw [← hf]; exact rfl, h3⟩ hret)
  | .inl _ :: .inr (.inr (.inl x)) :: r, _, _, h => cases h
  | .inr (.inl _) :: .inr (.inr (.inl x)) :: r, _, _, h => cases h
  | .inr (.inr (.inr _)) :: .inr (.inr (.inl x)) :: r, _, _, h => cases h
  | _ :: .inl _ :: r, _, _, h => cases h
  | _ :: .inr (.inl _) :: r, _, _, h => cases h
  | _ :: .inr (.inr (.inr _)) :: r, _, _, h => cases h
theorem zh_cvI {f : Nat → Nat} {op : Int32 → Int32} {nx : Nat} (hf : ∀ a, Int32.ofNat (f a) = op (Int32.ofNat a))
    (row : ∀ {x : Int32} {p : Program} {l : Launch} {e : Env} {R : Room} {s : State} {m : MethodId} {args : Array Value} {below : List Frame} {meth : Method} {c : Code} {H : Heap} {locs : List Loc} {cells slots : Nat} {Q : State → Prop} {ls : Array Slot} {rest : List Value}, p.tables.exec = Jvm.exec → c.code = zx_bys k →
      W p l e R s m args below meth c H locs cells slots Q (F0 m nx ls (.int (op x) :: rest)) → W p l e R s m args below meth c H locs cells slots Q (F0 m pc ls (.int x :: rest))) : zy_Hok xa ρ ex D k pc (zx_una (zx_cvI f) nx) := by
  intro rec hr fr g w cs sl lo st outs hk h p l e R s m args below meth c A as tys ws H locs ls sv Q C Dy hl hs hret
  have hb : c.code = zx_bys k := by rw [← hk]; exact C.2.1
  match st, sv, hs, h with
  | .inl x :: r, v :: t, ⟨h1, h2⟩, h =>
    have h : zx_n (f x) (fun n => rec fr g w cs sl lo (.inl n :: r) nx) = some outs := h
    rw [zx_n_eq] at h
    rw [show v = _ from h1]
    exact row C.1 hb (hr _ _ _ _ _ _ _ _ _ h C Dy hl ⟨by rw [← hf]; exact rfl, h2⟩ hret)
  | .inr u :: r, v :: t, ⟨h1, h2⟩, h =>
    obtain ⟨h3, h4⟩ := zx_cond (show cond (zx_isI (.inr u)) (rec fr g w cs sl lo (zx_top :: r) nx) none = some outs from h)
    obtain ⟨x, rfl⟩ := zy_isI h3 h1
    exact row C.1 hb (hr _ _ _ _ _ _ _ _ _ h4 C Dy hl ⟨⟨_, rfl⟩, h2⟩ hret)
theorem zh_cvL {f : Nat → Nat} {op : Int32 → Int64} {nx : Nat} (hf : ∀ a, Int64.ofNat (f a) = op (Int32.ofNat a))
    (row : ∀ {x : Int32} {p : Program} {l : Launch} {e : Env} {R : Room} {s : State} {m : MethodId} {args : Array Value} {below : List Frame} {meth : Method} {c : Code} {H : Heap} {locs : List Loc} {cells slots : Nat} {Q : State → Prop} {ls : Array Slot} {rest : List Value}, p.tables.exec = Jvm.exec → c.code = zx_bys k →
      W p l e R s m args below meth c H locs cells slots Q (F0 m nx ls (.long (op x) :: rest)) → W p l e R s m args below meth c H locs cells slots Q (F0 m pc ls (.int x :: rest))) : zy_Hok xa ρ ex D k pc (zx_una (zx_cvL f) nx) := by
  intro rec hr fr g w cs sl lo st outs hk h p l e R s m args below meth c A as tys ws H locs ls sv Q C Dy hl hs hret
  have hb : c.code = zx_bys k := by rw [← hk]; exact C.2.1
  match st, sv, hs, h with
  | .inl x :: r, v :: t, ⟨h1, h2⟩, h =>
    have h : zx_n (f x) (fun n => rec fr g w cs sl lo (.inr (.inr (.inl n)) :: r) nx) = some outs := h
    rw [zx_n_eq] at h
    rw [show v = _ from h1]
    exact row C.1 hb (hr _ _ _ _ _ _ _ _ _ h C Dy hl ⟨by rw [← hf]; exact rfl, h2⟩ hret)
  | .inr u :: r, v :: t, ⟨h1, h2⟩, h => cases h
theorem zh_inc {i cc nx : Nat} (row : ∀ {x : Int32} {p : Program} {l : Launch} {e : Env} {R : Room} {s : State} {m : MethodId} {args : Array Value} {below : List Frame} {meth : Method} {c : Code} {H : Heap} {locs : List Loc} {cells slots : Nat} {Q : State → Prop} {ls : Array Slot} {rest : List Value}, p.tables.exec = Jvm.exec → c.code = zx_bys k → lv_has ls (zx_info k).1 (zy_fl ls) → ls[i]? = some (.val (.int x)) →
      (∀ ls' : Array Slot, lv_has ls' (zx_info k).1 ((i, .int (x + Int32.ofNat cc)) :: (zy_fl ls).filter (fun q => !(q.1 == i) && !(q.1 + 1 == i && q.2.category == 2))) → W p l e R s m args below meth c H locs cells slots Q (F0 m nx ls' rest)) → W p l e R s m args below meth c H locs cells slots Q (F0 m pc ls rest)) : zy_Hok xa ρ ex D k pc (zx_inc i cc nx) := by
  intro rec hr fr g w cs sl lo st outs hk h p l e R s m args below meth c A as tys ws H locs ls sv Q C Dy hl hs hret
  obtain ⟨a, h1, h2⟩ := zx_get_ok h
  obtain ⟨v, h5, h6⟩ := hl.2.2 _ h1
  obtain ⟨x, y, u, rfl, h7, h8, h9⟩ := zx_add_ok h6 (show zy_v ρ ex as (.inl cc) (.int (Int32.ofNat cc)) from rfl) h2
  cases h7
  rw [zx_fil_eq] at h9
  have hb : c.code = zx_bys k := by rw [← hk]; exact C.2.1
  subst hk
  exact row C.1 hb (zy_fl_has hl.1 hl.2.1) h5 (fun ls' h' => hr _ _ _ _ _ _ _ _ _ h9 C Dy (zy_st1 C.2.2.2.2.2.2.1.1 hl h8 h') hs hret)
theorem zh_goto {t : Nat} (row : ∀ {p : Program} {l : Launch} {e : Env} {R : Room} {s : State} {m : MethodId} {args : Array Value} {below : List Frame} {meth : Method} {c : Code} {H : Heap} {locs : List Loc} {cells slots : Nat} {Q : State → Prop} {ls : Array Slot} {rest : List Value}, p.tables.exec = Jvm.exec → c.code = zx_bys k →
      W p l e R s m args below meth c H locs cells slots Q (F0 m t ls rest) → W p l e R s m args below meth c H locs cells slots Q (F0 m pc ls rest)) : zy_Hok xa ρ ex D k pc (zx_goto t) := by
  intro rec hr fr g w cs sl lo st outs hk h p l e R s m args below meth c A as tys ws H locs ls sv Q C Dy hl hs hret
  exact row C.1 (by rw [← hk]; exact C.2.1) (hr _ _ _ _ _ _ _ _ _ h C Dy hl hs hret)
theorem zh_bad : zy_Hok xa ρ ex D k pc zx_bad := by
  intro rec hr fr g w cs sl lo st outs hk h
  cases h
end ZH
