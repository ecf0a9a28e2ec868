/-! the frame that the second executor walks -/
def q_ρ0 : Nat → Int32 := fun _ => 0
def qy_C (ex : Nat → Value) (p : Program) (R : Room) (s : State) (m : MethodId) (args : Array Value) (meth : Method) (c : Code) (A : Nat → Prop) (fr : qFr) (cs sl : Nat) : Prop := zy_C zx_xa0 q_ρ0 ex p R s m args meth c A (fr.1, fr.2.1, 0, cs, sl)
def qy_D (ρ : List Int) (ex : Nat → Value) (fc : Nat → Nat → Int32) (D : va_G) (s : State) (A : Nat → Prop) (g : qG) (w : List qE) (as : List Nat) (tys : List (ClassId × FieldType)) (ws : va_W) (H : Heap) (locs : List Loc) : Prop :=
  va_K D zx_cl tys s ∧ va_P D zx_cl ws H ∧ va_D A ws ∧ va_S A s.heap H locs ∧ qy_w ρ ex fc tys as w ws ∧ qy_g ρ g
def qy_rt (ρ : List Int) (ex : Nat → Value) (as : List Nat) (k pc : Nat) (rv : Option qV) (st : List Value) : Prop := match rv with
  | none => st = [] ∧ decode (zx_bys k) pc = .ok (.return_, 1) ∧ (zx_info k).2.1 = none
  | some a => ∃ v, st = [v] ∧ qy_v ρ ex as a v ∧ ((decode (zx_bys k) pc = .ok (.ireturn, 1) ∧ ∃ (x : Int32) (ty : FieldType), v = .int x ∧ (zx_info k).2.1 = some ty ∧ (ty = .int ∨ narrow ty (.int x) = .int x)) ∨ (decode (zx_bys k) pc = .ok (.lreturn, 1) ∧ (zx_info k).2.1 = some .long ∧ ∃ x, v = .long x))
/-- ghosts: which may be, and which of them stay -/
abbrev qΓ : Type := ((Nat → Nat → Int32) → Prop) × (Nat → Prop)
/-- from one ghost to a later one -/
def qγ (Γ : qΓ) (a b : Nat → Nat → Int32) : Prop := Γ.1 b ∧ ∀ i, Γ.2 i → a i = b i
theorem qγ.tr {Γ : qΓ} {a b c : Nat → Nat → Int32} (h1 : qγ Γ a b) (h2 : qγ Γ b c) : qγ Γ a c := ⟨h2.1, fun i hi => (h1.2 i hi).trans (h2.2 i hi)⟩
abbrev qP : Type := (Nat → Nat → Int32) → List Int → qO → Prop
/-- the way goes on from every end that P allows -/
def qy_RP (ex : Nat → Value) (D : va_G) (as : List Nat) (tys : List (ClassId × FieldType)) (p : Program) (l : Launch) (e : Env) (R : Room) (s : State) (m : MethodId) (args : Array Value) (below : List Frame) (meth : Method) (c : Code) (A : Nat → Prop) (k cs sl : Nat) (P : qP) (Q : State → Prop) : Prop :=
  ∀ (o : qO) (fc' : Nat → Nat → Int32) (ρ' : List Int) (ws' : va_W) (H' : Heap) (locs' : List Loc), P fc' ρ' o → qy_D ρ' ex fc' D s A o.1 o.2.1 as tys ws' H' locs' →
    (∀ rv, o.2.2 = .inl rv → ∀ (pc' : Nat) (ls' : Array Slot) (st' : List Value), qy_rt ρ' ex as k pc' rv st' → W p l e R s m args below meth c H' locs' cs sl Q (F0 m pc' ls' st')) ∧
    (∀ pc' lo' st', o.2.2 = .inr (pc', lo', st') → ∀ (ls' : Array Slot) (sv' : List Value), qy_l ρ' ex as ls' (zx_info k).1 lo' → qy_s ρ' ex as st' sv' → W p l e R s m args below meth c H' locs' cs sl Q (F0 m pc' ls' sv'))
def qP_o (Γ : qΓ) (fc : Nat → Nat → Int32) (ρ : List Int) (outs : List qO) : qP := fun fc' ρ' o => o ∈ outs ∧ qe ρ ρ' ∧ qγ Γ fc fc'
def qy_RET (ρ : List Int) (ex : Nat → Value) (fc : Nat → Nat → Int32) (Γ : qΓ) (D : va_G) (as : List Nat) (tys : List (ClassId × FieldType)) (p : Program) (l : Launch) (e : Env) (R : Room) (s : State) (m : MethodId) (args : Array Value) (below : List Frame) (meth : Method) (c : Code) (A : Nat → Prop) (fr : qFr) (cs sl : Nat) (outs : List qO) (Q : State → Prop) : Prop :=
  Γ.1 fc ∧ qy_RP ex D as tys p l e R s m args below meth c A fr.2.1 cs sl (qP_o Γ fc ρ outs) Q
section QRET
variable {ρ ρ' : List Int} {ex : Nat → Value} {fc fc' : Nat → Nat → Int32} {Γ : qΓ} {D : va_G} {as : List Nat} {tys : List (ClassId × FieldType)} {p : Program} {l : Launch} {e : Env} {R : Room} {s : State} {m : MethodId} {args : Array Value} {below : List Frame} {meth : Method} {c : Code} {A : Nat → Prop} {fr : qFr} {cs sl : Nat} {outs o2 : List qO} {Q : State → Prop}
theorem qy_RET.at (h : qy_RET ρ ex fc Γ D as tys p l e R s m args below meth c A fr cs sl outs Q) (hp : qe ρ ρ') (ho : ∀ o ∈ o2, o ∈ outs) (hγ : qγ Γ fc fc') : qy_RET ρ' ex fc' Γ D as tys p l e R s m args below meth c A fr cs sl o2 Q := ⟨hγ.1, fun o f r ws' H' locs' hz => h.2 o f r ws' H' locs' ⟨ho o hz.1, hp.tr hz.2.1, hγ.tr hz.2.2⟩⟩
theorem qy_RET.mono (h : qy_RET ρ ex fc Γ D as tys p l e R s m args below meth c A fr cs sl outs Q) (hp : qe ρ ρ') (ho : ∀ o ∈ o2, o ∈ outs) : qy_RET ρ' ex fc Γ D as tys p l e R s m args below meth c A fr cs sl o2 Q := h.at hp ho ⟨h.1, fun _ _ => rfl⟩
theorem qy_RET.here (h : qy_RET ρ ex fc Γ D as tys p l e R s m args below meth c A fr cs sl outs Q) {o : qO} (ho : o ∈ outs) (hp : qe ρ ρ') {ws' : va_W} {H' : Heap} {locs' : List Loc} (Dy : qy_D ρ' ex fc D s A o.1 o.2.1 as tys ws' H' locs') :
    (∀ rv, o.2.2 = .inl rv → ∀ (pc' : Nat) (ls' : Array Slot) (st' : List Value), qy_rt ρ' ex as fr.2.1 pc' rv st' → W p l e R s m args below meth c H' locs' cs sl Q (F0 m pc' ls' st')) ∧
    (∀ pc' lo' st', o.2.2 = .inr (pc', lo', st') → ∀ (ls' : Array Slot) (sv' : List Value), qy_l ρ' ex as ls' (zx_info fr.2.1).1 lo' → qy_s ρ' ex as st' sv' → W p l e R s m args below meth c H' locs' cs sl Q (F0 m pc' ls' sv')) := h.2 o fc ρ' ws' H' locs' ⟨ho, hp, h.1, fun _ _ => rfl⟩ Dy
end QRET
/-- from a state with these ghosts and numbers: it goes to an end that P allows -/
def qy_TP (ex : Nat → Value) (D : va_G) (as : List Nat) (tys : List (ClassId × FieldType)) (d k : Nat) (fc : Nat → Nat → Int32) (ρ : List Int) (g : qG) (w : List qE) (lo : qL) (st : List qV) (pc : Nat) (P : qP) : Prop :=
  ∀ _ : Unit, ∀ {p : Program} {l : Launch} {e : Env} {R : Room} {s : State} {m : MethodId} {args : Array Value} {below : List Frame} {meth : Method} {c : Code} {A : Nat → Prop} {ws : va_W} {H : Heap} {locs : List Loc} {cs sl : Nat} {ls : Array Slot} {sv : List Value} {Q : State → Prop},
    qy_C ex p R s m args meth c A (d, k, []) cs sl → qy_D ρ ex fc D s A g w as tys ws H locs → qy_l ρ ex as ls (zx_info k).1 lo → qy_s ρ ex as st sv → qy_RP ex D as tys p l e R s m args below meth c A k cs sl P Q → W p l e R s m args below meth c H locs cs sl Q (F0 m pc ls sv)
def qy_T (ex : Nat → Value) (Γ : qΓ) (D : va_G) (as : List Nat) (tys : List (ClassId × FieldType)) (fr : qFr) (g : qG) (w : List qE) (lo : qL) (st : List qV) (pc : Nat) (outs : List qO) : Prop :=
  ∀ _ : Unit, ∀ {fc : Nat → Nat → Int32} {ρ : List Int} {p : Program} {l : Launch} {e : Env} {R : Room} {s : State} {m : MethodId} {args : Array Value} {below : List Frame} {meth : Method} {c : Code} {A : Nat → Prop} {ws : va_W} {H : Heap} {locs : List Loc} {cs sl : Nat} {ls : Array Slot} {sv : List Value} {Q : State → Prop},
    qy_C ex p R s m args meth c A fr cs sl → qy_D ρ ex fc D s A g w as tys ws H locs → qy_l ρ ex as ls (zx_info fr.2.1).1 lo → qy_s ρ ex as st sv → qy_RET ρ ex fc Γ D as tys p l e R s m args below meth c A fr cs sl outs Q → W p l e R s m args below meth c H locs cs sl Q (F0 m pc ls sv)
theorem qy_T.TP {ex : Nat → Value} {Γ : qΓ} {D : va_G} {as : List Nat} {tys : List (ClassId × FieldType)} {d k : Nat} {cuts : List Nat} {fc : Nat → Nat → Int32} {ρ : List Int} {g : qG} {w : List qE} {lo : qL} {st : List qV} {pc : Nat} {outs : List qO} (h : qy_T ex Γ D as tys (d, k, cuts) g w lo st pc outs) (hΓ : Γ.1 fc) : qy_TP ex D as tys d k fc ρ g w lo st pc (qP_o Γ fc ρ outs) := by
  intro _ p l e R s m args below meth c A ws H locs cs sl ls sv Q C Dy hl hs hret
  exact h () (ρ := ρ) C Dy hl hs ⟨hΓ, hret⟩
def qy_Snd (ex : Nat → Value) (Γ : qΓ) (D : va_G) (as : List Nat) (tys : List (ClassId × FieldType)) (rec : qRec) : Prop := ∀ fr g w lo st pc outs, rec fr g w lo st pc = some outs → qy_T ex Γ D as tys fr g w lo st pc outs
def qy_Hok (ex : Nat → Value) (Γ : qΓ) (D : va_G) (as : List Nat) (tys : List (ClassId × FieldType)) (k pc : Nat) (h : qHd) : Prop := ∀ rec, qy_Snd ex Γ D as tys rec → ∀ fr g w lo st outs, fr.2.1 = k → h rec fr g w lo st pc = some outs → qy_T ex Γ D as tys fr g w lo st pc outs
theorem qy_D.g {ρ ρ' : List Int} {ex : Nat → Value} {fc : Nat → Nat → Int32} {D : va_G} {as : List Nat} {tys : List (ClassId × FieldType)} {s : State} {A : Nat → Prop} {g g' : qG} {w : List qE} {ws : va_W} {H : Heap} {locs : List Loc} (h : qy_D ρ ex fc D s A g w as tys ws H locs) (hp : qe ρ ρ') (hg : qy_g ρ' g') : qy_D ρ' ex fc D s A g' w as tys ws H locs :=
  ⟨h.1, h.2.1, h.2.2.1, h.2.2.2.1, h.2.2.2.2.1.mono hp, hg⟩
/-! instructions that leave the heap as it is -/
section QH
variable {ex : Nat → Value} {fc : Nat → Nat → Int32} {Γ : qΓ} {D : va_G} {as : List Nat} {tys : List (ClassId × FieldType)} {k pc : Nat}
theorem qy_st1 {ρ : List Int} (hex : ∀ j, ex j = .null ∨ ∃ a, ex j = .ref a) {ls ls' : Array Slot} {nL i : Nat} {lo : qL} {a : qV} {x : Value} (hl : qy_l ρ ex as ls nL lo) (hv : qy_v ρ ex as a x)
    (h : lv_has ls' nL ((i, x) :: (zy_fl ls).filter (fun q => !(q.1 == i) && !(q.1 + 1 == i && q.2.category == 2)))) :
    qy_l ρ ex as ls' nL ((i, a) :: lo.filter fun q => !(Nat.beq q.1 i || (Nat.beq (Nat.succ q.1) i && q_isL q.2))) := by
  refine ⟨h.1, h.2.1, fun q hq => ?_⟩
  rcases List.mem_cons.mp hq with rfl | hq
  · exact ⟨x, h.2.2 (i, x) List.mem_cons_self, hv⟩
  · obtain ⟨hm, hb⟩ := List.mem_filter.mp hq
    obtain ⟨v, h1, h2⟩ := hl.2.2 q hm
    refine ⟨v, h.2.2 (q.1, v) (List.mem_cons_of_mem _ (List.mem_filter.mpr ⟨zy_fl_mem h1, ?_⟩)), h2⟩
    have hc := qy_cat hex h2
    have e1 : (q.1 == i) = Nat.beq q.1 i := zy_beq _ _
    have e2 : (q.1 + 1 == i) = Nat.beq (Nat.succ q.1) i := zy_beq _ _
    show (!(q.1 == i) && !(q.1 + 1 == i && v.category == 2)) = true
    rw [e1, e2, hc]
    revert hb
    cases Nat.beq q.1 i <;> cases Nat.beq (Nat.succ q.1) i <;> cases q_isL q.2 <;> simp
theorem qy_st2 {ρ : List Int} (hex : ∀ j, ex j = .null ∨ ∃ a, ex j = .ref a) {ls ls' : Array Slot} {nL i : Nat} {lo : qL} {a : qV} {x : Value} (hl : qy_l ρ ex as ls nL lo) (hv : qy_v ρ ex as a x)
    (h : lv_has ls' nL ((i, x) :: (zy_fl ls).filter (fun q => !(q.1 == i) && (!(q.1 == i + 1) && !(q.1 + 1 == i && q.2.category == 2))))) :
    qy_l ρ ex as ls' nL ((i, a) :: lo.filter fun q => !(Nat.beq q.1 i || (Nat.beq q.1 (Nat.succ i) || (Nat.beq (Nat.succ q.1) i && q_isL q.2)))) := by
  refine ⟨h.1, h.2.1, fun q hq => ?_⟩
  rcases List.mem_cons.mp hq with rfl | hq
  · exact ⟨x, h.2.2 (i, x) List.mem_cons_self, hv⟩
  · obtain ⟨hm, hb⟩ := List.mem_filter.mp hq
    obtain ⟨v, h1, h2⟩ := hl.2.2 q hm
    refine ⟨v, h.2.2 (q.1, v) (List.mem_cons_of_mem _ (List.mem_filter.mpr ⟨zy_fl_mem h1, ?_⟩)), h2⟩
    have hc := qy_cat hex h2
    have e1 : (q.1 == i) = Nat.beq q.1 i := zy_beq _ _
    have e2 : (q.1 + 1 == i) = Nat.beq (Nat.succ q.1) i := zy_beq _ _
    have e3 : (q.1 == i + 1) = Nat.beq q.1 (Nat.succ i) := zy_beq _ _
    show (!(q.1 == i) && (!(q.1 == i + 1) && !(q.1 + 1 == i && v.category == 2))) = true
    rw [e1, e2, e3, hc]
    revert hb
    cases Nat.beq q.1 i <;> cases Nat.beq (Nat.succ q.1) i <;> cases q_isL q.2 <;> cases Nat.beq q.1 (Nat.succ i) <;> simp
theorem qh_push {a : qV} {v : Value} {nx : Nat} (hv : ∀ ρ, qy_v ρ ex as a v)
    (row : ∀ {p : Program} {l : Launch} {e : Env} {R : Room} {s : State} {m : MethodId} {args : Array Value} {below : List Frame} {meth : Method} {c : Code} {A : Nat → Prop} {H : Heap} {locs : List Loc} {cells slots : Nat} {Q : State → Prop} {ls : Array Slot} {rest : List Value} {fr : qFr}, fr.2.1 = k → qy_C ex p R s m args meth c A fr cells slots → va_S A s.heap H locs →
      W p l e R s m args below meth c H locs cells slots Q (F0 m nx ls (v :: rest)) → W p l e R s m args below meth c H locs cells slots Q (F0 m pc ls rest)) : qy_Hok ex Γ D as tys k pc (q_push a nx) := by
  intro rec hr fr g w lo st outs hk h _ fc ρ p l e R s m args below meth c A ws H locs cs sl ls sv Q C Dy hl hs hret
  refine row hk C Dy.2.2.2.1 ?_
  exact hr _ _ _ _ _ _ _ h () C Dy hl ⟨hv ρ, hs⟩ hret
theorem qh_load {ok : qV → Bool} {i nx : Nat} (row : ∀ {ρ : List Int} {a : qV} {v : Value}, (∀ j, ex j = .null ∨ ∃ a, ex j = .ref a) → ok a = true → qy_v ρ ex as a v → ∀ {p : Program} {l : Launch} {e : Env} {R : Room} {s : State} {m : MethodId} {args : Array Value} {below : List Frame} {meth : Method} {c : Code} {H : Heap} {locs : List Loc} {cells slots : Nat} {Q : State → Prop} {ls : Array Slot} {rest : List Value}, p.tables.exec = Jvm.exec → c.code = zx_bys k → ls[i]? = some (.val v) →
      W p l e R s m args below meth c H locs cells slots Q (F0 m nx ls (v :: rest)) → W p l e R s m args below meth c H locs cells slots Q (F0 m pc ls rest)) : qy_Hok ex Γ D as tys k pc (q_load ok i nx) := by
  intro rec hr fr g w lo st outs hk h _ fc ρ p l e R s m args below meth c A ws H locs cs sl ls sv Q C Dy hl hs hret
  obtain ⟨a, h1, h2⟩ := q_get_ok h
  obtain ⟨h3, h4⟩ := q_cond h2
  obtain ⟨v, h5, h6⟩ := hl.2.2 _ h1
  have hb : c.code = zx_bys k := by rw [← hk]; exact C.2.1
  exact row C.2.2.2.2.2.2.1.1 h3 h6 C.1 hb h5 (hr _ _ _ _ _ _ _ h4 () C Dy hl ⟨h6, hs⟩ hret)
theorem qh_sto1 {ok : qV → Bool} {i nx : Nat} (row : ∀ {ρ : List Int} {a : qV} {v : Value}, (∀ j, ex j = .null ∨ ∃ a, ex j = .ref a) → ok a = true → qy_v ρ ex as a v → ∀ {p : Program} {l : Launch} {e : Env} {R : Room} {s : State} {m : MethodId} {args : Array Value} {below : List Frame} {meth : Method} {c : Code} {H : Heap} {locs : List Loc} {cells slots : Nat} {Q : State → Prop} {ls : Array Slot} {rest : List Value}, p.tables.exec = Jvm.exec → c.code = zx_bys k → lv_has ls (zx_info k).1 (zy_fl ls) →
      (∀ ls' : Array Slot, lv_has ls' (zx_info k).1 ((i, v) :: (zy_fl ls).filter (fun q => !(q.1 == i) && !(q.1 + 1 == i && q.2.category == 2))) → W p l e R s m args below meth c H locs cells slots Q (F0 m nx ls' rest)) → W p l e R s m args below meth c H locs cells slots Q (F0 m pc ls (v :: rest))) : qy_Hok ex Γ D as tys k pc (q_sto1 ok i nx) := by
  intro rec hr fr g w lo st outs hk h _ fc ρ p l e R s m args below meth c A ws H locs cs sl ls sv Q C Dy hl hs hret
  match st, sv, hs, h with
  | a :: r, v :: t, ⟨h1, h2⟩, h =>
    obtain ⟨h3, h4⟩ := q_cond h
    rw [q_fil_eq] at h4
    have hb : c.code = zx_bys k := by rw [← hk]; exact C.2.1
    have hex := C.2.2.2.2.2.2.1.1
    subst hk
    exact row hex h3 h1 C.1 hb (zy_fl_has hl.1 hl.2.1) (fun ls' h' => hr _ _ _ _ _ _ _ h4 () C Dy (qy_st1 hex hl h1 h') h2 hret)
theorem qh_sto2 {i nx : Nat} (row : ∀ {v : Int64} {p : Program} {l : Launch} {e : Env} {R : Room} {s : State} {m : MethodId} {args : Array Value} {below : List Frame} {meth : Method} {c : Code} {H : Heap} {locs : List Loc} {cells slots : Nat} {Q : State → Prop} {ls : Array Slot} {rest : List Value}, p.tables.exec = Jvm.exec → c.code = zx_bys k → lv_has ls (zx_info k).1 (zy_fl ls) →
      (∀ ls' : Array Slot, lv_has ls' (zx_info k).1 ((i, .long v) :: (zy_fl ls).filter (fun q => !(q.1 == i) && (!(q.1 == i + 1) && !(q.1 + 1 == i && q.2.category == 2)))) → W p l e R s m args below meth c H locs cells slots Q (F0 m nx ls' rest)) → W p l e R s m args below meth c H locs cells slots Q (F0 m pc ls (.long v :: rest))) : qy_Hok ex Γ D as tys k pc (q_sto2 i nx) := by
  intro rec hr fr g w lo st outs hk h _ fc ρ p l e R s m args below meth c A ws H locs cs sl ls sv Q C Dy hl hs hret
  match st, sv, hs, h with
  | a :: r, v :: t, ⟨h1, h2⟩, h =>
    obtain ⟨h3, h4⟩ := q_cond h
    rw [q_fil_eq] at h4
    have hb : c.code = zx_bys k := by rw [← hk]; exact C.2.1
    have hex := C.2.2.2.2.2.2.1.1
    subst hk
    obtain ⟨x, rfl⟩ := qy_isL h3 h1
    exact row C.1 hb (zy_fl_has hl.1 hl.2.1) (fun ls' h' => hr _ _ _ _ _ _ _ h4 () C Dy (qy_st2 hex hl h1 h') h2 hret)
/-- a row over two ints -/
theorem qh_bin {f : qG → qV → qV → (qG → qV → qR) → qR} {op : Int32 → Int32 → Int32} {S : Int32 → Prop} {nx : Nat}
    (hf : ∀ {ρ : List Int} {g : qG} {a b : qV} {va vb : Value} {kk : qG → qV → qR} {o : List qO}, qy_g ρ g → qy_v ρ ex as a va → qy_v ρ ex as b vb → f g a b kk = some o → ∃ (x y : Int32), va = .int x ∧ vb = .int y ∧ S y ∧ qy_res ρ ex as (op x y) kk o)
    (row : ∀ {x y : Int32} {p : Program} {l : Launch} {e : Env} {R : Room} {s : State} {m : MethodId} {args : Array Value} {below : List Frame} {meth : Method} {c : Code} {H : Heap} {locs : List Loc} {cells slots : Nat} {Q : State → Prop} {ls : Array Slot} {rest : List Value}, p.tables.exec = Jvm.exec → c.code = zx_bys k → S y →
      W p l e R s m args below meth c H locs cells slots Q (F0 m nx ls (.int (op x y) :: rest)) → W p l e R s m args below meth c H locs cells slots Q (F0 m pc ls (.int y :: .int x :: rest))) : qy_Hok ex Γ D as tys k pc (q_bin f nx) := by
  intro rec hr fr g w lo st outs hk h _ fc ρ p l e R s m args below meth c A ws H locs cs sl ls sv Q C Dy hl hs hret
  match st, sv, hs, h with
  | b :: a :: r, vb :: va :: t, ⟨h1, h2, h3⟩, h =>
    obtain ⟨x, y, rfl, rfl, hS, ρ', g', v, q1, q2, q3, q4⟩ := hf Dy.2.2.2.2.2 h2 h1 h
    have hb : c.code = zx_bys k := by rw [← hk]; exact C.2.1
    exact row C.1 hb hS (hr _ _ _ _ _ _ _ q4 () C (Dy.g q1 q2) (hl.mono q1) ⟨q3, h3.mono q1⟩ (hret.mono q1 (fun _ z => z)))
theorem qh_una {f : qG → qV → (qG → qV → qR) → qR} {op : Int32 → Int32} {nx : Nat}
    (hf : ∀ {ρ : List Int} {g : qG} {a : qV} {va : Value} {kk : qG → qV → qR} {o : List qO}, qy_g ρ g → qy_v ρ ex as a va → f g a kk = some o → ∃ (x : Int32), va = .int x ∧ qy_res ρ ex as (op x) kk o)
    (row : ∀ {x : Int32} {p : Program} {l : Launch} {e : Env} {R : Room} {s : State} {m : MethodId} {args : Array Value} {below : List Frame} {meth : Method} {c : Code} {H : Heap} {locs : List Loc} {cells slots : Nat} {Q : State → Prop} {ls : Array Slot} {rest : List Value}, p.tables.exec = Jvm.exec → c.code = zx_bys k →
      W p l e R s m args below meth c H locs cells slots Q (F0 m nx ls (.int (op x) :: rest)) → W p l e R s m args below meth c H locs cells slots Q (F0 m pc ls (.int x :: rest))) : qy_Hok ex Γ D as tys k pc (q_una f nx) := by
  intro rec hr fr g w lo st outs hk h _ fc ρ p l e R s m args below meth c A ws H locs cs sl ls sv Q C Dy hl hs hret
  match st, sv, hs, h with
  | a :: r, va :: t, ⟨h2, h3⟩, h =>
    obtain ⟨x, rfl, ρ', g', v, q1, q2, q3, q4⟩ := hf Dy.2.2.2.2.2 h2 h
    have hb : c.code = zx_bys k := by rw [← hk]; exact C.2.1
    exact row C.1 hb (hr _ _ _ _ _ _ _ q4 () C (Dy.g q1 q2) (hl.mono q1) ⟨q3, h3.mono q1⟩ (hret.mono q1 (fun _ z => z)))
theorem qh_inc {i nx : Nat} {cc : Int32} {z : Int} (hz : cc.toInt = z) (row : ∀ {x : Int32} {p : Program} {l : Launch} {e : Env} {R : Room} {s : State} {m : MethodId} {args : Array Value} {below : List Frame} {meth : Method} {c : Code} {H : Heap} {locs : List Loc} {cells slots : Nat} {Q : State → Prop} {ls : Array Slot} {rest : List Value}, p.tables.exec = Jvm.exec → c.code = zx_bys k → lv_has ls (zx_info k).1 (zy_fl ls) → ls[i]? = some (.val (.int x)) →
      (∀ ls' : Array Slot, lv_has ls' (zx_info k).1 ((i, .int (x + cc)) :: (zy_fl ls).filter (fun q => !(q.1 == i) && !(q.1 + 1 == i && q.2.category == 2))) → W p l e R s m args below meth c H locs cells slots Q (F0 m nx ls' rest)) → W p l e R s m args below meth c H locs cells slots Q (F0 m pc ls rest)) : qy_Hok ex Γ D as tys k pc (q_inc i z nx) := by
  intro rec hr fr g w lo st outs hk h _ fc ρ p l e R s m args below meth c A ws H locs cs sl ls sv Q C Dy hl hs hret
  obtain ⟨a, h1, h2⟩ := q_get_ok h
  obtain ⟨v, h5, h6⟩ := hl.2.2 _ h1
  obtain ⟨x, y, rfl, h7, ρ', g', u, q1, q2, q3, q4⟩ := q_sum_ok (Or.inl rfl) (op := fun x y => x + y) q_add32 Dy.2.2.2.2.2 h6 (qy_lit (ρ := ρ) (ex := ex) (as := as) hz) h2
  cases h7
  dsimp only at q4
  rw [q_fil_eq] at q4
  have hb : c.code = zx_bys k := by rw [← hk]; exact C.2.1
  subst hk
  exact row C.1 hb (zy_fl_has hl.1 hl.2.1) h5 (fun ls' h' => hr _ _ _ _ _ _ _ q4 () C (Dy.g q1 q2) (qy_st1 C.2.2.2.2.2.2.1.1 (hl.mono q1) q3 h') (hs.mono q1) (hret.mono q1 (fun _ z => z)))
theorem qh_goto {t : Nat} (row : ∀ {p : Program} {l : Launch} {e : Env} {R : Room} {s : State} {m : MethodId} {args : Array Value} {below : List Frame} {meth : Method} {c : Code} {H : Heap} {locs : List Loc} {cells slots : Nat} {Q : State → Prop} {ls : Array Slot} {rest : List Value}, p.tables.exec = Jvm.exec → c.code = zx_bys k →
      W p l e R s m args below meth c H locs cells slots Q (F0 m t ls rest) → W p l e R s m args below meth c H locs cells slots Q (F0 m pc ls rest)) : qy_Hok ex Γ D as tys k pc (q_goto t) := by
  intro rec hr fr g w lo st outs hk h _ fc ρ p l e R s m args below meth c A ws H locs cs sl ls sv Q C Dy hl hs hret
  exact row C.1 (by rw [← hk]; exact C.2.1) (hr _ _ _ _ _ _ _ h () C Dy hl hs hret)
theorem qh_bad : qy_Hok ex Γ D as tys k pc q_bad := by
  intro rec hr fr g w lo st outs hk h
  cases h
theorem qh_if2 {c : ClassFile.Cond} {tgt nx : Nat} (row : ∀ {x y : Int32} {p : Program} {l : Launch} {e : Env} {R : Room} {s : State} {m : MethodId} {args : Array Value} {below : List Frame} {meth : Method} {cd : Code} {H : Heap} {locs : List Loc} {cells slots : Nat} {Q : State → Prop} {ls : Array Slot} {rest : List Value}, p.tables.exec = Jvm.exec → cd.code = zx_bys k →
      (zy_cp c x y → W p l e R s m args below meth cd H locs cells slots Q (F0 m tgt ls rest)) → (¬ zy_cp c x y → W p l e R s m args below meth cd H locs cells slots Q (F0 m nx ls rest)) → W p l e R s m args below meth cd H locs cells slots Q (F0 m pc ls (.int y :: .int x :: rest))) : qy_Hok ex Γ D as tys k pc (q_if2 c tgt nx) := by
  intro rec hr fr g w lo st outs hk h _ fc ρ p l e R s m args below meth cd A ws H locs cs sl ls sv Q C Dy hl hs hret
  have hb : cd.code = zx_bys k := by rw [← hk]; exact C.2.1
  match st, sv, hs, h with
  | b :: a :: r, vb :: va :: t, ⟨h1, h2, h3⟩, h =>
    obtain ⟨x, y, rfl, rfl, h4, h5⟩ := q_br_ok Dy.2.2.2.2.2 h2 h1 h
    refine row C.1 hb (fun q => ?_) (fun q => ?_)
    · obtain ⟨g', o', e1, e2, e3⟩ := h4 q
      exact hr _ _ _ _ _ _ _ e2 () C (Dy.g qe.rf e1) hl h3 (hret.mono qe.rf e3)
    · obtain ⟨g', o', e1, e2, e3⟩ := h5 q
      exact hr _ _ _ _ _ _ _ e2 () C (Dy.g qe.rf e1) hl h3 (hret.mono qe.rf e3)
theorem qh_if1 {c : ClassFile.Cond} {tgt nx : Nat} (row : ∀ {x : Int32} {p : Program} {l : Launch} {e : Env} {R : Room} {s : State} {m : MethodId} {args : Array Value} {below : List Frame} {meth : Method} {cd : Code} {H : Heap} {locs : List Loc} {cells slots : Nat} {Q : State → Prop} {ls : Array Slot} {rest : List Value}, p.tables.exec = Jvm.exec → cd.code = zx_bys k →
      (zy_cp c x 0 → W p l e R s m args below meth cd H locs cells slots Q (F0 m tgt ls rest)) → (¬ zy_cp c x 0 → W p l e R s m args below meth cd H locs cells slots Q (F0 m nx ls rest)) → W p l e R s m args below meth cd H locs cells slots Q (F0 m pc ls (.int x :: rest))) : qy_Hok ex Γ D as tys k pc (q_if1 c tgt nx) := by
  intro rec hr fr g w lo st outs hk h _ fc ρ p l e R s m args below meth cd A ws H locs cs sl ls sv Q C Dy hl hs hret
  have hb : cd.code = zx_bys k := by rw [← hk]; exact C.2.1
  match st, sv, hs, h with
  | a :: r, va :: t, ⟨h2, h3⟩, h =>
    obtain ⟨x, y, rfl, hy, h4, h5⟩ := q_br_ok Dy.2.2.2.2.2 h2 (qy_lit (ρ := ρ) (ex := ex) (as := as) (x := 0) (z := 0) rfl) h
    cases hy
    refine row C.1 hb (fun q => ?_) (fun q => ?_)
    · obtain ⟨g', o', e1, e2, e3⟩ := h4 q
      exact hr _ _ _ _ _ _ _ e2 () C (Dy.g qe.rf e1) hl h3 (hret.mono qe.rf e3)
    · obtain ⟨g', o', e1, e2, e3⟩ := h5 q
      exact hr _ _ _ _ _ _ _ e2 () C (Dy.g qe.rf e1) hl h3 (hret.mono qe.rf e3)
theorem qh_stk {f : List qV → Option (List qV)} {nx : Nat} (row : ∀ {ρ : List Int} {st s2 : List qV} {sv : List Value}, (∀ j, ex j = .null ∨ ∃ a, ex j = .ref a) → f st = some s2 → qy_s ρ ex as st sv → ∀ {p : Program} {l : Launch} {e : Env} {R : Room} {s : State} {m : MethodId} {args : Array Value} {below : List Frame} {meth : Method} {cd : Code} {H : Heap} {locs : List Loc} {cells slots : Nat} {Q : State → Prop} {ls : Array Slot}, p.tables.exec = Jvm.exec → cd.code = zx_bys k →
      (∀ sv2, qy_s ρ ex as s2 sv2 → W p l e R s m args below meth cd H locs cells slots Q (F0 m nx ls sv2)) → W p l e R s m args below meth cd H locs cells slots Q (F0 m pc ls sv)) : qy_Hok ex Γ D as tys k pc (q_stk f nx) := by
  intro rec hr fr g w lo st outs hk h _ fc ρ p l e R s m args below meth cd A ws H locs cs sl ls sv Q C Dy hl hs hret
  have hb : cd.code = zx_bys k := by rw [← hk]; exact C.2.1
  have h : (match f st with | some s2 => rec fr g w lo s2 nx | none => none) = some outs := h
  cases hf : f st with
  | none => rw [hf] at h; cases h
  | some s2 =>
    rw [hf] at h
    exact row C.2.2.2.2.2.2.1.1 hf hs C.1 hb (fun sv2 h2 => hr _ _ _ _ _ _ _ h () C Dy hl h2 hret)
end QH
